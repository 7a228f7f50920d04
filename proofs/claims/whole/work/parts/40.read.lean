/-! the class reads a tape: numbers, facts, what is joined -/
section TS
variable {d : Nat} {b : Bool} {G : aG} {I J I0 : aI} {Q : Option aV → aG → aI → aI → Prop} {n w0 e p : Int} {fl : Bool} {ts : List Int} {bs : Int → Int}
theorem sp_numberF (hG : GW b G) (hp : Tp I0 bs n w0) (h : TC I0 n w0 e I true p ts) (k : ∀ I', TC I0 n w0 e I' true p ts → Q (some (vI 0)) G I' J) : At (d + 1) 83 0 [some (vR 10), none, none, none] [] G I J Q := by
  have h4 : I 10 3 = 1 := h.2.2.2.1
  refine b_X8_number_0 hG (sp_next hG hp h (b_X8_number_8 hG (b_X8_number_9 hG (fun _ => b_X8_number_76 hG (fun q => absurd rfl q) (fun _ => b_X8_number_80 hG (k _ h.bad))) (fun q => ?_))))
  omega
theorem nu_it {x1 x2 : Int} (hG : GW b G) (hp : Tp I0 bs n w0) (h : TC I0 n w0 e I false p ts) (hx : 0 ≤ x1 ∧ (x2 < 3 → x1 ≤ 99)) (hx2 : 0 ≤ x2 ∧ x2 ≤ 3)
    (k0 : x2 = 0 → ¬ (48 ≤ byt bs n p ∧ byt bs n p ≤ 57) → Q (some (vI x1)) G (mset I 10 3 1) J)
    (k1 : x2 ≠ 0 → (x2 = 3 ∨ (x2 = 1 ∧ x1 = 0) ∨ ¬ (48 ≤ byt bs n p ∧ byt bs n p ≤ 57)) → Q (some (vI x1)) G I J)
    (k2 : x2 < 3 → (48 ≤ byt bs n p ∧ byt bs n p ≤ 57) → (x2 = 1 → x1 ≠ 0) → ∀ I', TC I0 n w0 (e + 1) I' false (p + 1) ts → At (d + 1) 83 9 [some (vR 10), some (vI (((10 * x1) + byt bs n p) - 48)), some (vI (x2 + 1)), some (vI (byt bs n (p + 1)))] [] G I' J Q) : At (d + 1) 83 9 [some (vR 10), some (vI x1), some (vI x2), some (vI (byt bs n p))] [] G I J Q := by
  have h4 : I 10 3 = 0 := h.2.2.2.1
  have hp1 := hp.1
  have h5 := h.2.2.2.2.1
  have h3 := h.2.2.1
  refine b_X8_number_9 hG (fun q => absurd h4 q) (fun _ => ?_)
  repeat' first
    | intro _
    | refine sp_next hG hp (h.adv ?_) ?_
    | refine b_X8_number_76 hG ?_ ?_
    | refine b_X8_number_16 hG ?_ ?_
    | refine b_X8_number_85 hG ?_
    | refine b_X8_number_80 hG ?_
    | refine b_X8_number_21 hG ?_ ?_
    | refine b_X8_number_27 hG ?_ ?_
    | refine b_X8_number_33 hG ?_ ?_
    | refine b_X8_number_45 hG ?_ ?_ ?_ ?_ ?_ ?_
    | refine b_X8_number_38 hG ?_ ?_
    | refine b_X8_number_72 hG ?_
    | refine b_X8_number_42 hG ?_ ?_
  all_goals try (unfold ok32; omega)
  all_goals first
    | omega
    | (refine k0 ?_ ?_ <;> omega)
    | (refine k1 ?_ ?_ <;> omega)
    | exact (byt_b (bs := bs) (by omega)).2
    | (exact k2 (by omega) (by omega) (by omega) _ (h.adv (byt_b (bs := bs) (by omega)).2))
theorem sp_number (hG : GW b G) (hp : Tp I0 bs n w0) (h : TC I0 n w0 e I false p ts) (k : ∀ I' r, pNum bs n p = r → TC I0 n w0 e I' r.1 r.2.1 ts → Q (some (vI r.2.2)) G I' J) : At (d + 1) 83 0 [some (vR 10), none, none, none] [] G I J Q := by
  refine b_X8_number_0 hG (sp_next hG hp h (b_X8_number_8 hG (nu_it hG hp h (by omega) (by omega) (fun _ q => ?_) (fun q _ => absurd rfl q) (fun _ q _ I1 h1 => ?_))))
  · refine k _ (true, p, _) ?_ h.bad
    unfold pNum
    rw [if_neg q]
  refine nu_it hG hp h1 (by omega) (by omega) (fun _ _ => ?_) (fun _ q1 => ?_) (fun _ q1 q2 I2 h2 => ?_)
  · omega
  · refine k _ (false, p + 1, _) ?_ (h1.up (by omega))
    unfold pNum
    rw [if_pos q]
    (repeat' split) <;> first | omega | (refine Prod.ext rfl (Prod.ext rfl ?_); dsimp only; omega)
  refine nu_it hG hp h2 (by omega) (by omega) (fun _ _ => ?_) (fun _ q3 => ?_) (fun _ q3 _ I3 h3 => ?_)
  · omega
  · refine k _ (false, p + 1 + 1, _) ?_ (h2.up (by omega))
    unfold pNum
    rw [if_pos q]
    (repeat' split) <;> first | omega | (refine Prod.ext rfl (Prod.ext rfl ?_); dsimp only; omega)
  refine nu_it hG hp h3 (by omega) (by omega) (fun _ _ => ?_) (fun _ q5 => ?_) (fun _ _ _ _ _ => ?_)
  · omega
  · refine k _ (false, p + 1 + 1 + 1, _) ?_ (h3.up (by omega))
    unfold pNum
    rw [if_pos q]
    (repeat' split) <;> first | omega | (refine Prod.ext rfl (Prod.ext rfl ?_); dsimp only; omega)
  · omega
theorem one_tail {x1 x2 l : Int} (hG : GW b G) (hp : Tp I0 bs n w0) (h : TC I0 n w0 (e + 1) I fl p ts) (he : 0 ≤ e) (hl : 0 ≤ l ∧ l ≤ 5) (k : ∀ I' r, (fl = true → r = (true, p, 0)) → (fl = false → pNum bs n p = r) → TC I0 n w0 e I' r.1 r.2.1 (ts ++ [1000 * l + r.2.2]) → Q none G I' J) : At (d + 2) 86 150 [some (vR 10), some (vI x1), some (vI x2), some (vI l)] [] G I J Q := by
  refine b_X8_one_150 hG (by unfold ok32; omega) ?_
  cases fl
  · refine sp_number hG hp h (fun I1 r hr h1 => ?_)
    have hb := pNum_b (bs := bs) (n := n) (p := p)
    rw [hr] at hb
    refine b_X8_one_160 hG (by unfold ok32; omega) (sp_write hG hp h1 he (fun I2 h2 => b_X8_one_164 hG (k I2 r (fun q => by cases q) (fun _ => hr) h2)))
  · refine sp_numberF hG hp h (fun I1 h1 => ?_)
    refine b_X8_one_160 hG (by unfold ok32; omega) (sp_write hG hp h1 he (fun I2 h2 => b_X8_one_164 hG (k I2 (true, p, 0) (fun _ => rfl) (fun q => by cases q) h2)))
theorem pLet_b {x : Int} : -1 ≤ pLet x ∧ pLet x ≤ 4 ∧ (pLet x = 4 ↔ x = 104) := by
  unfold pLet
  (repeat' split) <;> omega
theorem one_fact {x1 : Int} (hG : GW b G) (hp : Tp I0 bs n w0) (h : TC I0 n w0 e I false p ts) (he : 0 ≤ e) (k : ∀ I', TC I0 n w0 e I' (pFact bs n p).1 (pFact bs n p).2.1 (ts ++ (pFact bs n p).2.2) → Q none G I' J) : At (d + 2) 86 94 [some (vR 10), some (vI x1), some (vI (byt bs n p)), some (vI (pLet (byt bs n p)))] [] G I J Q := by
  have hl := pLet_b (x := byt bs n p)
  have hp1 := hp.1
  have h5 := h.2.2.2.2.1
  have h3 := h.2.2.1
  have fin : ∀ (c l : Int), (pMark (byt bs n p) (byt bs n (p + 1)) = if byt bs n (p + 1) = c then l else -1) → 0 ≤ l → ∀ I' r, ((pEx bs n c (false, p + 1)).1 = true → r = (true, (pEx bs n c (false, p + 1)).2, 0)) → ((pEx bs n c (false, p + 1)).1 = false → pNum bs n (pEx bs n c (false, p + 1)).2 = r) → ¬ pLet (byt bs n p) < 0 → TC I0 n w0 e I' r.1 r.2.1 (ts ++ [1000 * l + r.2.2]) → Q none G I' J := by
    intro c l hm hl0 I' r r1 r2 hn hT
    refine k I' ?_
    unfold pFact
    rw [if_neg hn, hm]
    by_cases hc : byt bs n (p + 1) = c
    · rw [if_pos hc, if_neg (by omega)]
      rw [pEx_y hc] at r2
      rw [r2 rfl]
      exact hT
    · rw [if_neg hc, if_pos (by decide)]
      rw [pEx_n hc] at r1
      rw [r1 rfl] at hT
      exact hT.any
  refine b_X8_one_94 hG (fun q => b_X8_one_167 hG ?_) (fun q => ?_)
  · unfold pFact at k
    rw [if_pos q] at k
    exact k _ h.bad
  have hb : p < n := (byt_b (bs := bs) (fun q2 => by rw [q2] at q; revert q; decide)).2
  have h1 := h.adv hb
  refine b_X8_one_98 hG (by unfold ok32; omega) (fun q1 => ?_) (fun q1 => ?_)
  · refine b_X8_one_124 hG (fun _ => b_X8_one_135 hG (fun _ => b_X8_one_145 hG ?_) (fun _ => ?_)) (fun _ => ?_)
    · refine sp_expect hG hp h1 (by decide) (fun I2 h2 => one_tail hG hp h2 he (by omega) (fun I3 r r1 r2 h3 => fin 61 _ ?_ (by omega) I3 r r1 r2 (by omega) h3))
      unfold pMark
      rw [if_neg (by omega)]
    · omega
    · omega
  · refine b_X8_one_113 hG (sp_next hG hp h1 (b_X8_one_117 hG (fun q2 => b_X8_one_124 hG (fun _ => ?_) (fun _ => b_X8_one_130 hG ?_)) (fun q2 => b_X8_one_122 hG ?_)))
    · omega
    · refine sp_expect hG hp h1 (by decide) (fun I2 h2 => ?_)
      rw [q1]
      refine one_tail hG hp h2 he (by decide) (fun I3 r r1 r2 h3 => fin 60 4 ?_ (by decide) I3 r r1 r2 (by omega) h3)
      unfold pMark
      rw [if_pos (by omega), if_neg (c := byt bs n (p + 1) = 62) q2]
    · refine sp_expect hG hp h1 (by decide) (fun I2 h2 => one_tail hG hp h2 he (by decide) (fun I3 r r1 r2 h3 => fin 62 5 ?_ (by decide) I3 r r1 r2 (by omega) h3))
      unfold pMark
      rw [if_pos (by omega), q2]
      rfl
def SOne (I0 : aI) (bs : Int → Int) (n w0 : Int) (k : Nat) : Prop := ∀ (D : Nat) (b : Bool) (G : aG) (I J : aI) (Q : Option aV → aG → aI → aI → Prop) (op p e : Int) (ts : List Int), 3 * k + 3 ≤ D → GW b G → op = 5 - (k : Int) → 0 ≤ e → TC I0 n w0 e I false p ts → (∀ I', TC I0 n w0 e I' (pOne bs n k p).1 (pOne bs n k p).2.1 (ts ++ (pOne bs n k p).2.2) → Q none G I' J) → At D 86 0 [some (vR 10), some (vI op), none, none] [] G I J Q
def SAll (I0 : aI) (bs : Int → Int) (n w0 : Int) (k : Nat) : Prop := ∀ (D : Nat) (b : Bool) (G : aG) (I J : aI) (Q : Option aV → aG → aI → aI → Prop) (op p e : Int) (ts : List Int), 3 * k + 4 ≤ D → GW b G → op = 5 - (k : Int) → 0 ≤ e → TC I0 n w0 e I false p ts → (∀ I', TC I0 n w0 e I' (pAll bs n (pOne bs n k) p).1 (pAll bs n (pOne bs n k) p).2.1 (ts ++ (pAll bs n (pOne bs n k) p).2.2) → Q none G I' J) → At D 85 0 [some (vR 10), some (vI op), none] [] G I J Q
def SAny (I0 : aI) (bs : Int → Int) (n w0 : Int) (k : Nat) : Prop := ∀ (D : Nat) (b : Bool) (G : aG) (I J : aI) (Q : Option aV → aG → aI → aI → Prop) (op p e : Int) (ts : List Int), 3 * k + 5 ≤ D → GW b G → op = 5 - (k : Int) → 0 ≤ e → TC I0 n w0 e I false p ts → (∀ I', TC I0 n w0 e I' (pAny bs n (pOne bs n k) p).1 (pAny bs n (pOne bs n k) p).2.1 (ts ++ (pAny bs n (pOne bs n k) p).2.2) → Q none G I' J) → At D 84 0 [some (vR 10), some (vI op), none] [] G I J Q
theorem lp_all {m : Nat} {op : Int} (H : SOne I0 bs n w0 m) (hG : GW b G) (hp : Tp I0 bs n w0) (he : 0 ≤ e) (hop : op = 5 - (m : Int)) (hd : 3 * m + 3 ≤ d) : ∀ (f : Nat) (I : aI) (r : Bool × Int × List Int) (x2 : Int), n < f + r.2.1 → x2 ≤ r.2.1 → -1 ≤ x2 → TC I0 n w0 e I r.1 r.2.1 (ts ++ r.2.2) → (∀ I', TC I0 n w0 e I' (pLoop bs n (pOne bs n m) 38 (-2) f r).1 (pLoop bs n (pOne bs n m) 38 (-2) f r).2.1 (ts ++ (pLoop bs n (pOne bs n m) 38 (-2) f r).2.2) → Q none G I' J) → At (d + 1) 85 10 [some (vR 10), some (vI op), some (vI x2)] [] G I J Q
  | 0, I, (f0, p, t), x2, hf, hx, hx0, h, k => by
    have := h.2.2.2.2.1
    dsimp only at this hf
    omega
  | f + 1, I, (f0, p, t), x2, hf, hx, hx0, h, k => by
    dsimp only at hf hx h
    have hp1 := hp.1
    have h5 := h.2.2.2.2.1
    have h3 := h.2.2.1
    have h2 := h.2.1
    have h4 := h.2.2.2.1
    have out : ¬ (f0 = false ∧ byt bs n p = 38) → Q none G I J := fun q => by
      unfold pLoop at k
      rw [if_neg q] at k
      exact k I h
    refine b_X8_all_10 hG (fun q => b_X8_all_61 hG (out fun q2 => ?_)) (fun _ => b_X8_all_18 hG (fun q => b_X8_all_61 hG (out fun q2 => ?_)) (fun q => ?_))
    · have := byt_b (bs := bs) (n := n) (p := p) (by omega)
      omega
    · rw [q2.1] at h4
      exact q h4
    have hf0 : f0 = false := by
      cases f0
      · rfl
      · rw [h4] at q
        cases q
    subst hf0
    refine b_X8_all_25 hG (sp_next hG hp h (b_X8_all_29 hG (fun q1 => b_X8_all_61 hG (out fun q2 => q1 q2.2)) (fun q1 => ?_)))
    have hb : p < n := (byt_b (bs := bs) (by omega)).2
    refine b_X8_all_34 hG (by unfold ok32; omega) (H d _ _ _ _ _ _ _ _ _ hd hG hop (by omega) (h.adv hb) (fun I1 h1 => ?_))
    refine b_X8_all_49 hG (sp_write hG hp h1 he (fun I2 h2 => ?_))
    have hg := pOne_ge (bs := bs) (n := n) m (p + 1)
    refine b_X8_all_55 hG (by unfold ok32; omega) (lp_all H hG hp he hop hd f I2 (((pOne bs n m) (p + 1)).1, ((pOne bs n m) (p + 1)).2.1, t ++ ((pOne bs n m) (p + 1)).2.2 ++ [-2]) (x2 + 1) (by dsimp only; omega) (by dsimp only; omega) (by omega) ?_ (fun I3 h3 => k I3 ?_))
    · rw [← List.append_assoc, ← List.append_assoc]
      exact h2
    · unfold pLoop
      rw [if_pos ⟨rfl, q1⟩]
      exact h3
theorem cs_all {m : Nat} (H : SOne I0 bs n w0 m) (hp : Tp I0 bs n w0) : SAll I0 bs n w0 m := by
  intro D b G I J Q op p e ts hD hG hop he h k
  obtain ⟨d, rfl⟩ : ∃ d, D = d + 1 := ⟨D - 1, by omega⟩
  have hp1 := hp.1
  refine b_X8_all_0 hG (H d _ _ _ _ _ _ _ _ _ (by omega) hG hop he h (fun I1 h1 => b_X8_all_5 hG ?_))
  have h5 := h1.2.2.2.2.1
  have h3 := h1.2.2.1
  exact lp_all H hG hp he hop (by omega) 121 I1 ((pOne bs n m) p) (I1 10 1) (by omega) (by omega) (by omega) h1 k
theorem lp_any {m : Nat} {op : Int} (H : SAll I0 bs n w0 m) (hG : GW b G) (hp : Tp I0 bs n w0) (he : 0 ≤ e) (hop : op = 5 - (m : Int)) (hd : 3 * m + 4 ≤ d) : ∀ (f : Nat) (I : aI) (r : Bool × Int × List Int) (x2 : Int), n < f + r.2.1 → x2 ≤ r.2.1 → -1 ≤ x2 → TC I0 n w0 e I r.1 r.2.1 (ts ++ r.2.2) → (∀ I', TC I0 n w0 e I' (pLoop bs n (pAll bs n (pOne bs n m)) 124 (-3) f r).1 (pLoop bs n (pAll bs n (pOne bs n m)) 124 (-3) f r).2.1 (ts ++ (pLoop bs n (pAll bs n (pOne bs n m)) 124 (-3) f r).2.2) → Q none G I' J) → At (d + 1) 84 10 [some (vR 10), some (vI op), some (vI x2)] [] G I J Q
  | 0, I, (f0, p, t), x2, hf, hx, hx0, h, k => by
    have := h.2.2.2.2.1
    dsimp only at this hf
    omega
  | f + 1, I, (f0, p, t), x2, hf, hx, hx0, h, k => by
    dsimp only at hf hx h
    have hp1 := hp.1
    have h5 := h.2.2.2.2.1
    have h3 := h.2.2.1
    have h2 := h.2.1
    have h4 := h.2.2.2.1
    have out : ¬ (f0 = false ∧ byt bs n p = 124) → Q none G I J := fun q => by
      unfold pLoop at k
      rw [if_neg q] at k
      exact k I h
    refine b_X8_any_10 hG (fun q => b_X8_any_61 hG (out fun q2 => ?_)) (fun _ => b_X8_any_18 hG (fun q => b_X8_any_61 hG (out fun q2 => ?_)) (fun q => ?_))
    · have := byt_b (bs := bs) (n := n) (p := p) (by omega)
      omega
    · rw [q2.1] at h4
      exact q h4
    have hf0 : f0 = false := by
      cases f0
      · rfl
      · rw [h4] at q
        cases q
    subst hf0
    refine b_X8_any_25 hG (sp_next hG hp h (b_X8_any_29 hG (fun q1 => b_X8_any_61 hG (out fun q2 => q1 q2.2)) (fun q1 => ?_)))
    have hb : p < n := (byt_b (bs := bs) (by omega)).2
    refine b_X8_any_34 hG (by unfold ok32; omega) (H d _ _ _ _ _ _ _ _ _ hd hG hop (by omega) (h.adv hb) (fun I1 h1 => ?_))
    refine b_X8_any_49 hG (sp_write hG hp h1 he (fun I2 h2 => ?_))
    have hg := pAll_ge (bs := bs) (n := n) (p := p + 1) (pOne_ge (bs := bs) (n := n) m)
    refine b_X8_any_55 hG (by unfold ok32; omega) (lp_any H hG hp he hop hd f I2 (((pAll bs n (pOne bs n m)) (p + 1)).1, ((pAll bs n (pOne bs n m)) (p + 1)).2.1, t ++ ((pAll bs n (pOne bs n m)) (p + 1)).2.2 ++ [-3]) (x2 + 1) (by dsimp only; omega) (by dsimp only; omega) (by omega) ?_ (fun I3 h3 => k I3 ?_))
    · rw [← List.append_assoc, ← List.append_assoc]
      exact h2
    · unfold pLoop
      rw [if_pos ⟨rfl, q1⟩]
      exact h3
theorem cs_any {m : Nat} (H : SAll I0 bs n w0 m) (hp : Tp I0 bs n w0) : SAny I0 bs n w0 m := by
  intro D b G I J Q op p e ts hD hG hop he h k
  obtain ⟨d, rfl⟩ : ∃ d, D = d + 1 := ⟨D - 1, by omega⟩
  have hp1 := hp.1
  refine b_X8_any_0 hG (H d _ _ _ _ _ _ _ _ _ (by omega) hG hop he h (fun I1 h1 => b_X8_any_5 hG ?_))
  have h5 := h1.2.2.2.2.1
  have h3 := h1.2.2.1
  exact lp_any H hG hp he hop (by omega) 121 I1 ((pAll bs n (pOne bs n m)) p) (I1 10 1) (by omega) (by omega) (by omega) h1 k
theorem cs_one (hp : Tp I0 bs n w0) : ∀ k : Nat, k ≤ 5 → SOne I0 bs n w0 k
  | 0, hk => by
    intro D b G I J Q op p e ts hD hG hop he h k
    obtain ⟨d, rfl⟩ : ∃ d, D = d + 2 := ⟨D - 2, by omega⟩
    have h4 : I 10 3 = 0 := h.2.2.2.1
    refine b_X8_one_0 hG (fun _ => b_X8_one_11 hG (sp_next hG hp h (b_X8_one_15 hG (sp_letter hG (b_X8_one_20 hG (fun q => ?_) (fun q => b_X8_one_27 hG (fun _ => ?_) (fun q2 => ?_))))))) (fun q => absurd h4 q)
    · refine b_X8_one_57 hG (fun q1 => one_fact hG hp h he (fun I1 h1 => k I1 ?_)) (fun q1 => b_X8_one_63 hG (fun _ => one_fact hG hp h he (fun I1 h1 => k I1 ?_)) (fun q2 => ?_))
      · unfold pOne
        rw [if_neg (by omega)]
        exact h1
      · unfold pOne
        rw [if_pos (by omega)]
        unfold pFact at h1
        rw [q1] at h1
        exact h1
      · omega
    · refine b_X8_one_57 hG (fun q1 => one_fact hG hp h he (fun I1 h1 => k I1 ?_)) (fun q1 => ?_)
      · unfold pOne
        rw [if_pos (by omega)]
        unfold pFact at h1
        rw [q] at h1
        exact h1
      · omega
    · omega
  | k0 + 1, hk => by
    intro D b G I J Q op p e ts hD hG hop he h k
    obtain ⟨d, rfl⟩ : ∃ d, D = d + 3 := ⟨D - 3, by omega⟩
    have H := cs_one hp k0 (by omega)
    have hp1 := hp.1
    have h5 := h.2.2.2.2.1
    have h3 := h.2.2.1
    have h4 : I 10 3 = 0 := h.2.2.2.1
    unfold pOne at k
    refine b_X8_one_0 hG (fun _ => b_X8_one_11 hG (sp_next hG hp h (b_X8_one_15 hG (sp_letter hG (b_X8_one_20 hG (fun q => ?_) (fun q => b_X8_one_27 hG (fun _ => ?_) (fun q2 => ?_))))))) (fun q => absurd h4 q)
    · rw [if_neg q] at k
      refine b_X8_one_57 hG (fun q1 => ?_) (fun q1 => b_X8_one_63 hG (fun _ => ?_) (fun q2 => ?_))
      · rw [if_neg q1] at k
        exact one_fact (d := d + 1) hG hp h he k
      · omega
      · rw [if_pos q1] at k
        have hb : p < n := (byt_b (bs := bs) (by omega)).2
        refine b_X8_one_68 hG (by unfold ok32; omega) (by unfold ok32; omega) (cs_any (cs_all H hp) hp (d + 2) _ _ _ _ _ _ _ _ _ (by omega) hG (by omega) (by omega) (h.adv hb) (fun I1 h1 => ?_))
        refine b_X8_one_85 hG (sp_expect hG hp h1 (by decide) (fun I2 h2 => b_X8_one_91 hG (k I2 (h2.up (by omega)))))
    · omega
    · rw [if_pos q] at k
      have hb : p < n := (byt_b (bs := bs) (by omega)).2
      refine b_X8_one_32 hG (by unfold ok32; omega) (by unfold ok32; omega) (H (d + 2) _ _ _ _ _ _ _ _ _ (by omega) hG (by omega) (by omega) (h.adv hb) (fun I1 h1 => ?_))
      refine b_X8_one_49 hG (sp_write hG hp h1 he (fun I2 h2 => b_X8_one_54 hG (k I2 ?_)))
      rw [← List.append_assoc]
      exact h2
theorem sp_any0 {D : Nat} (hD : 20 ≤ D) (hG : GW b G) (hp : Tp I0 bs n w0) (he : 0 ≤ e) (h : TC I0 n w0 e I false p ts) (k : ∀ I', TC I0 n w0 e I' (pAny bs n (pOne bs n 5) p).1 (pAny bs n (pOne bs n 5) p).2.1 (ts ++ (pAny bs n (pOne bs n 5) p).2.2) → Q none G I' J) : At D 84 0 [some (vR 10), some (vI 0), none] [] G I J Q :=
  cs_any (cs_all (cs_one hp 5 (by decide)) hp) hp D _ _ _ _ _ _ _ _ _ hD hG rfl he h k
theorem sp_anyF (hG : GW b G) (hp : Tp I0 bs n w0) (h : TC I0 n w0 e I true p ts) (k : ∀ I', TC I0 n w0 e I' true p ts → Q none G I' J) : At (d + 4) 84 0 [some (vR 10), some (vI 0), none] [] G I J Q := by
  have h4 : I 10 3 = 1 := h.2.2.2.1
  refine b_X8_any_0 hG (b_X8_all_0 hG (b_X8_one_0 hG (fun q => ?_) (fun _ => b_X8_one_7 hG (sp_letter hG (b_X8_one_20 hG (fun _ => b_X8_one_57 hG (fun _ => b_X8_one_94 hG (fun _ => b_X8_one_167 hG ?_) (fun q => ?_)) (fun q => ?_)) (fun q => ?_))))))
  · omega
  · refine b_X8_all_5 hG (b_X8_all_10 hG (fun _ => b_X8_all_61 hG ?_) (fun _ => b_X8_all_18 hG (fun _ => b_X8_all_61 hG ?_) (fun q => ?_)))
    · refine b_X8_any_5 hG (b_X8_any_10 hG (fun _ => b_X8_any_61 hG (k _ h.bad)) (fun _ => b_X8_any_18 hG (fun _ => b_X8_any_61 hG (k _ h.bad)) (fun q => ?_)))
      rw [mset_at] at q
      cases q
    · refine b_X8_any_5 hG (b_X8_any_10 hG (fun _ => b_X8_any_61 hG (k _ h.bad)) (fun _ => b_X8_any_18 hG (fun _ => b_X8_any_61 hG (k _ h.bad)) (fun q => ?_)))
      rw [mset_at] at q
      cases q
    · rw [mset_at] at q
      cases q
  · exact absurd q (by decide)
  · exact absurd q (by decide)
  · exact absurd q (by decide)
end TS
