/-! the class says whether a text holds -/
def rep : List Bool → Int
  | [] => 0
  | a :: r => 2 * rep r + (if a = true then 1 else 0)
theorem rep_b : ∀ (st : List Bool) (m : Nat), st.length ≤ m → 0 ≤ rep st ∧ rep st < ((2 ^ m : Nat) : Int)
  | [], m, h => by
    have := Nat.two_pow_pos m
    show 0 ≤ (0 : Int) ∧ (0 : Int) < _
    omega
  | a :: r, 0, h => by
    rw [List.length_cons] at h
    omega
  | a :: r, m + 1, h => by
    rw [List.length_cons] at h
    have := rep_b r m (by omega)
    unfold rep
    rw [Nat.pow_succ]
    split <;> omega
theorem r_not0 : ∀ z : Nat, z < 64 → ∀ y : Nat, y < 64 → ∀ a : Bool, bXor (2 * ((64 * z + y : Nat) : Int) + (if a = true then 1 else 0)) 1 = 2 * ((64 * z + y : Nat) : Int) + (if (!a) = true then 1 else 0) := by decide +kernel
theorem r_and0 : ∀ z : Nat, z < 64 → ∀ y : Nat, y < 32 → ∀ a c : Bool, bAnd (bShr (2 * (2 * ((32 * z + y : Nat) : Int) + (if c = true then 1 else 0)) + (if a = true then 1 else 0)) 1) (bOr (2 * (2 * ((32 * z + y : Nat) : Int) + (if c = true then 1 else 0)) + (if a = true then 1 else 0)) (-2)) = 2 * ((32 * z + y : Nat) : Int) + (if (c && a) = true then 1 else 0) := by decide +kernel
theorem r_or0 : ∀ z : Nat, z < 64 → ∀ y : Nat, y < 32 → ∀ a c : Bool, bOr (bShr (2 * (2 * ((32 * z + y : Nat) : Int) + (if c = true then 1 else 0)) + (if a = true then 1 else 0)) 1) (bAnd (2 * (2 * ((32 * z + y : Nat) : Int) + (if c = true then 1 else 0)) + (if a = true then 1 else 0)) 1) = 2 * ((32 * z + y : Nat) : Int) + (if (c || a) = true then 1 else 0) := by decide +kernel
theorem r_psh0 : ∀ z : Nat, z < 64 → ∀ y : Nat, y < 64 → ∀ a : Bool, bOr (bShl ((64 * z + y : Nat) : Int) 1) (if a = true then 1 else 0) = 2 * ((64 * z + y : Nat) : Int) + (if a = true then 1 else 0) := by decide +kernel
theorem r_low0 : ∀ a : Bool, bAnd (2 * 0 + (if a = true then 1 else 0)) 1 = if a = true then 1 else 0 := by decide +kernel
theorem rp_not {a : Bool} {r : List Bool} (h : (a :: r).length ≤ 13) : bXor (rep (a :: r)) 1 = rep ((!a) :: r) := by
  rw [List.length_cons] at h
  obtain ⟨h0, h1⟩ := rep_b r 12 (by omega)
  obtain ⟨m, hm⟩ := Int.eq_ofNat_of_zero_le h0
  have := r_not0 (m / 64) (by omega) (m % 64) (by omega) a
  rw [show 64 * (m / 64) + m % 64 = m by omega] at this
  show bXor (2 * rep r + _) 1 = 2 * rep r + _
  rw [hm]
  exact this
theorem rp_and {a c : Bool} {r : List Bool} (h : (a :: c :: r).length ≤ 13) : bAnd (bShr (rep (a :: c :: r)) 1) (bOr (rep (a :: c :: r)) (-2)) = rep ((c && a) :: r) := by
  rw [List.length_cons, List.length_cons] at h
  obtain ⟨h0, h1⟩ := rep_b r 11 (by omega)
  obtain ⟨m, hm⟩ := Int.eq_ofNat_of_zero_le h0
  have := r_and0 (m / 32) (by omega) (m % 32) (by omega) a c
  rw [show 32 * (m / 32) + m % 32 = m by omega] at this
  show bAnd (bShr (2 * (2 * rep r + _) + _) 1) (bOr (2 * (2 * rep r + _) + _) (-2)) = 2 * rep r + _
  rw [hm]
  exact this
theorem rp_or {a c : Bool} {r : List Bool} (h : (a :: c :: r).length ≤ 13) : bOr (bShr (rep (a :: c :: r)) 1) (bAnd (rep (a :: c :: r)) 1) = rep ((c || a) :: r) := by
  rw [List.length_cons, List.length_cons] at h
  obtain ⟨h0, h1⟩ := rep_b r 11 (by omega)
  obtain ⟨m, hm⟩ := Int.eq_ofNat_of_zero_le h0
  have := r_or0 (m / 32) (by omega) (m % 32) (by omega) a c
  rw [show 32 * (m / 32) + m % 32 = m by omega] at this
  show bOr (bShr (2 * (2 * rep r + _) + _) 1) (bAnd (2 * (2 * rep r + _) + _) 1) = 2 * rep r + _
  rw [hm]
  exact this
theorem rp_psh {a : Bool} {r : List Bool} (h : r.length < 13) : bOr (bShl (rep r) 1) (if a = true then 1 else 0) = rep (a :: r) := by
  obtain ⟨h0, h1⟩ := rep_b r 12 (by omega)
  obtain ⟨m, hm⟩ := Int.eq_ofNat_of_zero_le h0
  have := r_psh0 (m / 64) (by omega) (m % 64) (by omega) a
  rw [show 64 * (m / 64) + m % 64 = m by omega] at this
  show bOr (bShl (rep r) 1) _ = 2 * rep r + _
  rw [hm]
  exact this
section TR
variable {d : Nat} {b : Bool} {G : aG} {I J : aI} {Q : Option aV → aG → aI → aI → Prop}
theorem sp_fits {V : Int → Int} {x : Int} (hG : GW b G) (hV : ∀ j, 0 ≤ j → j ≤ 5 → I 19 j = V j) (h0 : 0 ≤ x) (h1 : x < 6000) (k : Q (some (vI (if fitsV V x = true then 1 else 0))) G I J) : At d 72 0 [some (vR 9), some (vI (x / 1000)), some (vI (x % 1000))] [] G I J Q := by
  have e := hV (x / 1000) (by omega) (by omega)
  unfold fitsV at k
  refine b_X7_fits_0 hG (fun q => ?_) (fun _ => b_X7_fits_4 hG (fun _ => b_X7_fits_12 hG (fun q4 => b_X7_fits_33 hG (fun q5 => b_X7_fits_54 hG (by omega) (by omega) (fun q => b_X7_fits_68 hG ?_) (fun q => b_X7_fits_64 hG ?_)) (fun q5 => b_X7_fits_38 hG (by omega) (by omega) (fun q => b_X7_fits_52 hG ?_) (fun q => b_X7_fits_48 hG ?_))) (fun q4 => b_X7_fits_17 hG (by omega) (by omega) (fun q => b_X7_fits_31 hG ?_) (fun q => b_X7_fits_27 hG ?_))) (fun q => ?_))
  · omega
  · rw [if_neg q4, if_neg q5, decide_eq_false (by rw [← e]; exact q)] at k
    exact k
  · rw [if_neg q4, if_neg q5, decide_eq_true (by rw [← e]; exact q)] at k
    exact k
  · rw [if_neg q4, if_pos q5, decide_eq_false (by rw [q5] at e q; omega)] at k
    exact k
  · rw [if_neg q4, if_pos q5, decide_eq_true (by rw [q5] at e q; omega)] at k
    exact k
  · rw [if_pos q4, decide_eq_false (by rw [q4] at e q; omega)] at k
    exact k
  · rw [if_pos q4, decide_eq_true (by rw [q4] at e q; omega)] at k
    exact k
  · omega
theorem lp_isTrue {V : Int → Int} {x1 : Int} {v : Bool} (hG : GW b G) (hV : ∀ j, 0 ≤ j → j ≤ 5 → I 19 j = V j) (h1 : 0 ≤ x1 ∧ x1 < 88) (k : Q (some (vI (if v = true then 1 else 0))) G I J) : ∀ (ts : List Int) (st : List Bool) (x3 : Int) (u4 : Option aV), run V ts st = some [v] → st.length ≤ 13 → 0 ≤ x3 → I 18 x1 = x3 + (ts.length : Int) → I 18 x1 ≤ 1320 → (∀ x ∈ ts, x < 6000) → (∀ j : Nat, ∀ x : Int, ts[j]? = some x → I 11 (x3 + j) = x) → At (d + 1) 71 21 [some (vR 9), some (vI x1), some (vI (rep st)), some (vI x3), u4] [] G I J Q
  | [], st, x3, u4, hr, hs, h3, h18, hm, ht, hI => by
    obtain rfl : st = [v] := Option.some.inj hr
    have hl := r_low0 v
    have hv : bAnd (rep [v]) 1 = if v = true then 1 else 0 := hl
    rw [List.length_nil] at h18
    refine b_X7_isTrue_21 hG h1.1 h1.2 (fun _ => b_X7_isTrue_134 hG (fun q => b_X7_isTrue_144 hG ?_) (fun q => b_X7_isTrue_140 hG ?_)) (fun q => ?_)
    · rw [hv] at q
      rw [q] at k
      exact k
    · rw [hv] at q
      cases v
      · exact absurd rfl q
      · exact k
    · omega
  | t :: ts, st, x3, u4, hr, hs, h3, h18, hm, ht, hI => by
    rw [List.length_cons] at h18
    have e0 := hI 0 t rfl
    rw [show x3 + ((0 : Nat) : Int) = x3 by omega] at e0
    have t6 := ht t (List.mem_cons_self)
    have hr2 : (stepV V t st).bind (run V ts) = some [v] := hr
    have nx : ∀ st' x u, stepV V t st = some st' → rep st' = x → st'.length ≤ 13 → At (d + 1) 71 21 [some (vR 9), some (vI x1), some (vI x), some (vI (x3 + 1)), u] [] G I J Q := by
      intro st' x u he hx hl
      rw [he] at hr2
      rw [← hx]
      refine lp_isTrue hG hV h1 k ts st' (x3 + 1) u hr2 hl (by omega) (by omega) hm (fun x hx => ht x (List.mem_cons_of_mem _ hx)) (fun j x hj => ?_)
      rw [show x3 + 1 + (j : Int) = x3 + ((j + 1 : Nat) : Int) by omega]
      exact hI (j + 1) x hj
    have so : ∃ st', stepV V t st = some st' := by
      cases h : stepV V t st with
      | none => rw [h] at hr2; cases hr2
      | some s => exact ⟨s, rfl⟩
    obtain ⟨st', hst⟩ := so
    have hst0 := hst
    unfold stepV at hst
    refine b_X7_isTrue_21 hG h1.1 h1.2 (fun q => ?_) (fun _ => b_X7_isTrue_31 hG (fun q => ?_) (fun _ => b_X7_isTrue_38 hG h3 (by omega) (fun qa => ?_) (fun qa => ?_)))
    · omega
    · omega
    · rw [e0] at qa ⊢
      rw [if_neg qa] at hst
      refine b_X7_isTrue_62 hG (fun qb => b_X7_isTrue_81 hG (fun qc => ?_) (fun qc => ?_)) (fun qb => ?_)
      · rw [if_neg qb, if_neg qc] at hst
        split at hst
        · rename_i q
          have hb := rep_b st 12 (by omega)
          refine b_X7_isTrue_99 hG q.1 (sp_fits hG hV q.1 t6 ?_)
          have hz := rp_psh (a := fitsV V t) (r := st) q.2
          have hn := nx (fitsV V t :: st) (rep (fitsV V t :: st)) (some (vI t)) (by rw [hst0]; exact hst.symm) rfl (by rw [List.length_cons]; omega)
          rw [← hz] at hn
          cases hf : fitsV V t
          · rw [hf] at hn
            exact b_X7_isTrue_118 hG (fun _ => b_X7_isTrue_125 hG (by unfold ok32; omega) hn) (fun q => absurd rfl q)
          · rw [hf] at hn
            exact b_X7_isTrue_118 hG (fun q => absurd q (by decide)) (fun _ => b_X7_isTrue_121 hG (by unfold ok32; omega) hn)
        · cases hst
      · rw [if_neg qb, if_pos qc] at hst
        match st, hst, hs, nx, hst0 with
        | a :: c :: r, hst, hs, nx, hst0 =>
          refine b_X7_isTrue_88 hG (by unfold ok32; omega) ?_
          rw [rp_or hs]
          exact nx _ _ _ (by rw [hst0]; exact hst.symm) rfl (by rw [List.length_cons, List.length_cons] at hs; rw [List.length_cons]; omega)
        | [_], hst, _, _, _ => cases hst
        | [], hst, _, _, _ => cases hst
      · rw [if_pos qb] at hst
        match st, hst, hs, nx, hst0 with
        | a :: c :: r, hst, hs, nx, hst0 =>
          refine b_X7_isTrue_69 hG (by unfold ok32; omega) ?_
          rw [rp_and hs]
          exact nx _ _ _ (by rw [hst0]; exact hst.symm) rfl (by rw [List.length_cons, List.length_cons] at hs; rw [List.length_cons]; omega)
        | [_], hst, _, _, _ => cases hst
        | [], hst, _, _, _ => cases hst
    · rw [e0] at qa ⊢
      rw [if_pos qa] at hst
      match st, hst, hs, nx, hst0 with
      | a :: r, hst, hs, nx, hst0 =>
        refine b_X7_isTrue_55 hG (by unfold ok32; omega) ?_
        rw [rp_not hs]
        exact nx _ _ _ (by rw [hst0]; exact hst.symm) rfl (by rw [List.length_cons] at hs ⊢; omega)
      | [], hst, _, _, _ => cases hst
theorem sp_isTrue {V : Int → Int} {x1 : Int} {ts : List Int} (hG : GW b G) (hV : ∀ j, 0 ≤ j → j ≤ 5 → I 19 j = V j) (h1 : 0 ≤ x1 ∧ x1 < 88) (hw : ∃ v, Wf V 13 ts v) (h17 : 0 ≤ I 17 x1) (h18 : I 18 x1 = I 17 x1 + (ts.length : Int)) (hm : I 18 x1 ≤ 1320) (ht : ∀ x ∈ ts, x < 6000) (hI : ∀ j : Nat, ∀ x : Int, ts[j]? = some x → I 11 (I 17 x1 + j) = x) (k : Q (some (vI (if evT V ts = true then 1 else 0))) G I J) : At (d + 1) 71 0 [some (vR 9), some (vI x1), none, none, none] [] G I J Q := by
  obtain ⟨v, w⟩ := hw
  rw [w.ev (by decide)] at k
  refine b_X7_isTrue_0 hG (fun q => ?_) (fun _ => b_X7_isTrue_4 hG (fun _ => b_X7_isTrue_12 hG h1.1 h1.2 (lp_isTrue hG hV h1 k ts [] _ _ (w [] (by decide)) (by decide) h17 h18 hm ht hI)) (fun q => ?_))
  · omega
  · omega
end TR
/-! tokens and clauses are well made -/
theorem pMark_b {x m : Int} : -1 ≤ pMark x m ∧ pMark x m ≤ 5 := by
  have := pLet_b (x := x)
  unfold pMark
  (repeat' split) <;> omega
theorem pFact_t {bs : Int → Int} {n p : Int} : ∀ x ∈ (pFact bs n p).2.2, x < 6000 := by
  have h1 := pNum_b (bs := bs) (n := n) (p := p + 1 + 1)
  have h2 := pMark_b (x := byt bs n p) (m := byt bs n (p + 1))
  intro x
  unfold pFact
  split
  · intro h; cases h
  · split
    · intro h; cases h
    · intro h
      rw [List.mem_singleton] at h
      omega
theorem pLoop_t {bs : Int → Int} {n c tok : Int} {one : Int → Bool × Int × List Int} (ho : ∀ p, ∀ x ∈ (one p).2.2, x < 6000) (ht : tok < 6000) : ∀ (f : Nat) (r : Bool × Int × List Int), (∀ x ∈ r.2.2, x < 6000) → ∀ x ∈ (pLoop bs n one c tok f r).2.2, x < 6000
  | 0, r, h => h
  | f + 1, r, h => by
    unfold pLoop
    split
    · refine pLoop_t ho ht f _ (fun x hx => ?_)
      dsimp only at hx
      rw [List.mem_append, List.mem_append, List.mem_singleton] at hx
      rcases hx with (hx | hx) | hx
      · exact h x hx
      · exact ho _ x hx
      · omega
    · exact h
theorem pAll_t {bs : Int → Int} {n p : Int} {one : Int → Bool × Int × List Int} (ho : ∀ p, ∀ x ∈ (one p).2.2, x < 6000) : ∀ x ∈ (pAll bs n one p).2.2, x < 6000 := pLoop_t ho (by decide) 121 _ (ho p)
theorem pAny_t {bs : Int → Int} {n p : Int} {one : Int → Bool × Int × List Int} (ho : ∀ p, ∀ x ∈ (one p).2.2, x < 6000) : ∀ x ∈ (pAny bs n one p).2.2, x < 6000 := pLoop_t (fun p => pAll_t ho) (by decide) 121 _ (pAll_t ho)
theorem pOne_t {bs : Int → Int} {n : Int} : ∀ (k : Nat) (p : Int), ∀ x ∈ (pOne bs n k p).2.2, x < 6000
  | 0, p => by
    unfold pOne
    split
    · intro x h; cases h
    · exact pFact_t
  | k + 1, p => by
    unfold pOne
    split
    · intro x hx
      dsimp only at hx
      rw [List.mem_append, List.mem_singleton] at hx
      rcases hx with hx | hx
      · exact pOne_t k _ x hx
      · omega
    · split
      · exact pAny_t (pOne_t k)
      · exact pFact_t
def Ecl (V : Int → Int) (e : Int × Int × List Int) : Prop := (0 ≤ e.1 ∧ e.1 ≤ 6) ∧ (0 ≤ e.2.1 ∧ e.2.1 ≤ 999) ∧ ((e.1 = 0 ∨ e.1 = 5) → (∃ v, Wf V 13 e.2.2 v) ∧ ∀ x ∈ e.2.2, x < 6000)
theorem pClE_ok {bs V : Int → Int} {n w a : Int} {r : Bool × Int} (hw : 0 ≤ w ∧ w ≤ 6) (ha : 0 ≤ a ∧ a ≤ 999) (h : (pClE bs n w a r).1 = false) : Ecl V (pClE bs n w a r).2.2 := by
  unfold pClE at h ⊢
  by_cases hr : r.1 = true
  · rw [if_pos hr] at h
    cases h
  · rw [if_neg hr] at h ⊢
    by_cases hc : w = 0 ∨ w = 5
    · rw [if_pos hc] at h ⊢
      exact ⟨hw, ha, fun _ => ⟨pAny_wf (h := 11) (pOne_wf (V := V) 5) h, pAny_t (pOne_t 5)⟩⟩
    · rw [if_neg hc]
      exact ⟨hw, ha, fun q => absurd q hc⟩
theorem pClause_ok {bs V : Int → Int} {n p : Int} (h : (pClause bs n p).1 = false) : Ecl V (pClause bs n p).2.2 := by
  have hw : 0 ≤ (pWord bs n p).1 ∧ (pWord bs n p).1 ≤ 6 := by
    unfold pWord
    (repeat' split) <;> (dsimp only; omega)
  unfold pClause at h ⊢
  generalize (pWord bs n p).1 = w at *
  generalize pEx bs n 32 (pWord bs n p).2 = r at *
  unfold pClW at h ⊢
  by_cases hr : r.1 = true
  · rw [if_pos hr] at h
    cases h
  · rw [if_neg hr] at h ⊢
    generalize hq : (if w = 5 then (false, r.2, 0) else pNum bs n r.2) = q at *
    have hb : 0 ≤ q.2.2 ∧ q.2.2 ≤ 999 := by
      rw [← hq]
      split
      · dsimp only
        omega
      · have := pNum_b (bs := bs) (n := n) (p := r.2)
        omega
    unfold pClN at h ⊢
    by_cases hr2 : q.1 = true
    · rw [if_pos hr2] at h
      cases h
    · rw [if_neg hr2] at h ⊢
      exact pClE_ok hw hb h
theorem pRule_ok {bs V : Int → Int} {n : Int} : ∀ (f : Nat) (p : Int), (pRule bs n f p).1 = false → (∀ e ∈ (pRule bs n f p).2.2, Ecl V e) ∧ (pRule bs n f p).2.2.length ≤ f
  | 0, p, h => by
    cases h
  | f + 1, p, h => by
    unfold pRule at h ⊢
    by_cases h1 : (pClause bs n p).1 = true
    · rw [if_pos h1] at h
      cases h
    · have h1' : (pClause bs n p).1 = false := by
        cases hh : (pClause bs n p).1
        · rfl
        · exact absurd hh h1
      have he := pClause_ok (V := V) h1'
      rw [if_neg h1] at h ⊢
      by_cases h2 : n ≤ (pClause bs n p).2.1
      · rw [if_pos h2] at h ⊢
        refine ⟨fun e hm => ?_, ?_⟩
        · rw [List.mem_singleton] at hm
          rw [hm]
          exact he
        · show 1 ≤ f + 1
          omega
      · rw [if_neg h2] at h ⊢
        by_cases h3 : f = 0 ∨ byt bs n (pClause bs n p).2.1 ≠ 59
        · rw [if_pos h3] at h
          cases h
        · rw [if_neg h3] at h ⊢
          obtain ⟨g1, g2⟩ := pRule_ok (V := V) f _ h
          refine ⟨fun e hm => ?_, ?_⟩
          · rcases List.mem_cons.1 hm with rfl | hm
            · exact he
            · exact g1 e hm
          · rw [List.length_cons]
            omega
