/-! the class reads a tape: signs, letters, numbers -/
def TC (I0 : aI) (n w0 e : Int) (I : aI) (fl : Bool) (p : Int) (ts : List Int) : Prop :=
  (∀ a, a ≠ 10 → a ≠ 11 → I a = I0 a) ∧ I 10 0 = n ∧ I 10 1 = p ∧ I 10 3 = (if fl = true then 1 else 0) ∧ (0 ≤ p ∧ p ≤ n) ∧ (∀ k, k < w0 → I 11 k = I0 11 k) ∧ (w0 ≤ I 10 2 ∧ I 10 2 + e ≤ w0 + p) ∧
  (fl = false → I 10 2 = w0 + (ts.length : Int) ∧ ∀ j : Nat, ∀ x : Int, ts[j]? = some x → I 11 (w0 + j) = x)
def Tp (I0 : aI) (bs : Int → Int) (n w0 : Int) : Prop := (0 ≤ n ∧ n ≤ 120) ∧ (0 ≤ w0 ∧ w0 ≤ 1200) ∧ ∀ k, 0 ≤ k → k < n → bAnd (I0 12 k) 255 = bs k ∧ 0 ≤ bs k ∧ bs k ≤ 255
section TP
variable {I0 I : aI} {n w0 e p : Int} {fl : Bool} {ts : List Int} {bs : Int → Int}
theorem TC.up {e' : Int} (h : TC I0 n w0 e I fl p ts) (he : e' ≤ e) : TC I0 n w0 e' I fl p ts := by
  obtain ⟨h1, h2, h3, h4, h5, h6, h7, h8⟩ := h
  exact ⟨h1, h2, h3, h4, h5, h6, by omega, h8⟩
theorem TC.bad {ts' : List Int} (h : TC I0 n w0 e I fl p ts) : TC I0 n w0 e (mset I 10 3 1) true p ts' := by
  obtain ⟨h1, h2, h3, h4, h5, h6, h7, h8⟩ := h
  unfold TC
  rw [mset_at, mset_n (by decide), mset_n (by decide), mset_n (by decide), mset_o (show 11 ≠ 10 by decide)]
  exact ⟨fun a h _ => (mset_o h).trans (h1 a h ‹_›), h2, h3, rfl, h5, h6, h7, fun q => by cases q⟩
theorem TC.any {ts' : List Int} (h : TC I0 n w0 e I true p ts) : TC I0 n w0 e I true p ts' := by
  obtain ⟨h1, h2, h3, h4, h5, h6, h7, h8⟩ := h
  exact ⟨h1, h2, h3, h4, h5, h6, h7, fun q => by cases q⟩
theorem TC.adv (h : TC I0 n w0 e I fl p ts) (hn : p < n) : TC I0 n w0 (e + 1) (mset I 10 1 (I 10 1 + 1)) fl (p + 1) ts := by
  obtain ⟨h1, h2, h3, h4, h5, h6, h7, h8⟩ := h
  unfold TC
  rw [mset_at, mset_n (by decide), mset_n (by decide), mset_n (by decide), mset_o (show 11 ≠ 10 by decide)]
  exact ⟨fun a h _ => (mset_o h).trans (h1 a h ‹_›), h2, by rw [h3], h4, by omega, h6, by omega, h8⟩
theorem TC.wr {x : Int} (h : TC I0 n w0 (e + 1) I false p ts) : TC I0 n w0 e (mset (mset I 11 (I 10 2) x) 10 2 (I 10 2 + 1)) false p (ts ++ [x]) := by
  obtain ⟨h1, h2, h3, h4, h5, h6, h7, h8⟩ := h
  obtain ⟨h8, h9⟩ := h8 rfl
  unfold TC
  rw [mset_n (by decide), mset_n (by decide), mset_n (by decide), mset_at, mset_o (show 11 ≠ 10 by decide), mset_o (show 10 ≠ 11 by decide)]
  refine ⟨fun a h h' => (mset_o h).trans ((mset_o h').trans (h1 a h h')), h2, h3, h4, h5, fun k hk => ?_, by omega, fun _ => ⟨?_, fun j y hj => ?_⟩⟩
  · rw [mset_n (by omega)]
    exact h6 k hk
  · rw [List.length_append, List.length_singleton]
    omega
  · rw [List.getElem?_append] at hj
    split at hj
    · rw [mset_n (by omega)]
      exact h9 j y hj
    · rename_i q
      have hl : j = ts.length := by
        by_cases q2 : j - ts.length = 0
        · omega
        · rw [List.getElem?_eq_none (by rw [List.length_singleton]; omega)] at hj
          cases hj
      subst hl
      rw [Nat.sub_self] at hj
      cases hj
      rw [← h8, mset_at]
theorem TC.base {a : Nat} {k v : Int} (h : TC I0 n w0 e I fl p ts) (h0 : a ≠ 10) (h1 : a ≠ 11) : TC (mset I0 a k v) n w0 e (mset I a k v) fl p ts := by
  obtain ⟨q1, q2, q3, q4, q5, q6, q7, q8⟩ := h
  unfold TC
  rw [mset_o (Ne.symm h0), mset_o (Ne.symm h1), mset_o (Ne.symm h1)]
  refine ⟨fun c hc hc' => ?_, q2, q3, q4, q5, q6, q7, q8⟩
  by_cases hh : c = a
  · subst hh
    rw [mset_s, mset_s, q1 c hc hc']
  · rw [mset_o hh, mset_o hh, q1 c hc hc']
theorem Tp.base {a : Nat} {k v : Int} (h : Tp I0 bs n w0) (h0 : a ≠ 12) : Tp (mset I0 a k v) bs n w0 := by
  unfold Tp
  rw [mset_o (Ne.symm h0)]
  exact h
end TP
section TS
variable {d : Nat} {b : Bool} {G : aG} {I J I0 : aI} {Q : Option aV → aG → aI → aI → Prop} {n w0 e p : Int} {fl : Bool} {ts : List Int} {bs : Int → Int}
theorem sp_next (hG : GW b G) (hp : Tp I0 bs n w0) (h : TC I0 n w0 e I fl p ts) (k : Q (some (vI (byt bs n p))) G I J) : At d 78 0 [some (vR 10)] [] G I J Q := by
  obtain ⟨h1, h2, h3, h4, h5, h6, h7, h8⟩ := h
  have e12 := h1 12 (by decide) (by decide)
  have hp1 := hp.1
  subst h3
  unfold byt at k
  repeat' first
    | intro _
    | refine b_X8_next_0 hG ?_ ?_
    | refine b_X8_next_43 hG ?_
    | refine b_X8_next_7 hG ?_ ?_
    | refine b_X8_next_18 hG ?_ ?_
    | refine b_X8_next_27 hG ?_ ?_ ?_
  all_goals try omega
  · rw [if_neg (by omega)] at k
    exact k
  · rw [if_pos (by omega), ← (hp.2.2 _ (by omega) (by omega)).1, ← e12] at k
    exact k
theorem sp_expect {c : Int} (hG : GW b G) (hp : Tp I0 bs n w0) (h : TC I0 n w0 e I fl p ts) (hc : 0 ≤ c) (k : ∀ I', TC I0 n w0 e I' (pEx bs n c (fl, p)).1 (pEx bs n c (fl, p)).2 ts → Q none G I' J) : At (d + 1) 79 0 [some (vR 10), some (vI c)] [] G I J Q := by
  obtain ⟨h1, h2, h3, h4, h5, h6, h7, h8⟩ := id h
  have hp1 := hp.1
  cases fl
  · have h4 : I 10 3 = 0 := h4
    repeat' first
      | intro _
      | refine sp_next hG hp h ?_
      | refine b_X8_expect_0 hG ?_ ?_
      | refine b_X8_expect_28 hG ?_
      | refine b_X8_expect_7 hG ?_
      | refine b_X8_expect_11 hG ?_ ?_
      | refine b_X8_expect_15 hG ?_ ?_
    all_goals try omega
    all_goals try (unfold ok32; omega)
    · rename_i q
      rw [pEx_n q] at k
      exact k _ h.bad
    · rename_i q
      rw [pEx_y q] at k
      exact k _ ((h.adv (byt_b (bs := bs) (by rw [q]; omega)).2).up (by omega))
  · have h4 : I 10 3 = 1 := h4
    repeat' first
      | intro _
      | refine b_X8_expect_0 hG ?_ ?_
      | refine b_X8_expect_28 hG ?_
      | refine b_X8_expect_11 hG ?_ ?_
      | refine b_X8_expect_15 hG ?_ ?_
    all_goals try omega
    exact k _ h.bad
theorem sp_write {x : Int} (hG : GW b G) (hp : Tp I0 bs n w0) (h : TC I0 n w0 (e + 1) I fl p ts) (he : 0 ≤ e) (k : ∀ I', TC I0 n w0 e I' fl p (ts ++ [x]) → Q none G I' J) : At d 80 0 [some (vR 10), some (vI x)] [] G I J Q := by
  obtain ⟨h1, h2, h3, h4, h5, h6, h7, h8⟩ := id h
  have hp1 := hp.1
  have hp2 := hp.2.1
  cases fl
  · have h4 : I 10 3 = 0 := h4
    repeat' first
      | intro _
      | refine b_X8_write_0 hG ?_ ?_
      | refine b_X8_write_44 hG ?_
      | refine b_X8_write_7 hG ?_ ?_
      | refine b_X8_write_14 hG ?_ ?_
      | refine b_X8_write_24 hG ?_ ?_ ?_ ?_
    all_goals try omega
    all_goals try (unfold ok32; omega)
    · exact k _ h.wr
  · have h4 : I 10 3 = 1 := h4
    refine b_X8_write_0 hG (fun _ => b_X8_write_44 hG (k _ (h.any.up (by omega)))) (fun q => ?_)
    omega
theorem sp_letter {x : Int} (hG : GW b G) (k : Q (some (vI (pLet x))) G I J) : At d 87 0 [some (vI x)] [] G I J Q := by
  repeat' first
    | intro _
    | refine b_X8_letter_0 hG ?_ ?_ ?_ ?_ ?_ ?_ ?_ ?_
    | refine b_X8_letter_54 hG ?_
    | refine b_X8_letter_48 hG ?_
    | refine b_X8_letter_50 hG ?_
    | refine b_X8_letter_52 hG ?_
    | refine b_X8_letter_44 hG ?_
    | refine b_X8_letter_46 hG ?_
  all_goals rename_i q
  all_goals first
    | (subst q; exact k)
    | (unfold pLet at k; rw [if_neg (by omega), if_neg (by omega), if_neg (by omega), if_neg (by omega), if_neg (by omega)] at k; exact k)
end TS
