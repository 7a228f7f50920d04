/-! the class reads a tape: words, clauses -/
def StrOk (a : Nat) (cs : List Int) : Prop := a ≠ 1050 ∧ (SH a).1 = 11 ∧ (1012 + (SH a).2) ≠ 1050 ∧ (SH (1012 + (SH a).2)).1 = 12 ∧ (SH (1012 + (SH a).2)).2 = cs.length ∧ bShr (cs.length : Int) 0 = cs.length ∧ (0 < cs.length ∧ cs.length ≤ 9) ∧ ∀ j, j < cs.length → cI2c (bAnd (KI (1012 + (SH a).2) (j : Int)) 255) = cs.getD j 0 ∧ 0 ≤ cs.getD j 0 ∧ cs.getD j 0 ≤ 65535
theorem pExs_t {bs : Int → Int} {n p : Int} : ∀ cs : List Int, pExs bs n cs (true, p) = (true, p)
  | [] => rfl
  | c :: cs => pExs_t cs
section TS
variable {d : Nat} {b : Bool} {G : aG} {I J I0 : aI} {Q : Option aV → aG → aI → aI → Prop} {n w0 e p : Int} {fl : Bool} {ts : List Int} {bs : Int → Int} {a : Nat} {cs : List Int}
theorem sp_charAt {j : Nat} (hG : GW b G) (hs : StrOk a cs) (hj : j < cs.length) (k : Q (some (vI (cs.getD j 0))) G I J) : At (d + 3) 244 0 [some (vR a), some (vI (j : Int))] [] G I J Q := by
  obtain ⟨s1, s2, s3, s4, s5, s6, s7, s8⟩ := hs
  obtain ⟨t1, t2⟩ := s8 j hj
  rw [← t1] at k t2
  refine b_J0_charAt_0 hG s1 s2 (b_J0_isLatin1_0 hG s1 s2 (b_J0_charAt_4 hG (fun q => absurd q (by decide)) (fun _ => b_J0_charAt_7 hG s1 s2 (b_J1_charAt_0 hG s3 s4 (b_J0_checkIndex_0 hG (b_J3_checkIndex_0 hG (fun q => ?_) (fun _ => b_J3_checkIndex_4 hG (fun _ => b_J3_checkIndex_16 hG (b_J0_checkIndex_8 hG (b_J1_charAt_6 hG s3 s4 ?_ ?_ t2 (b_J0_charAt_15 hG t2 k)))) (fun q => ?_))))))))
  all_goals omega
theorem sp_length (hG : GW b G) (hs : StrOk a cs) (k : Q (some (vI (cs.length : Int))) G I J) : At (d + 1) 243 0 [some (vR a)] [] G I J Q := by
  obtain ⟨s1, s2, s3, s4, s5, s6, s7, s8⟩ := hs
  refine b_J0_length_0 hG s1 s2 s4 (b_J0_coder_0 hG s1 s2 (b_J0_length_9 hG ?_))
  rw [s5, s6]
  exact k
theorem lp_spell {w : Int} (hG : GW b G) (hp : Tp I0 bs n w0) (hs : StrOk a cs) : ∀ (m j : Nat) (I : aI) (fl : Bool) (p : Int), j + m = cs.length → TC I0 n w0 e I fl p ts → (∀ I', TC I0 n w0 e I' (pExs bs n (cs.drop j) (fl, p)).1 (pExs bs n (cs.drop j) (fl, p)).2 ts → Q (some (vI w)) G I' J) → At (d + 4) 81 30 [some (vR 10), some (vI w), some (vR a), some (vI (j : Int))] [] G I J Q
  | 0, j, I, fl, p, hj, h, k => by
    rw [List.drop_of_length_le (by omega)] at k
    refine b_X8_word_30 hG hs.1 hs.2.1 (sp_length hG hs (b_X8_word_35 hG (fun _ => b_X8_word_53 hG (k I h)) (fun q => ?_)))
    omega
  | m + 1, j, I, fl, p, hj, h, k => by
    have hl : j < cs.length := by omega
    have h9 := hs.2.2.2.2.2.2.1
    have h8 := hs.2.2.2.2.2.2.2 j hl
    refine b_X8_word_30 hG hs.1 hs.2.1 (sp_length hG hs (b_X8_word_35 hG (fun q => ?_) (fun _ => b_X8_word_38 hG hs.1 hs.2.1 (sp_charAt hG hs hl (b_X8_word_44 hG (sp_expect hG hp h h8.2.1 (fun I1 h1 => b_X8_word_47 hG (by unfold ok32; omega) ?_)))))))
    · omega
    · rw [show (j : Int) + 1 = ((j + 1 : Nat) : Int) by omega]
      refine lp_spell hG hp hs m (j + 1) I1 _ _ (by omega) h1 (fun I2 h2 => k I2 ?_)
      rw [List.drop_eq_getElem_cons hl]
      rw [List.getD_eq_getElem?_getD, List.getElem?_eq_getElem hl] at h2
      exact h2
theorem wstep {w c : Int} {u2 u3 : Option aV} (hc : cs.getD 0 0 = c) (hG : GW b G) (hp : Tp I0 bs n w0) (hs : StrOk a cs) (hw : 0 ≤ w ∧ w < 7) (hsp : ∀ (d : Nat) (Q' : Option aV → aG → aI → aI → Prop), Q' (some (vR a)) G I J → At d 82 0 [some (vI w)] [] G I J Q') (h : TC I0 n w0 e I fl p ts)
    (k1 : byt bs n p = c → ∀ I', TC I0 n w0 e I' (pExs bs n cs (fl, p)).1 (pExs bs n cs (fl, p)).2 ts → Q (some (vI w)) G I' J) (k2 : byt bs n p ≠ c → ∀ u2 u3, At (d + 4) 81 2 [some (vR 10), some (vI (w + 1)), u2, u3] [] G I J Q) : At (d + 4) 81 2 [some (vR 10), some (vI w), u2, u3] [] G I J Q := by
  subst hc
  refine b_X8_word_2 hG (fun q => ?_) (fun _ => b_X8_word_8 hG (hsp _ _ (b_X8_word_12 hG hs.1 hs.2.1 (sp_charAt (j := 0) hG hs hs.2.2.2.2.2.2.1.1 (b_X8_word_18 hG (sp_next hG hp h (b_X8_word_22 hG (fun q => b_X8_word_28 hG (lp_spell hG hp hs cs.length 0 I fl p (by omega) h (k1 q.symm))) (fun q => b_X8_word_25 hG (by unfold ok32; omega) (k2 (fun q2 => q q2.symm) _ _)))))))))
  omega
theorem sp_wordG (hG : GW b G) (hp : Tp I0 bs n w0) (h : TC I0 n w0 e I fl p ts) (k : ∀ I' w f p', TC I0 n w0 e I' f p' ts → (fl = true → f = true ∧ p' = p) → (fl = false → (pWord bs n p).2 = (f, p') ∧ (f = false → w = (pWord bs n p).1)) → Q (some (vI w)) G I' J) : At (d + 4) 81 0 [some (vR 10), none, none, none] [] G I J Q := by
  have fin : ∀ (w : Int) (cs : List Int), (pWord bs n p = (w, pExs bs n cs (false, p))) → ∀ I', TC I0 n w0 e I' (pExs bs n cs (fl, p)).1 (pExs bs n cs (fl, p)).2 ts → Q (some (vI w)) G I' J := by
    intro w cs hw I' h'
    cases fl
    · exact k I' w _ _ h' (fun q => by cases q) (fun _ => by rw [hw]; exact ⟨rfl, fun _ => rfl⟩)
    · rw [pExs_t] at h'
      exact k I' w _ _ h' (fun _ => ⟨rfl, rfl⟩) (fun q => by cases q)
  refine b_X8_word_0 hG (wstep (cs := [102, 105, 114, 115, 116]) (c := 102) (a := 1002) rfl hG hp (by unfold StrOk; decide) (by decide) (fun d Q' k => ?_) h (fun q => fin 0 _ ?_) (fun q0 u2 u3 => ?_))
  · refine b_X8_spelled_0 hG ?_ (fun _ => b_X8_spelled_40 hG k) ?_ ?_ ?_ ?_ ?_ <;> intro q <;> omega
  · unfold pWord
    rw [if_pos q]
  refine wstep (cs := [100, 117, 101, 115]) (c := 100) (a := 1003) rfl hG hp (by unfold StrOk; decide) (by decide) (fun d Q' k => ?_) h (fun q => fin (0 + 1) _ ?_) (fun q1 u2 u3 => ?_)
  · refine b_X8_spelled_0 hG ?_ ?_ (fun _ => b_X8_spelled_43 hG k) ?_ ?_ ?_ ?_ <;> intro q <;> omega
  · unfold pWord
    rw [if_neg q0, if_pos q]
    try rfl
  refine wstep (cs := [119, 111, 114, 107]) (c := 119) (a := 1004) rfl hG hp (by unfold StrOk; decide) (by decide) (fun d Q' k => ?_) h (fun q => fin (0 + 1 + 1) _ ?_) (fun q2 u2 u3 => ?_)
  · refine b_X8_spelled_0 hG ?_ ?_ ?_ (fun _ => b_X8_spelled_46 hG k) ?_ ?_ ?_ <;> intro q <;> omega
  · unfold pWord
    rw [if_neg q0, if_neg q1, if_pos q]
    try rfl
  refine wstep (cs := [108, 111, 110, 103]) (c := 108) (a := 1005) rfl hG hp (by unfold StrOk; decide) (by decide) (fun d Q' k => ?_) h (fun q => fin (0 + 1 + 1 + 1) _ ?_) (fun q3 u2 u3 => ?_)
  · refine b_X8_spelled_0 hG ?_ ?_ ?_ ?_ (fun _ => b_X8_spelled_49 hG k) ?_ ?_ <;> intro q <;> omega
  · unfold pWord
    rw [if_neg q0, if_neg q1, if_neg q2, if_pos q]
    try rfl
  refine wstep (cs := [99, 111, 114, 100, 115]) (c := 99) (a := 1006) rfl hG hp (by unfold StrOk; decide) (by decide) (fun d Q' k => ?_) h (fun q => fin (0 + 1 + 1 + 1 + 1) _ ?_) (fun q4 u2 u3 => ?_)
  · refine b_X8_spelled_0 hG ?_ ?_ ?_ ?_ ?_ (fun _ => b_X8_spelled_52 hG k) ?_ <;> intro q <;> omega
  · unfold pWord
    rw [if_neg q0, if_neg q1, if_neg q2, if_neg q3, if_pos q]
    try rfl
  refine wstep (cs := [116, 101, 108, 108]) (c := 116) (a := 1007) rfl hG hp (by unfold StrOk; decide) (by decide) (fun d Q' k => ?_) h (fun q => fin (0 + 1 + 1 + 1 + 1 + 1) _ ?_) (fun q5 u2 u3 => ?_)
  · refine b_X8_spelled_0 hG ?_ ?_ ?_ ?_ ?_ ?_ (fun _ => b_X8_spelled_55 hG k) <;> intro q <;> omega
  · unfold pWord
    rw [if_neg q0, if_neg q1, if_neg q2, if_neg q3, if_neg q4, if_pos q]
    try rfl
  have e6 : pWord bs n p = (0 + 1 + 1 + 1 + 1 + 1 + 1, pExs bs n [110, 101, 97, 114] (false, p)) := by
    unfold pWord
    rw [if_neg q0, if_neg q1, if_neg q2, if_neg q3, if_neg q4, if_neg q5]
    try rfl
  refine wstep (cs := [110, 101, 97, 114]) (c := 110) (a := 1008) rfl hG hp (by unfold StrOk; decide) (by decide) (fun d Q' k => ?_) h (fun q => fin (0 + 1 + 1 + 1 + 1 + 1 + 1) _ e6) (fun q6 u2 u3 => ?_)
  · refine b_X8_spelled_0 hG (fun _ => b_X8_spelled_58 hG k) ?_ ?_ ?_ ?_ ?_ ?_ <;> intro q <;> omega
  refine b_X8_word_2 hG (fun _ => b_X8_word_61 hG (k _ (-1) true p h.bad (fun _ => ⟨rfl, rfl⟩) (fun _ => ⟨?_, fun q => by cases q⟩))) (fun q => ?_)
  · rw [e6]
    show pExs bs n [101, 97, 114] (pEx bs n 110 (false, p)) = _
    rw [pEx_n q6, pExs_t]
  · omega
theorem sp_asks {w : Int} (hG : GW b G) (k1 : w = 0 ∨ w = 5 → Q (some (vI 1)) G I J) (k0 : ¬ (w = 0 ∨ w = 5) → Q (some (vI 0)) G I J) : At d 63 0 [some (vI w)] [] G I J Q := by
  repeat' first
    | intro _
    | refine b_X7_asksCall_0 hG ?_ ?_
    | refine b_X7_asksCall_9 hG ?_
    | refine b_X7_asksCall_4 hG ?_ ?_
    | refine b_X7_asksCall_13 hG ?_
  all_goals first
    | (refine k1 ?_; omega)
    | (refine k0 ?_; omega)
theorem rcF70 {c w : Int} (hG : GW b G) (hp : Tp I0 bs n w0) (h : TC I0 n w0 e I true p ts) (hc : 0 ≤ c ∧ c < 88) (k : ∀ s t I', TC (mset (mset I0 17 c s) 18 c t) n w0 e I' true p ts → Q none G I' J) : At (d + 21) 66 70 [some (vR 9), some (vI c), some (vI w)] [] G I J Q := by
  have h1 := h.base (a := 17) (k := c) (v := I 10 2) (by decide) (by decide)
  refine b_X7_readClause_70 hG hc.1 hc.2 (sp_asks hG (fun _ => b_X7_readClause_87 hG (fun q => by cases q) (fun _ => b_X7_readClause_90 hG (sp_anyF hG (hp.base (by decide)) h1 (fun I2 h2 => b_X7_readClause_98 hG hc.1 hc.2 (k _ _ _ (h2.base (by decide) (by decide))))))) (fun _ => b_X7_readClause_87 hG (fun _ => b_X7_readClause_98 hG hc.1 hc.2 (k _ _ _ (h1.base (by decide) (by decide)))) (fun q => absurd rfl q)))
theorem rcF35 {c w : Int} (hG : GW b G) (hp : Tp I0 bs n w0) (h : TC I0 n w0 e I true p ts) (hc : 0 ≤ c ∧ c < 88) (k : ∀ a s t I', TC (mset (mset (mset I0 13 c a) 17 c s) 18 c t) n w0 e I' true p ts → Q none G I' J) : At (d + 21) 66 35 [some (vR 9), some (vI c), some (vI w)] [] G I J Q := by
  have exp : ∀ (B I : aI), Tp B bs n w0 → TC B n w0 e I true p ts → (∀ s t I', TC (mset (mset B 17 c s) 18 c t) n w0 e I' true p ts → Q none G I' J) → At (d + 21) 66 61 [some (vR 9), some (vI c), some (vI w)] [] G I J Q := by
    intro B I hB h k
    refine b_X7_readClause_61 hG (sp_expect hG hB h (by decide) (fun I1 h1 => rcF70 hG hB h1 hc k))
  refine b_X7_readClause_35 hG (fun _ => b_X7_readClause_49 hG (sp_numberF hG hp h (fun I1 h1 => ?_))) (fun q => ?_)
  · have h2 := h1.base (a := 13) (k := c) (v := 0) (by decide) (by decide)
    exact b_X7_readClause_56 hG hc.1 hc.2 (fun _ => rcF70 hG (hp.base (by decide)) h2 hc (k 0)) (fun _ => exp _ _ (hp.base (by decide)) h2 (k 0))
  · have h2 := h.base (a := 13) (k := c) (v := 0) (by decide) (by decide)
    exact b_X7_readClause_45 hG hc.1 hc.2 (fun _ => rcF70 hG (hp.base (by decide)) h2 hc (k 0)) (fun _ => exp _ _ (hp.base (by decide)) h2 (k 0))
theorem sp_readClauseF {c : Int} (hG : GW b G) (hp : Tp I0 bs n w0) (h : TC I0 n w0 e I true p ts) (hc : 0 ≤ c ∧ c < 88) (k : ∀ w a s t I', TC (mset (mset (mset (mset I0 16 c w) 13 c a) 17 c s) 18 c t) n w0 e I' true p ts → Q none G I' J) : At (d + 21) 66 0 [some (vR 9), some (vI c), none] [] G I J Q := by
  refine b_X7_readClause_0 hG (fun q => ?_) (fun _ => b_X7_readClause_4 hG (fun _ => b_X7_readClause_11 hG (sp_wordG hG hp h (fun I1 w f p1 h1 e1 _ => ?_))) (fun q => ?_))
  · omega
  · obtain ⟨rfl, rfl⟩ := e1 rfl
    have h2 := h1.base (a := 16) (k := c) (v := w) (by decide) (by decide)
    exact b_X7_readClause_18 hG hc.1 hc.2 (sp_expect hG (hp.base (by decide)) h2 (by decide) (fun I3 h3 => rcF35 hG (hp.base (by decide)) h3 hc (k w)))
  · omega
theorem rc70 {c w : Int} (hG : GW b G) (hp : Tp I0 bs n w0) (h : TC I0 n w0 0 I false p ts) (hc : 0 ≤ c ∧ c < 88) (k : ∀ s t I' r, ((w = 0 ∨ w = 5) → pAny bs n (pOne bs n 5) p = r) → (¬ (w = 0 ∨ w = 5) → r = (false, p, [])) → s = w0 + (ts.length : Int) → (r.1 = false → t = w0 + (ts.length : Int) + (r.2.2.length : Int)) → TC (mset (mset I0 17 c s) 18 c t) n w0 0 I' r.1 r.2.1 (ts ++ r.2.2) → Q none G I' J) : At (d + 21) 66 70 [some (vR 9), some (vI c), some (vI w)] [] G I J Q := by
  have h1 := h.base (a := 17) (k := c) (v := I 10 2) (by decide) (by decide)
  have hl := (h.2.2.2.2.2.2.2 rfl).1
  refine b_X7_readClause_70 hG hc.1 hc.2 (sp_asks hG (fun hw => b_X7_readClause_87 hG (fun q => by cases q) (fun _ => b_X7_readClause_90 hG (sp_any0 (by omega) hG (hp.base (by decide)) (by decide) h1 (fun I2 h2 => b_X7_readClause_98 hG hc.1 hc.2 (k _ _ _ _ (fun _ => rfl) (fun q => absurd hw q) hl (fun q => ?_) (h2.base (by decide) (by decide))))))) (fun hw => b_X7_readClause_87 hG (fun _ => b_X7_readClause_98 hG hc.1 hc.2 (k _ ((mset I 17 c (I 10 2)) 10 2) _ (false, p, []) (fun q => absurd q hw) (fun _ => rfl) hl (fun _ => ?_) ?_)) (fun q => absurd rfl q)))
  · have := (h2.2.2.2.2.2.2.2 q).1
    rw [List.length_append] at this
    omega
  · rw [mset_o (by decide)]
    show I 10 2 = w0 + (ts.length : Int) + 0
    omega
  · rw [List.append_nil]
    exact h1.base (by decide) (by decide)
theorem sp_readClause {c : Int} (hG : GW b G) (hp : Tp I0 bs n w0) (h : TC I0 n w0 0 I false p ts) (hc : 0 ≤ c ∧ c < 88) (k : ∀ w a s t I' r, pClause bs n p = r → TC (mset (mset (mset (mset I0 16 c w) 13 c a) 17 c s) 18 c t) n w0 0 I' r.1 r.2.1 (ts ++ r.2.2.2.2) → (r.1 = false → w = r.2.2.1 ∧ a = r.2.2.2.1 ∧ s = w0 + (ts.length : Int) ∧ t = w0 + (ts.length : Int) + (r.2.2.2.2.length : Int)) → Q none G I' J) : At (d + 21) 66 0 [some (vR 9), some (vI c), none] [] G I J Q := by
  refine b_X7_readClause_0 hG (fun q => ?_) (fun _ => b_X7_readClause_4 hG (fun _ => b_X7_readClause_11 hG (sp_wordG hG hp h (fun I1 w f p1 h1 _ e1 => ?_))) (fun q => ?_))
  · omega
  · obtain ⟨e1, e2⟩ := e1 rfl
    have h2 := h1.base (a := 16) (k := c) (v := w) (by decide) (by decide)
    refine b_X7_readClause_18 hG hc.1 hc.2 (sp_expect hG (hp.base (by decide)) h2 (by decide) (fun I3 h3 => ?_))
    have k' := fun w a s t I' r q => k w a s t I' r q
    unfold pClause at k'
    rw [e1] at k'
    generalize hr2 : pEx bs n 32 (f, p1) = r2 at h3 k'
    obtain ⟨f2, p2⟩ := r2
    dsimp only at h3
    cases f2
    · obtain rfl : f = false := pEx_f (by rw [hr2])
      have e2 := e2 rfl
      rw [← e2] at k'
      have hq : Tp (mset I0 16 c w) bs n w0 := hp.base (by decide)
      -- what follows the number
      have tl : ∀ (a : Int) (I : aI) (f4 : Bool) (p4 : Int), TC (mset (mset I0 16 c w) 13 c a) n w0 0 I f4 p4 ts → pClW bs n w (false, p2) = pClE bs n w a (f4, p4) → At (d + 21) 66 70 [some (vR 9), some (vI c), some (vI w)] [] G I J Q := by
        intro a I f4 p4 h4 he
        cases f4
        · refine rc70 hG (hq.base (by decide)) h4 hc (fun s t I' r r1 r2 hs ht hT => ?_)
          by_cases hw : w = 0 ∨ w = 5
          · refine k' w a s t I' (r.1, r.2.1, w, a, r.2.2) ?_ hT (fun q => ⟨rfl, rfl, hs, ht q⟩)
            rw [he, ← r1 hw]
            unfold pClE
            rw [if_neg (by simp), if_pos hw]
          · refine k' w a s t I' (r.1, r.2.1, w, a, r.2.2) ?_ hT (fun q => ⟨rfl, rfl, hs, ht q⟩)
            rw [he, r2 hw]
            unfold pClE
            rw [if_neg (by simp), if_neg hw]
        · refine rcF70 hG (hq.base (by decide)) h4 hc (fun s t I' hT => k' w a s t I' (true, p4, w, a, []) ?_ hT.any (fun q => by cases q))
          rw [he]
          rfl
      refine b_X7_readClause_35 hG (fun q5 => b_X7_readClause_49 hG (sp_number hG hq h3 (fun I4 r4 hr4 h4 => ?_))) (fun q5 => ?_)
      · have h5 := h4.base (a := 13) (k := c) (v := r4.2.2) (by decide) (by decide)
        have hq2 : Tp (mset (mset I0 16 c w) 13 c r4.2.2) bs n w0 := hq.base (by decide)
        have ew : pClW bs n w (false, p2) = pClN bs n w r4 := by
          unfold pClW
          rw [if_neg (by simp), if_neg q5, hr4]
        obtain ⟨f4, p4, a⟩ := r4
        dsimp only at h5 hq2
        cases f4
        · refine b_X7_readClause_56 hG hc.1 hc.2 (fun q0 => tl a _ _ _ h5 ?_) (fun q0 => b_X7_readClause_61 hG (sp_expect hG hq2 h5 (by decide) (fun I6 h6 => tl a _ _ _ h6 ?_)))
          · rw [ew]
            unfold pClN
            rw [if_neg (by simp), if_neg q0]
          · rw [ew]
            unfold pClN
            rw [if_neg (by simp), if_pos q0]
        · have fl : ∀ s t I', TC (mset (mset (mset (mset I0 16 c w) 13 c a) 17 c s) 18 c t) n w0 0 I' true p4 ts → Q none G I' J := fun s t I' hT => k' w a s t I' (true, p4, w, 0, []) (by rw [ew]; rfl) hT.any (fun q => by cases q)
          exact b_X7_readClause_56 hG hc.1 hc.2 (fun q0 => rcF70 hG hq2 h5 hc fl) (fun q0 => b_X7_readClause_61 hG (sp_expect hG hq2 h5 (by decide) (fun I6 h6 => rcF70 hG hq2 h6 hc fl)))
      · have h5 := h3.base (a := 13) (k := c) (v := 0) (by decide) (by decide)
        refine b_X7_readClause_45 hG hc.1 hc.2 (fun q0 => tl 0 _ _ _ h5 ?_) (fun q0 => ?_)
        · unfold pClW pClN
          rw [if_neg (by simp), if_pos q5, if_neg (by simp), if_neg q0]
        · omega
    · refine rcF35 hG (hp.base (by decide)) h3 hc (fun a s t I' hT => k' w a s t I' (true, p2, (pWord bs n p).1, 0, []) rfl hT.any (fun q => by cases q))
  · omega
end TS
