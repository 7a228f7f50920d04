/-! the model goes through a tape: signs, numbers, facts, what is joined -/
def MC (I0 : aI) (n : Int) (I : aI) (bad : Bool) (p op : Int) : Prop :=
  (∀ a, a ≠ 56 → I a = I0 a) ∧ (∀ k, k ≠ 8 → k ≠ 9 → k ≠ 10 → I 56 k = I0 56 k) ∧ I 56 8 = p ∧ (op - 1 ≤ I 56 9 ∧ I 56 9 ≤ op ∧ (bad = false → I 56 9 = op)) ∧ I 56 10 = (if bad = true then 1 else 0) ∧ (0 ≤ p ∧ p ≤ n)
def VM (S : Int → Int) (c : Int) : Int → Int := fun j => if c = -1 then 0 else if j = 0 then S ((1312 + (8 * c)) + 0) else if j = 1 then S ((32 + (5 * S ((1312 + (8 * c)) + 1))) + 0) else if j = 2 then S ((1312 + (8 * c)) + 1) else if j = 3 then S ((1312 + (8 * c)) + 2) else S ((1312 + (8 * c)) + 4) % 100
def Mp (I0 : aI) (bs : Int → Int) (n base c : Int) : Prop := (0 ≤ n ∧ n ≤ 120) ∧ (0 ≤ base ∧ base ≤ 2336) ∧ I0 56 6 = base ∧ I0 56 7 = n ∧ I0 56 11 = c ∧ (∀ k, 0 ≤ k → k < n → I0 57 (base + k) = bs k ∧ 0 ≤ bs k ∧ bs k ≤ 255) ∧ (c = -1 ∨ (0 ≤ c ∧ c < 60 ∧ 0 ≤ I0 57 ((1312 + (8 * c)) + 1) ∧ I0 57 ((1312 + (8 * c)) + 1) < 12 ∧ 0 ≤ I0 57 ((1312 + (8 * c)) + 4)))
section MP
variable {I0 I : aI} {n p op base c : Int} {bad : Bool} {bs : Int → Int}
theorem MC.bd (h : MC I0 n I bad p op) : MC I0 n (mset I 56 10 1) true p op := by
  obtain ⟨h1, h2, h3, h4, h5, h6⟩ := h
  unfold MC
  rw [mset_at, mset_n (show (8 : Int) ≠ 10 by decide), mset_n (show (9 : Int) ≠ 10 by decide)]
  exact ⟨fun a ha => (mset_o ha).trans (h1 a ha), fun k k8 k9 k10 => (mset_n k10).trans (h2 k k8 k9 k10), h3, ⟨h4.1, h4.2.1, fun q => by cases q⟩, rfl, h6⟩
theorem MC.adv (h : MC I0 n I bad p op) (hn : p < n) : MC I0 n (mset I 56 8 (I 56 8 + 1)) bad (p + 1) op := by
  obtain ⟨h1, h2, h3, h4, h5, h6⟩ := h
  unfold MC
  rw [mset_at, mset_n (show (10 : Int) ≠ 8 by decide), mset_n (show (9 : Int) ≠ 8 by decide)]
  exact ⟨fun a ha => (mset_o ha).trans (h1 a ha), fun k k8 k9 k10 => (mset_n k8).trans (h2 k k8 k9 k10), by rw [h3], h4, h5, by omega⟩
end MP
section MS
variable {d : Nat} {b : Bool} {G : aG} {I J I0 : aI} {Q : Option aV → aG → aI → aI → Prop} {n p op base c : Int} {bad : Bool} {bs : Int → Int}
theorem sp_Mbyte (hG : GW b G) (hp : Mp I0 bs n base c) (h : MC I0 n I bad p op) (k : Q (some (vI (byt bs n p))) G I J) : At d 165 0 [some (vR 56)] [] G I J Q := by
  obtain ⟨p1, p2, p3, p4, p5, p6, p7⟩ := hp
  have e6 : I 56 6 = base := by rw [h.2.1 6 (by decide) (by decide) (by decide), p3]
  have e7 : I 56 7 = n := by rw [h.2.1 7 (by decide) (by decide) (by decide), p4]
  have e8 := h.2.2.1
  have h6 := h.2.2.2.2.2
  have e57 := h.1 57 (by decide)
  unfold byt at k
  refine b_X12_byteHere_0 hG (fun q => b_X12_byteHere_28 hG ?_) (fun q => b_X12_byteHere_11 hG ?_ ?_ ?_ ?_)
  · rw [if_neg (by omega)] at k
    exact k
  · unfold ok32
    omega
  · omega
  · omega
  · rw [if_pos (by omega)] at k
    rw [e57, e6, e8, (p6 p (by omega) (by omega)).1]
    exact k
theorem sp_Msign {x : Int} (hG : GW b G) (hp : Mp I0 bs n base c) (h : MC I0 n I bad p op) (hx : 0 ≤ x) (k : ∀ I', MC I0 n I' (pEx bs n x (bad, p)).1 (pEx bs n x (bad, p)).2 op → Q none G I' J) : At (d + 1) 166 0 [some (vR 56), some (vI x)] [] G I J Q := by
  have h5 := h.2.2.2.2.1
  have h6 := h.2.2.2.2.2
  have h3 := h.2.2.1
  have hp1 := hp.1
  cases bad
  · have h5 : I 56 10 = 0 := h5
    refine b_X12_sign_0 hG (fun _ => b_X12_sign_8 hG (sp_Mbyte hG hp h (b_X12_sign_12 hG (fun q => b_X12_sign_29 hG ?_) (fun q => b_X12_sign_16 hG (by unfold ok32; omega) ?_)))) (fun q => absurd h5 q)
    · rw [pEx_n q] at k
      exact k _ h.bd
    · rw [pEx_y q] at k
      exact k _ (h.adv (byt_b (bs := bs) (by rw [q]; omega)).2)
  · have h5 : I 56 10 = 1 := h5
    refine b_X12_sign_0 hG (fun q => ?_) (fun _ => b_X12_sign_7 hG (k _ h))
    omega
theorem sp_Mspell {x1 x2 x3 x4 x5 : Int} (hG : GW b G) (hp : Mp I0 bs n base c) (h : MC I0 n I bad p op) (h1 : 0 ≤ x1) (h2 : 0 ≤ x2) (h3 : 0 ≤ x3) (h4 : 0 ≤ x4) (h5 : 0 ≤ x5) (k : ∀ I', MC I0 n I' (pExs bs n (x1 :: x2 :: x3 :: x4 :: if x5 = 0 then [] else [x5]) (bad, p)).1 (pExs bs n (x1 :: x2 :: x3 :: x4 :: if x5 = 0 then [] else [x5]) (bad, p)).2 op → Q none G I' J) : At (d + 2) 167 0 [some (vR 56), some (vI x1), some (vI x2), some (vI x3), some (vI x4), some (vI x5)] [] G I J Q := by
  refine b_X12_spell_0 hG (sp_Msign hG hp h h1 (fun I1 m1 => b_X12_spell_5 hG (sp_Msign hG hp m1 h2 (fun I2 m2 => b_X12_spell_10 hG (sp_Msign hG hp m2 h3 (fun I3 m3 => b_X12_spell_15 hG (sp_Msign hG hp m3 h4 (fun I4 m4 => b_X12_spell_21 hG (fun q => b_X12_spell_32 hG (k _ ?_)) (fun q => b_X12_spell_26 hG (sp_Msign hG hp m4 h5 (fun I5 m5 => b_X12_spell_32 hG (k _ ?_))))))))))))
  · rw [if_pos q]
    exact m4
  · rw [if_neg q]
    exact m5
theorem sp_Mword (hG : GW b G) (hp : Mp I0 bs n base c) (h : MC I0 n I false p op) (k : ∀ I', MC I0 n I' (pWord bs n p).2.1 (pWord bs n p).2.2 op → Q (some (vI (pWord bs n p).1)) G I' J) : At (d + 3) 168 0 [some (vR 56)] [] G I J Q := by
  unfold pWord at k
  refine b_X12_word_0 hG (sp_Mbyte hG hp h (b_X12_word_4 hG (fun q => ?_) (fun q => ?_) (fun q => ?_) (fun q => ?_) (fun q => ?_) (fun q => ?_) (fun q1 q2 q3 q4 q5 q6 => ?_)))
  · rw [if_neg (by omega), if_neg (by omega), if_neg (by omega), if_neg (by omega), if_pos q] at k
    exact b_X12_word_125 hG (sp_Mspell hG hp h (by decide) (by decide) (by decide) (by decide) (by decide) (fun I1 m1 => b_X12_word_139 hG (k _ m1)))
  · rw [if_neg (by omega), if_pos q] at k
    exact b_X12_word_80 hG (sp_Mspell hG hp h (by decide) (by decide) (by decide) (by decide) (by decide) (fun I1 m1 => b_X12_word_93 hG (k _ m1)))
  · rw [if_pos q] at k
    exact b_X12_word_64 hG (sp_Mspell hG hp h (by decide) (by decide) (by decide) (by decide) (by decide) (fun I1 m1 => b_X12_word_78 hG (k _ m1)))
  · rw [if_neg (by omega), if_neg (by omega), if_neg (by omega), if_pos q] at k
    exact b_X12_word_110 hG (sp_Mspell hG hp h (by decide) (by decide) (by decide) (by decide) (by decide) (fun I1 m1 => b_X12_word_123 hG (k _ m1)))
  · rw [if_neg (by omega), if_neg (by omega), if_neg (by omega), if_neg (by omega), if_neg (by omega), if_pos q] at k
    exact b_X12_word_141 hG (sp_Mspell hG hp h (by decide) (by decide) (by decide) (by decide) (by decide) (fun I1 m1 => b_X12_word_154 hG (k _ m1)))
  · rw [if_neg (by omega), if_neg (by omega), if_pos q] at k
    exact b_X12_word_95 hG (sp_Mspell hG hp h (by decide) (by decide) (by decide) (by decide) (by decide) (fun I1 m1 => b_X12_word_108 hG (k _ m1)))
  · rw [if_neg (by omega), if_neg (by omega), if_neg (by omega), if_neg (by omega), if_neg (by omega), if_neg (by omega)] at k
    exact b_X12_word_156 hG (sp_Mspell hG hp h (by decide) (by decide) (by decide) (by decide) (by decide) (fun I1 m1 => b_X12_word_169 hG (k _ m1)))
theorem sp_isDigit {x : Int} (hG : GW b G) (k1 : 48 ≤ x → x ≤ 57 → Q (some (vI 1)) G I J) (k0 : ¬ (48 ≤ x ∧ x ≤ 57) → Q (some (vI 0)) G I J) : At (d + 1) 169 0 [some (vI x)] [] G I J Q :=
  b_X12_isDigit_0 hG (sp_in hG (fun q0 q1 => b_X12_isDigit_8 hG (Or.inr rfl) (k1 q0 q1)) (fun q => b_X12_isDigit_8 hG (Or.inl rfl) (k0 (by omega))))
theorem byt_r (hp : Mp I0 bs n base c) : -1 ≤ byt bs n p ∧ byt bs n p ≤ 255 := by
  unfold byt
  split
  · rename_i q
    have := (hp.2.2.2.2.2.1 p q.1 q.2).2
    omega
  · omega
theorem mnu_it {v m : Int} (hG : GW b G) (hp : Mp I0 bs n base c) (h : MC I0 n I false p op) (hv : 0 ≤ v ∧ v ≤ 99 ∨ 3 ≤ m) (k0 : (3 ≤ m ∨ v ≤ 0 ∨ ¬ (48 ≤ byt bs n p ∧ byt bs n p ≤ 57)) → Q (some (vI v)) G I J) (k1 : m < 3 → 0 < v → 48 ≤ byt bs n p → byt bs n p ≤ 57 → ∀ I', MC I0 n I' false (p + 1) op → At (d + 2) 170 46 [some (vR 56), some (vI (10 * v + byt bs n p - 48)), some (vI (m + 1))] [] G I' J Q) (hm : 1 ≤ m ∧ m ≤ 3) : At (d + 2) 170 46 [some (vR 56), some (vI v), some (vI m)] [] G I J Q := by
  have h3 := h.2.2.1
  have h6 := h.2.2.2.2.2
  have hp1 := hp.1
  have hb := byt_r (p := p) hp
  refine b_X12_number_46 hG (fun q => b_X12_number_94 hG (k0 (Or.inl q))) (fun q => b_X12_number_51 hG (fun q1 => b_X12_number_94 hG (k0 (Or.inr (Or.inl q1)))) (fun q1 => b_X12_number_55 hG (sp_Mbyte hG hp h (b_X12_number_59 hG (sp_isDigit hG (fun q2 q3 => b_X12_number_62 hG (fun q4 => absurd q4 (by decide)) (fun _ => b_X12_number_65 hG (by unfold ok32; omega) (sp_Mbyte hG hp h (b_X12_number_73 hG (by unfold ok32; omega) (by unfold ok32; omega) (by unfold ok32; omega) (by unfold ok32; omega) ?_)))) (fun q2 => b_X12_number_62 hG (fun _ => b_X12_number_94 hG (k0 (Or.inr (Or.inr q2)))) (fun q4 => absurd rfl q4)))))))
  exact k1 q q1 q2 q3 _ (h.adv (byt_b (bs := bs) (p := p) (by omega)).2)
theorem sp_Mnumber (hG : GW b G) (hp : Mp I0 bs n base c) (h : MC I0 n I false p op) (k : ∀ I' r, pNum bs n p = r → MC I0 n I' r.1 r.2.1 op → Q (some (vI r.2.2)) G I' J) : At (d + 2) 170 0 [some (vR 56), none, none] [] G I J Q := by
  have h5 : I 56 10 = 0 := h.2.2.2.2.1
  have h3 := h.2.2.1
  have h6 := h.2.2.2.2.2
  have hp1 := hp.1
  have hb := byt_r (p := p) hp
  have hb1 := byt_r (p := p + 1) hp
  have hb2 := byt_r (p := p + 1 + 1) hp
  refine b_X12_number_0 hG (fun _ => b_X12_number_9 hG (sp_Mbyte hG hp h (b_X12_number_13 hG (sp_isDigit hG (fun q0 q1 => b_X12_number_16 hG (fun _ => b_X12_number_26 hG (sp_Mbyte hG hp h (b_X12_number_30 hG (by unfold ok32; omega) (by unfold ok32; omega) ?_))) (fun q4 => absurd q4 (by decide))) (fun q => b_X12_number_16 hG (fun q4 => absurd rfl q4) (fun _ => b_X12_number_19 hG ?_)))))) (fun q => absurd h5 q)
  · have h1 := h.adv (byt_b (bs := bs) (p := p) (by omega)).2
    refine mnu_it hG hp h1 (by omega) (fun q => ?_) (fun _ q2 q3 q4 I2 h2 => ?_) (by decide)
    · refine k _ (false, p + 1, byt bs n p - 48) ?_ h1
      unfold pNum
      (repeat' split) <;> first | omega | (refine Prod.ext rfl (Prod.ext rfl ?_); dsimp only; omega) | rfl
    · refine mnu_it hG hp h2 (by omega) (fun q => ?_) (fun _ q5 q6 q7 I3 h4 => ?_) (by decide)
      · refine k _ (false, p + 1 + 1, 10 * (byt bs n p - 48) + byt bs n (p + 1) - 48) ?_ h2
        unfold pNum
        (repeat' split) <;> first | omega | (refine Prod.ext rfl (Prod.ext rfl ?_); dsimp only; omega) | rfl
      · refine mnu_it hG hp h4 (by omega) (fun q => ?_) (fun q8 _ _ _ _ _ => ?_) (by decide)
        · refine k _ (false, p + 1 + 1 + 1, _) ?_ h4
          unfold pNum
          (repeat' split) <;> first | omega | (refine Prod.ext rfl (Prod.ext rfl ?_); dsimp only; omega) | rfl
        · omega
  · refine k _ (true, p, 0) ?_ h.bd
    unfold pNum
    rw [if_neg q]
theorem sp_MnumberF (hG : GW b G) (h : MC I0 n I true p op) (k : Q (some (vI 0)) G I J) : At d 170 0 [some (vR 56), none, none] [] G I J Q := by
  have h5 : I 56 10 = 1 := h.2.2.2.2.1
  refine b_X12_number_0 hG (fun q => ?_) (fun q => b_X12_number_7 hG k)
  omega
theorem sp_Mfact {x : Int} (hG : GW b G) (hp : Mp I0 bs n base c) (h : MC I0 n I bad p op) (hc : ¬ c = -1) (hx : 0 ≤ pLet x) (k : Q (some (vI (VM (I0 57) c (pLet x)))) G I J) : At (d + 1) 172 0 [some (vR 56), some (vI x)] [] G I J Q := by
  have e57 := h.1 57 (by decide)
  have e11 : I 56 11 = c := by rw [h.2.1 11 (by decide) (by decide) (by decide), hp.2.2.2.2.1]
  have h7 := hp.2.2.2.2.2.2.resolve_left hc
  rw [← e57] at h7 k
  unfold VM at k
  rw [if_neg hc] at k
  unfold pLet at hx k
  have z : x = 107 ∨ x = 108 ∨ x = 102 ∨ x = 103 ∨ x = 104 := by
    revert hx
    (repeat' split) <;> intro _ <;> omega
  refine b_X12_fact_0 hG (fun q => ?_) (fun q => ?_) (fun q => ?_) (fun q => ?_) (fun q => ?_) (fun q => ?_) (fun q => ?_) (fun q => ?_)
  · omega
  · rw [q] at k
    refine b_X12_fact_69 hG (b_X12_c_0 hG (by unfold ok32; omega) (by unfold ok32; omega) (by unfold ok32; omega) (by omega) (by omega) (b_X12_fact_78 hG ?_))
    rw [e11]
    exact k
  · rw [q] at k
    refine b_X12_fact_79 hG (b_X12_c_0 hG (by unfold ok32; omega) (by unfold ok32; omega) (by unfold ok32; omega) (by omega) (by omega) (b_X12_fact_88 hG ?_))
    rw [e11]
    exact k
  · rw [q] at k
    refine b_X12_fact_89 hG (b_X12_c_0 hG (by unfold ok32; omega) (by unfold ok32; omega) (by unfold ok32; omega) (by omega) (by omega) (b_X12_fact_98 hG (by rw [e11]; omega) ?_))
    rw [e11]
    exact k
  · omega
  · omega
  · rw [q] at k
    refine b_X12_fact_44 hG (b_X12_c_0 hG (by unfold ok32; omega) (by unfold ok32; omega) (by unfold ok32; omega) (by omega) (by omega) (b_X12_fact_53 hG ?_))
    rw [e11]
    exact k
  · rw [q] at k
    refine b_X12_fact_54 hG (b_X12_c_0 hG (by unfold ok32; omega) (by unfold ok32; omega) (by unfold ok32; omega) (by omega) (by omega) (b_X12_fact_64 hG (b_X12_f_0 hG ?_ ?_ ?_ ?_ ?_ (b_X12_fact_68 hG ?_))))
    all_goals rw [e11]
    all_goals first
      | exact k
      | (unfold ok32; omega)
      | omega
theorem VM5 {S : Int → Int} : VM S c 5 = VM S c 4 := rfl
theorem mone_cmp {bb mk num : Int} {u3 u4 : Option aV} (hG : GW b G) (hp : Mp I0 bs n base c) (h : MC I0 n I bad p op) (hm : 0 ≤ pMark bb mk) (hn : 0 ≤ num ∧ num ≤ 999) (k : Q (some (vI (if fitsV (VM (I0 57) c) (1000 * pMark bb mk + num) = true then 1 else 0))) G I J) : At (d + 2) 173 182 [some (vR 56), some (vI bb), some (vI mk), u3, u4] [vI num] G I J Q := by
  have e11 : I 56 11 = c := by rw [h.2.1 11 (by decide) (by decide) (by decide), hp.2.2.2.2.1]
  generalize hv : VM (I0 57) c (pLet bb) = x at *
  have fin : At (d + 2) 173 200 [some (vR 56), some (vI bb), some (vI mk), some (vI num), u4] [vI x] G I J Q ∧ (x = 0 → At (d + 2) 173 191 [some (vR 56), some (vI bb), some (vI mk), some (vI num), u4] [] G I J Q) := by
    have e1 : (1000 * pMark bb mk + num) / 1000 = pMark bb mk := by omega
    have e2 : (1000 * pMark bb mk + num) % 1000 = num := by omega
    unfold fitsV at k
    rw [e1, e2] at k
    have k61 : mk = 61 → (x = num → Q (some (vI 1)) G I J) ∧ (¬ x = num → Q (some (vI 0)) G I J) := by
      intro q
      have hl := pLet_b (x := bb)
      have e3 : pMark bb mk = pLet bb ∧ pLet bb ≠ 4 := by
        unfold pMark at hm ⊢
        by_cases h4 : bb = 104
        · rw [if_pos h4, if_neg (by omega), if_neg (by omega)] at hm
          omega
        · rw [if_neg h4, if_pos q]
          exact ⟨rfl, by omega⟩
      rw [e3.1, if_neg e3.2, if_neg (show ¬ pLet bb = 5 by omega), hv] at k
      refine ⟨fun q1 => ?_, fun q1 => ?_⟩
      · rw [decide_eq_true q1] at k
        exact k
      · rw [decide_eq_false q1] at k
        exact k
    have k60 : mk = 60 → (x < num → Q (some (vI 1)) G I J) ∧ (num ≤ x → Q (some (vI 0)) G I J) := by
      intro q
      have hl := pLet_b (x := bb)
      have e3 : pMark bb mk = 4 ∧ pLet bb = 4 := by
        unfold pMark at hm ⊢
        by_cases h4 : bb = 104
        · rw [if_pos h4, if_pos (by omega)]
          exact ⟨rfl, by omega⟩
        · rw [if_neg h4, if_neg (by omega)] at hm
          omega
      rw [e3.1, if_pos rfl, ← e3.2, hv] at k
      refine ⟨fun q1 => ?_, fun q1 => ?_⟩
      · rw [decide_eq_true q1] at k
        exact k
      · rw [decide_eq_false (by omega)] at k
        exact k
    have k62 : mk ≠ 61 → mk ≠ 60 → (num < x → Q (some (vI 1)) G I J) ∧ (x ≤ num → Q (some (vI 0)) G I J) := by
      intro q q'
      have hl := pLet_b (x := bb)
      have e3 : pMark bb mk = 5 ∧ pLet bb = 4 := by
        unfold pMark at hm ⊢
        by_cases h4 : bb = 104
        · rw [if_pos h4, if_neg (by omega)] at hm ⊢
          by_cases h5 : mk = 62
          · rw [if_pos h5]
            exact ⟨rfl, by omega⟩
          · rw [if_neg h5] at hm
            omega
        · rw [if_neg h4, if_neg (by omega)] at hm
          omega
      rw [e3.1, if_neg (show ¬ (5 : Int) = 4 by decide), if_pos (show (5 : Int) = 5 from rfl), VM5, ← e3.2, hv] at k
      refine ⟨fun q1 => ?_, fun q1 => ?_⟩
      · rw [decide_eq_true q1] at k
        exact k
      · rw [decide_eq_false (by omega)] at k
        exact k
    have c208 : mk = 61 → At (d + 2) 173 208 [some (vR 56), some (vI bb), some (vI mk), some (vI num), some (vI x)] [] G I J Q := fun q => b_X12_one_208 hG (fun q1 => b_X12_one_218 hG ((k61 q).2 q1)) (fun q1 => b_X12_one_214 hG ((k61 q).1 q1))
    have c222 : mk ≠ 61 → At (d + 2) 173 222 [some (vR 56), some (vI bb), some (vI mk), some (vI num), some (vI x)] [] G I J Q := fun q => b_X12_one_222 hG (fun q1 => b_X12_one_242 hG (fun q2 => b_X12_one_252 hG ((k62 q q1).2 q2)) (fun q2 => b_X12_one_248 hG ((k62 q q1).1 q2))) (fun q1 => b_X12_one_228 hG (fun q2 => b_X12_one_238 hG ((k60 q1).2 q2)) (fun q2 => b_X12_one_234 hG ((k60 q1).1 q2)))
    refine ⟨b_X12_one_200 hG c222 c208, fun q => ?_⟩
    rw [q] at c208 c222
    exact b_X12_one_191 hG c222 c208
  refine b_X12_one_182 hG (fun q => ?_) (fun q => fin.2 ?_)
  · have hx : 0 ≤ pLet bb := by
      unfold pMark at hm
      unfold pLet
      revert hm
      (repeat' split) <;> intro _ <;> first | omega | (unfold pLet at *; (repeat' split at *) <;> omega)
    refine b_X12_one_195 hG (sp_Mfact hG hp h (by rw [← e11]; exact q) hx ?_)
    rw [hv]
    exact fin.1
  · rw [← hv]
    unfold VM
    rw [if_pos (by omega)]
theorem mone_fact {u2 u3 u4 : Option aV} (hG : GW b G) (hp : Mp I0 bs n base c) (h : MC I0 n I false p op) (hb : ¬ byt bs n p = 33) (hb2 : ¬ byt bs n p = 40) (k : ∀ I' v, MC I0 n I' (pFact bs n p).1 (pFact bs n p).2.1 op → (v = 0 ∨ v = 1) → ((pFact bs n p).1 = false → Wf (VM (I0 57) c) 1 (pFact bs n p).2.2 (decide (v = 1))) → Q (some (vI v)) G I' J) : At (d + 3) 173 49 [some (vR 56), some (vI (byt bs n p)), u2, u3, u4] [] G I J Q := by
  have hl := pLet_b (x := byt bs n p)
  have h3 := h.2.2.1
  have h6 := h.2.2.2.2.2
  have hp1 := hp.1
  have hno : pLet (byt bs n p) < 0 → Q (some (vI 0)) G (mset I 56 10 1) J := fun q => by
    unfold pFact at k
    rw [if_pos q] at k
    exact k _ 0 h.bd (Or.inl rfl) (fun q => by cases q)
  have hgo : 0 ≤ pLet (byt bs n p) → At (d + 3) 173 119 [some (vR 56), some (vI (byt bs n p)), u2, u3, u4] [] G I J Q := by
    intro q
    have hpn : p < n := (byt_b (bs := bs) (p := p) (fun q2 => by rw [q2] at q; revert q; decide)).2
    have h1 := h.adv hpn
    have e8 : (mset I 56 8 (I 56 8 + 1)) 56 8 = p + 1 := by rw [mset_at, h3]
    generalize hX : mset I 56 8 (I 56 8 + 1) = I1 at *
    have hm0 : pMark (byt bs n p) (byt bs n (p + 1)) < 0 → Q (some (vI 0)) G (mset I1 56 10 1) J := fun q3 => by
      unfold pFact at k
      rw [if_neg (by omega), if_pos q3] at k
      exact k _ 0 h1.bd (Or.inl rfl) (fun q => by cases q)
    have hm1 : 0 ≤ pMark (byt bs n p) (byt bs n (p + 1)) → ∀ u3 u4, At (d + 3) 173 168 [some (vR 56), some (vI (byt bs n p)), some (vI (byt bs n (p + 1))), u3, u4] [] G I1 J Q := by
      intro q3 u3 u4
      have hpn2 : p + 1 < n := (byt_b (bs := bs) (p := p + 1) (fun q2 => by
        rw [q2] at q3
        revert q3
        unfold pMark
        (repeat' split) <;> omega)).2
      unfold pFact at k
      rw [if_neg (by omega), if_neg (by omega)] at k
      refine b_X12_one_168 hG (by unfold ok32; omega) (sp_Mnumber hG hp (h1.adv hpn2) (fun I2 r hr h2 => ?_))
      have hnb := pNum_b (bs := bs) (n := n) (p := p + 1 + 1)
      rw [hr] at k hnb
      refine mone_cmp (d := d + 1) hG hp h2 q3 (by omega) (k _ _ h2 ?_ (fun _ => ?_))
      · split
        · exact Or.inr rfl
        · exact Or.inl rfl
      · have := Wf.fact (V := VM (I0 57) c) (x := 1000 * pMark (byt bs n p) (byt bs n (p + 1)) + r.2.2) (by omega)
        cases hf : fitsV (VM (I0 57) c) (1000 * pMark (byt bs n p) (byt bs n (p + 1)) + r.2.2)
        · rw [hf] at this
          exact this
        · rw [hf] at this
          exact this
    subst hX
    refine b_X12_one_119 hG (by unfold ok32; omega) (sp_Mbyte hG hp h1 (b_X12_one_133 hG (fun q4 => b_X12_one_155 hG (fun q5 => hm1 ?_ _ _) (fun q5 => b_X12_one_161 hG (hm0 ?_))) (fun q4 => b_X12_one_140 hG (fun q5 => hm1 ?_ _ _) (fun q5 => b_X12_one_146 hG (fun q6 => hm1 ?_ _ _) (fun q6 => b_X12_one_152 hG (hm0 ?_))))))
    · unfold pMark
      rw [if_neg q4, if_pos q5]
      exact q
    · unfold pMark
      rw [if_neg q4, if_neg q5]
      decide
    · unfold pMark
      rw [if_pos q4, if_pos q5]
      decide
    · unfold pMark
      rw [if_pos q4, if_neg q5, if_pos q6]
      decide
    · unfold pMark
      rw [if_pos q4, if_neg q5, if_neg q6]
      decide
  have hle : byt bs n p = 107 ∨ byt bs n p = 108 ∨ byt bs n p = 102 ∨ byt bs n p = 103 ∨ byt bs n p = 104 → 0 ≤ pLet (byt bs n p) := by
    intro q
    unfold pLet
    (repeat' split) <;> omega
  refine b_X12_one_49 hG (fun _ => b_X12_one_82 hG (fun q => hgo (hle (by omega))) (fun q1 => b_X12_one_88 hG (fun q => hgo (hle (by omega))) (fun q2 => b_X12_one_94 hG (fun q => hgo (hle (by omega))) (fun q3 => b_X12_one_100 hG (fun q => hgo (hle (by omega))) (fun q4 => b_X12_one_106 hG (fun q => hgo (hle (by omega))) (fun q5 => b_X12_one_112 hG (hno ?_))))))) (fun q => absurd q hb2)
  unfold pLet
  (repeat' split) <;> omega
end MS
