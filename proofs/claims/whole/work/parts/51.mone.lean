/-! the model goes through a tape: what is joined -/
section MP
variable {I0 I : aI} {n p op base c : Int} {bad : Bool} {bs : Int → Int}
theorem MC.opn (h : MC I0 n I false p op) (hn : p < n) : MC I0 n (mset (mset I 56 9 (I 56 9 + 1)) 56 8 (I 56 8 + 1)) false (p + 1) (op + 1) := by
  obtain ⟨h1, h2, h3, h4, h5, h6⟩ := h
  unfold MC
  rw [mset_at, mset_n (show (10 : Int) ≠ 8 by decide), mset_n (show (10 : Int) ≠ 9 by decide), mset_n (show (9 : Int) ≠ 8 by decide), mset_at]
  exact ⟨fun a ha => (mset_o ha).trans ((mset_o ha).trans (h1 a ha)), fun k k8 k9 k10 => (mset_n k8).trans ((mset_n k9).trans (h2 k k8 k9 k10)), by rw [h3], ⟨by omega, by omega, fun _ => by rw [h4.2.2 rfl]⟩, h5, by omega⟩
theorem MC.cls (h : MC I0 n I bad p (op + 1)) : MC I0 n (mset I 56 9 (I 56 9 - 1)) bad p op := by
  obtain ⟨h1, h2, h3, h4, h5, h6⟩ := h
  unfold MC
  rw [mset_at, mset_n (show (8 : Int) ≠ 9 by decide), mset_n (show (10 : Int) ≠ 9 by decide)]
  exact ⟨fun a ha => (mset_o ha).trans (h1 a ha), fun k k8 k9 k10 => (mset_n k9).trans (h2 k k8 k9 k10), h3, ⟨by omega, by omega, fun q => by rw [h4.2.2 q]; omega⟩, h5, h6⟩
theorem MC.clb (h : MC I0 n I true p op) (ho : I 56 9 = op) : MC I0 n (mset I 56 9 (I 56 9 - 1)) true p op := by
  obtain ⟨h1, h2, h3, h4, h5, h6⟩ := h
  unfold MC
  rw [mset_at, mset_n (show (8 : Int) ≠ 9 by decide), mset_n (show (10 : Int) ≠ 9 by decide)]
  exact ⟨fun a ha => (mset_o ha).trans (h1 a ha), fun k k8 k9 k10 => (mset_n k9).trans (h2 k k8 k9 k10), h3, ⟨by omega, by omega, fun q => by cases q⟩, h5, h6⟩
end MP
section MS
variable {d : Nat} {b : Bool} {G : aG} {I J I0 : aI} {Q : Option aV → aG → aI → aI → Prop} {n p op base c : Int} {bad : Bool} {bs : Int → Int}
def SMone (I0 : aI) (bs : Int → Int) (n c : Int) (k : Nat) : Prop := ∀ (D : Nat) (b : Bool) (G : aG) (I J : aI) (Q : Option aV → aG → aI → aI → Prop) (p : Int), 3 * k + 3 ≤ D → GW b G → MC I0 n I false p (5 - (k : Int)) → (∀ I' v, MC I0 n I' (pOne bs n k p).1 (pOne bs n k p).2.1 (5 - (k : Int)) → (v = 0 ∨ v = 1) → ((pOne bs n k p).1 = false → Wf (VM (I0 57) c) (2 * k + 1) (pOne bs n k p).2.2 (decide (v = 1))) → Q (some (vI v)) G I' J) → At D 173 0 [some (vR 56), none, none, none, none] [] G I J Q
def SMall (I0 : aI) (bs : Int → Int) (n c : Int) (k : Nat) : Prop := ∀ (D : Nat) (b : Bool) (G : aG) (I J : aI) (Q : Option aV → aG → aI → aI → Prop) (p : Int), 3 * k + 4 ≤ D → GW b G → MC I0 n I false p (5 - (k : Int)) → (∀ I' v, MC I0 n I' (pAll bs n (pOne bs n k) p).1 (pAll bs n (pOne bs n k) p).2.1 (5 - (k : Int)) → (v = 0 ∨ v = 1) → ((pAll bs n (pOne bs n k) p).1 = false → Wf (VM (I0 57) c) (2 * k + 2) (pAll bs n (pOne bs n k) p).2.2 (decide (v = 1))) → Q (some (vI v)) G I' J) → At D 174 0 [some (vR 56), none, none] [] G I J Q
def SMany (I0 : aI) (bs : Int → Int) (n c : Int) (k : Nat) : Prop := ∀ (D : Nat) (b : Bool) (G : aG) (I J : aI) (Q : Option aV → aG → aI → aI → Prop) (p : Int), 3 * k + 5 ≤ D → GW b G → MC I0 n I false p (5 - (k : Int)) → (∀ I' v, MC I0 n I' (pAny bs n (pOne bs n k) p).1 (pAny bs n (pOne bs n k) p).2.1 (5 - (k : Int)) → (v = 0 ∨ v = 1) → ((pAny bs n (pOne bs n k) p).1 = false → Wf (VM (I0 57) c) (2 * k + 3) (pAny bs n (pOne bs n k) p).2.2 (decide (v = 1))) → Q (some (vI v)) G I' J) → At D 175 0 [some (vR 56), none, none] [] G I J Q
theorem lp_mboth {m : Nat} (H : SMone I0 bs n c m) (hG : GW b G) (hp : Mp I0 bs n base c) (hd : 3 * m + 3 ≤ d) : ∀ (f : Nat) (I : aI) (r : Bool × Int × List Int) (x1 : Int) (u2 : Option aV), n < f + r.2.1 → MC I0 n I r.1 r.2.1 (5 - (m : Int)) → (x1 = 0 ∨ x1 = 1) → (r.1 = false → Wf (VM (I0 57) c) (2 * m + 2) r.2.2 (decide (x1 = 1))) → (∀ I' v, MC I0 n I' (pLoop bs n (pOne bs n m) 38 (-2) f r).1 (pLoop bs n (pOne bs n m) 38 (-2) f r).2.1 (5 - (m : Int)) → (v = 0 ∨ v = 1) → ((pLoop bs n (pOne bs n m) 38 (-2) f r).1 = false → Wf (VM (I0 57) c) (2 * m + 2) (pLoop bs n (pOne bs n m) 38 (-2) f r).2.2 (decide (v = 1))) → Q (some (vI v)) G I' J) → At (d + 1) 174 5 [some (vR 56), some (vI x1), u2] [] G I J Q
  | 0, I, (f0, p, t), x1, u2, hf, h, hx, hw, k => by
    have := h.2.2.2.2.2
    dsimp only at this hf
    omega
  | f + 1, I, (f0, p, t), x1, u2, hf, h, hx, hw, k => by
    dsimp only at hf hx h hw
    have hp1 := hp.1
    have h3 := h.2.2.1
    have h6 := h.2.2.2.2.2
    have h5 := h.2.2.2.2.1
    have out : ¬ (f0 = false ∧ byt bs n p = 38) → Q (some (vI x1)) G I J := fun q => by
      unfold pLoop at k
      rw [if_neg q] at k
      exact k I x1 h hx hw
    have hf0 : I 56 10 = 0 → f0 = false := fun q => by
      cases f0
      · rfl
      · rw [h5] at q
        cases q
    refine b_X12_both_5 hG (fun q => b_X12_both_53 hG hx (out fun q2 => ?_)) (fun q => b_X12_both_12 hG (sp_Mbyte hG hp h (b_X12_both_16 hG (fun q1 => b_X12_both_53 hG hx (out fun q2 => q1 q2.2)) (fun q1 => ?_))))
    · rw [q2.1] at h5
      exact q h5
    have hb : p < n := (byt_b (bs := bs) (p := p) (by omega)).2
    obtain rfl := hf0 q
    have hg := pOne_ge (bs := bs) (n := n) m (p + 1)
    refine b_X12_both_21 hG (by unfold ok32; omega) (H d _ _ _ _ _ _ hd hG (h.adv hb) (fun I1 v1 h1 hv1 hw1 => ?_))
    have nx : ∀ x' u, (x' = 0 ∨ x' = 1) → (decide (x1 = 1) && decide (v1 = 1)) = decide (x' = 1) → At (d + 1) 174 5 [some (vR 56), some (vI x'), u] [] G I1 J Q := by
      intro x' u hx' he
      refine lp_mboth H hG hp hd f I1 ((pOne bs n m (p + 1)).1, (pOne bs n m (p + 1)).2.1, t ++ (pOne bs n m (p + 1)).2.2 ++ [-2]) x' u (by dsimp only; omega) h1 hx' (fun q2 => ?_) (fun I' v => ?_)
      · rw [← he]
        exact Wf.an (h := 2 * m + 1) (hw rfl) (hw1 q2)
      · have := k I' v
        unfold pLoop at this
        rw [if_pos ⟨rfl, q1⟩] at this
        exact this
    refine b_X12_both_35 hG (fun q2 => b_X12_both_48 hG (nx 0 _ (Or.inl rfl) ?_)) (fun q2 => b_X12_both_40 hG (fun q3 => b_X12_both_48 hG (nx 0 _ (Or.inl rfl) ?_)) (fun q3 => b_X12_both_44 hG (nx 1 _ (Or.inr rfl) ?_)))
    · rw [q2]
      rfl
    · rw [q3]
      cases decide (x1 = 1) <;> rfl
    · rw [hx.resolve_left q2, hv1.resolve_left q3]
      rfl
theorem cs_mall {m : Nat} (H : SMone I0 bs n c m) (hp : Mp I0 bs n base c) : SMall I0 bs n c m := by
  intro D b G I J Q p hD hG h k
  obtain ⟨d, rfl⟩ : ∃ d, D = d + 1 := ⟨D - 1, by omega⟩
  have hp1 := hp.1
  refine b_X12_both_0 hG (H d _ _ _ _ _ _ (by omega) hG h (fun I1 v1 h1 hv1 hw1 => b_X12_both_4 hG ?_))
  have h6 := h1.2.2.2.2.2
  exact lp_mboth H hG hp (by omega) 121 I1 (pOne bs n m p) v1 _ (by omega) h1 hv1 (fun q => (hw1 q).up (by omega)) k
theorem lp_meither {m : Nat} (H : SMall I0 bs n c m) (hG : GW b G) (hp : Mp I0 bs n base c) (hd : 3 * m + 4 ≤ d) : ∀ (f : Nat) (I : aI) (r : Bool × Int × List Int) (x1 : Int) (u2 : Option aV), n < f + r.2.1 → MC I0 n I r.1 r.2.1 (5 - (m : Int)) → (x1 = 0 ∨ x1 = 1) → (r.1 = false → Wf (VM (I0 57) c) (2 * m + 3) r.2.2 (decide (x1 = 1))) → (∀ I' v, MC I0 n I' (pLoop bs n (pAll bs n (pOne bs n m)) 124 (-3) f r).1 (pLoop bs n (pAll bs n (pOne bs n m)) 124 (-3) f r).2.1 (5 - (m : Int)) → (v = 0 ∨ v = 1) → ((pLoop bs n (pAll bs n (pOne bs n m)) 124 (-3) f r).1 = false → Wf (VM (I0 57) c) (2 * m + 3) (pLoop bs n (pAll bs n (pOne bs n m)) 124 (-3) f r).2.2 (decide (v = 1))) → Q (some (vI v)) G I' J) → At (d + 1) 175 5 [some (vR 56), some (vI x1), u2] [] G I J Q
  | 0, I, (f0, p, t), x1, u2, hf, h, hx, hw, k => by
    have := h.2.2.2.2.2
    dsimp only at this hf
    omega
  | f + 1, I, (f0, p, t), x1, u2, hf, h, hx, hw, k => by
    dsimp only at hf hx h hw
    have hp1 := hp.1
    have h3 := h.2.2.1
    have h6 := h.2.2.2.2.2
    have h5 := h.2.2.2.2.1
    have out : ¬ (f0 = false ∧ byt bs n p = 124) → Q (some (vI x1)) G I J := fun q => by
      unfold pLoop at k
      rw [if_neg q] at k
      exact k I x1 h hx hw
    have hf0 : I 56 10 = 0 → f0 = false := fun q => by
      cases f0
      · rfl
      · rw [h5] at q
        cases q
    refine b_X12_either_5 hG (fun q => b_X12_either_53 hG hx (out fun q2 => ?_)) (fun q => b_X12_either_12 hG (sp_Mbyte hG hp h (b_X12_either_16 hG (fun q1 => b_X12_either_53 hG hx (out fun q2 => q1 q2.2)) (fun q1 => ?_))))
    · rw [q2.1] at h5
      exact q h5
    have hb : p < n := (byt_b (bs := bs) (p := p) (by omega)).2
    obtain rfl := hf0 q
    have hg := pAll_ge (bs := bs) (n := n) (p := p + 1) (pOne_ge (bs := bs) (n := n) m)
    refine b_X12_either_21 hG (by unfold ok32; omega) (H d _ _ _ _ _ _ hd hG (h.adv hb) (fun I1 v1 h1 hv1 hw1 => ?_))
    have nx : ∀ x' u, (x' = 0 ∨ x' = 1) → (decide (x1 = 1) || decide (v1 = 1)) = decide (x' = 1) → At (d + 1) 175 5 [some (vR 56), some (vI x'), u] [] G I1 J Q := by
      intro x' u hx' he
      refine lp_meither H hG hp hd f I1 ((pAll bs n (pOne bs n m) (p + 1)).1, (pAll bs n (pOne bs n m) (p + 1)).2.1, t ++ (pAll bs n (pOne bs n m) (p + 1)).2.2 ++ [-3]) x' u (by dsimp only; omega) h1 hx' (fun q2 => ?_) (fun I' v => ?_)
      · rw [← he]
        exact Wf.oo (h := 2 * m + 2) (hw rfl) (hw1 q2)
      · have := k I' v
        unfold pLoop at this
        rw [if_pos ⟨rfl, q1⟩] at this
        exact this
    refine b_X12_either_35 hG (fun q2 => b_X12_either_44 hG (nx 1 _ (Or.inr rfl) ?_)) (fun q2 => b_X12_either_40 hG (fun q3 => b_X12_either_48 hG (nx 0 _ (Or.inl rfl) ?_)) (fun q3 => b_X12_either_44 hG (nx 1 _ (Or.inr rfl) ?_)))
    · rw [hx.resolve_left q2]
      rfl
    · rw [q2, q3]
      rfl
    · rw [hv1.resolve_left q3]
      cases decide (x1 = 1) <;> rfl
theorem cs_many {m : Nat} (H : SMall I0 bs n c m) (hp : Mp I0 bs n base c) : SMany I0 bs n c m := by
  intro D b G I J Q p hD hG h k
  obtain ⟨d, rfl⟩ : ∃ d, D = d + 1 := ⟨D - 1, by omega⟩
  have hp1 := hp.1
  refine b_X12_either_0 hG (H d _ _ _ _ _ _ (by omega) hG h (fun I1 v1 h1 hv1 hw1 => b_X12_either_4 hG ?_))
  have h6 := h1.2.2.2.2.2
  exact lp_meither H hG hp (by omega) 121 I1 (pAll bs n (pOne bs n m) p) v1 _ (by omega) h1 hv1 (fun q => (hw1 q).up (by omega)) k
theorem sp_MoneF (hG : GW b G) (h : MC I0 n I true p op) (k : Q (some (vI 0)) G I J) : At d 173 0 [some (vR 56), none, none, none, none] [] G I J Q := by
  have h5 : I 56 10 = 1 := h.2.2.2.2.1
  refine b_X12_one_0 hG (fun q => ?_) (fun q => b_X12_one_7 hG k)
  omega
theorem sp_MeitherF (hG : GW b G) (h : MC I0 n I true p op) (k : Q (some (vI 0)) G I J) : At (d + 2) 175 0 [some (vR 56), none, none] [] G I J Q := by
  have h5 : I 56 10 = 1 := h.2.2.2.2.1
  refine b_X12_either_0 hG (b_X12_both_0 hG (sp_MoneF hG h (b_X12_both_4 hG (b_X12_both_5 hG (fun _ => b_X12_both_53 hG (Or.inl rfl) (b_X12_either_4 hG (b_X12_either_5 hG (fun _ => b_X12_either_53 hG (Or.inl rfl) k) (fun q => ?_)))) (fun q => ?_)))))
  · omega
  · omega
theorem cs_mone (hp : Mp I0 bs n base c) : ∀ k : Nat, k ≤ 5 → SMone I0 bs n c k
  | 0, hk => by
    intro D b G I J Q p hD hG h k
    obtain ⟨d, rfl⟩ : ∃ d, D = d + 3 := ⟨D - 3, by omega⟩
    have h5 : I 56 10 = 0 := h.2.2.2.2.1
    have h4 := h.2.2.2.1
    have h49 : I 56 9 = 5 := h4.2.2 rfl
    unfold pOne at k
    have e9 : (mset I 56 10 1) 56 9 = 5 - ((0 : Nat) : Int) := by rw [mset_n (by decide)]; exact h49
    refine b_X12_one_0 hG (fun _ => b_X12_one_9 hG (sp_Mbyte hG hp h (b_X12_one_13 hG (fun q1 => ?_) (fun q1 => ?_)))) (fun q => absurd h5 q)
    · by_cases q2 : byt bs n p = 40
      · rw [if_pos (Or.inr q2)] at k
        refine b_X12_one_49 hG (fun q => absurd q2 q) (fun _ => b_X12_one_55 hG (b_X12_opens_0 hG (fun q => absurd h49 q) (fun _ => b_X12_opens_8 hG (b_X12_one_59 hG (sp_MeitherF hG h.bd (b_X12_one_63 hG (b_X12_sign_0 hG (fun q => ?_) (fun _ => b_X12_sign_7 hG (b_X12_one_70 hG (by rw [e9]; decide) (Or.inl rfl) (k _ 0 (h.bd.clb e9) (Or.inl rfl) (fun q => by cases q)))))))))))
        rw [mset_at] at q
        cases q
      · rw [if_neg (by omega)] at k
        exact mone_fact hG hp h q1 q2 k
    · rw [if_pos (Or.inl q1)] at k
      refine b_X12_one_20 hG (b_X12_opens_0 hG (fun q => absurd h49 q) (fun _ => b_X12_opens_8 hG (b_X12_one_24 hG (sp_MoneF hG h.bd (b_X12_one_28 hG (by rw [e9]; decide) (fun q => absurd rfl q) (fun _ => b_X12_one_43 hG (k _ 1 (h.bd.clb e9) (Or.inr rfl) (fun q => by cases q))))))))
  | k0 + 1, hk => by
    intro D b G I J Q p hD hG h k
    obtain ⟨d, rfl⟩ : ∃ d, D = d + 3 := ⟨D - 3, by omega⟩
    have H := cs_mone hp k0 (by omega)
    have hp1 := hp.1
    have h3 := h.2.2.1
    have h6 := h.2.2.2.2.2
    have h5 : I 56 10 = 0 := h.2.2.2.2.1
    have h4 := h.2.2.2.1
    have h49 : I 56 9 = 5 - ((k0 + 1 : Nat) : Int) := h4.2.2 rfl
    have hop : (5 : Int) - ((k0 + 1 : Nat) : Int) + 1 = 5 - (k0 : Int) := by omega
    unfold pOne at k
    refine b_X12_one_0 hG (fun _ => b_X12_one_9 hG (sp_Mbyte hG hp h (b_X12_one_13 hG (fun q1 => ?_) (fun q1 => ?_)))) (fun q => absurd h5 q)
    · rw [if_neg q1] at k
      by_cases q2 : byt bs n p = 40
      · rw [if_pos q2] at k
        have hb : p < n := (byt_b (bs := bs) (p := p) (by omega)).2
        have ho := h.opn hb
        rw [hop] at ho
        refine b_X12_one_49 hG (fun q => absurd q2 q) (fun _ => b_X12_one_55 hG (b_X12_opens_0 hG (fun _ => b_X12_opens_13 hG (fun _ => b_X12_opens_21 hG (by unfold ok32; omega) (by unfold ok32; omega) (b_X12_one_59 hG (cs_many (cs_mall H hp) hp (d + 2) _ _ _ _ _ _ (by omega) hG ho (fun I1 v1 h1 hv1 hw1 => b_X12_one_63 hG (sp_Msign hG hp h1 (by decide) (fun I2 h2 => b_X12_one_70 hG ?_ hv1 ?_)))))) (fun q => absurd h5 q)) (fun q => ?_)))
        · have := h2.2.2.2.1
          unfold ok32
          omega
        · rw [← hop] at h2
          exact k _ v1 h2.cls hv1 (fun q => (hw1 (pEx_f q)).up (by omega))
        · omega
      · rw [if_neg q2] at k
        exact mone_fact hG hp h q1 q2 (fun I' v a1 a2 a3 => k I' v a1 a2 (fun q => (a3 q).up (by omega)))
    · rw [if_pos q1] at k
      have hb : p < n := (byt_b (bs := bs) (p := p) (by omega)).2
      have ho := h.opn hb
      rw [hop] at ho
      refine b_X12_one_20 hG (b_X12_opens_0 hG (fun _ => b_X12_opens_13 hG (fun _ => b_X12_opens_21 hG (by unfold ok32; omega) (by unfold ok32; omega) (b_X12_one_24 hG (H (d + 2) _ _ _ _ _ _ (by omega) hG ho (fun I1 v1 h1 hv1 hw1 => ?_)))) (fun q => absurd h5 q)) (fun q => ?_))
      · have h14 := h1.2.2.2.1
        rw [← hop] at h1
        refine b_X12_one_28 hG (by unfold ok32; omega) (fun q => b_X12_one_47 hG (k _ 0 h1.cls (Or.inl rfl) (fun q3 => ?_))) (fun q => b_X12_one_43 hG (k _ 1 h1.cls (Or.inr rfl) (fun q3 => ?_)))
        · have := (hw1 q3).no
          rw [hv1.resolve_left q] at this
          exact this.up (by omega)
        · have := (hw1 q3).no
          rw [q] at this
          exact this.up (by omega)
      · omega
theorem sp_Meither {D : Nat} (hD : 20 ≤ D) (hG : GW b G) (hp : Mp I0 bs n base c) (h : MC I0 n I false p 0) (k : ∀ I' v, MC I0 n I' (pAny bs n (pOne bs n 5) p).1 (pAny bs n (pOne bs n 5) p).2.1 0 → (v = 0 ∨ v = 1) → ((pAny bs n (pOne bs n 5) p).1 = false → evT (VM (I0 57) c) (pAny bs n (pOne bs n 5) p).2.2 = decide (v = 1)) → Q (some (vI v)) G I' J) : At D 175 0 [some (vR 56), none, none] [] G I J Q :=
  cs_many (cs_mall (cs_mone hp 5 (by decide)) hp) hp D _ _ _ _ _ _ hD hG h (fun I' v a1 a2 a3 => k I' v a1 a2 (fun q => (a3 q).ev (by decide)))
end MS
