/-! minutes: the minutes of the class -/
def QI (S : Int → Int) (x : aT) (I : aI) : Prop := ∃ q, QO (rkF S) q ∧ QM (S 2) x.1 q ∧ I 45 2 = (q.length : Int) ∧ q.length ≤ 60 ∧ LM 46 0 q I
def quiet (n : Int) (x : aT) : Prop := ∀ k, 0 ≤ k → k < n → x.1 k ≠ 1 ∧ x.1 k ≠ 0
theorem SV_run {A B : aI} {n m t : Int} {z : Bool} : ∀ (q : List Int) (x : aT), SV A n t x → (∀ c ∈ q, 0 ≤ A 27 c ∧ A 27 c ≤ t) → SV A n t (runL A B n m t z q x)
  | [], _, h, _ => h
  | c :: q, x, h, hc => SV_run q _ (SV_st h (hc c List.mem_cons_self)) (fun k hk => hc k (List.mem_cons_of_mem _ hk))
theorem endS_z {A : aI} {t : Int} {x : aT} : endS A 0 t x = x := by
  refine Prod.ext (funext fun k => ?_) rfl
  show (if 0 ≤ k ∧ k < 0 ∧ x.1 k = 1 ∧ A 26 k ≤ t - x.2 k then 2 else x.1 k) = x.1 k
  rw [if_neg (by omega)]
theorem CI_t {A : aI} {t : Int} {x : aT} {I : aI} (h : CI A t x I) : CI A (t + 1) x (mset I 1 0 ((I 1 0) + 1)) := by
  obtain ⟨h1, h2, h3, h4, h5⟩ := h
  refine ⟨fun a a1 a2 a3 a4 => by rw [mset_o a1, h1 a a1 a2 a3 a4], by rw [mset_at, h2], fun j hj => by rw [mset_n hj, h3 j hj], by rw [mset_o (by decide), h4], by rw [mset_o (by decide), h5]⟩
theorem MN_quiet {A B : aI} {S : Int → Int} {t : Int} {x : aT} (h : quiet (S 2) x) : MN A B S t x x := by
  refine ⟨[], List.Pairwise.nil, fun k => ⟨fun q => (by cases q), fun q => absurd q.2.2 (h k q.1 q.2.1).2⟩, ?_⟩
  show x = endS A (S 2) t x
  refine Prod.ext (funext fun k => ?_) rfl
  show x.1 k = if 0 ≤ k ∧ k < S 2 ∧ x.1 k = 1 ∧ A 26 k ≤ t - x.2 k then 2 else x.1 k
  rw [if_neg (fun q => (h k q.1 q.2.1).1 q.2.2.1)]
section SM
variable {d : Nat} {b : Bool} {G : aG} {I J : aI} {Q : Option aV → aG → aI → aI → Prop} {A I0 : aI} {S : Int → Int} {t : Int}
/-- one minute of the class, where it isn't quiet -/
theorem sp_minC {x : aT} {x2 x3 x4 : Int} (hG : GW b G) (hF : RelF A S) (hC : RelC A J S) (hR : RelR A S) (ht : 0 ≤ t ∧ t ≤ 40100) (ht3 : S 3 ≤ t) (hv : SV A (S 2) t x) (hI : CI A t x I) (hq : QI S x I) (K : ∀ x' I', MN A J S t x x' → CI A t x' I' → SV A (S 2) t x' → QI S x' I' → (I' 45 5 = 0 → I' 45 2 = 0 → quiet (S 2) x') → At (d + 6) 31 37 [some (vR 45), some (vR 1), some (vI x2), some (vI x3), some (vI x4)] [] G I' J Q) : At (d + 6) 31 20 [some (vR 45), some (vR 1), some (vI x2), some (vI x3), some (vI x4)] [] G I J Q := by
  obtain ⟨q, q1, q2, q3, q4, q5⟩ := hq
  have cc0 := hC.1
  have e1 := hI.2.1
  have b0 : ∀ l, 0 ≤ l → l ≤ 3 → (bAnd (bShr 0 l) 1 = 1 ↔ ∃ k, 0 ≤ k ∧ k < (0 : Int) ∧ (endS A 0 t x).1 k = 1 ∧ needF A k l) := fun l l0 l1 => by
    rw [z_b l l0 (by omega)]
    exact ⟨fun z => absurd z (by decide), fun ⟨k, k0, k1, _⟩ => by omega⟩
  refine b_X3_pass_20 hG (b_X3_endCalls_0 hG ?_)
  rw [e1]
  refine lp_endC (d := d + 2) (I0 := I) (x0 := x) hG hF hC hv ht (fun I1 hI1 hE1 h5 h2 => b_X3_pass_32 hG ?_) (S 2).toNat 0 _ (by decide) (by omega) ?_ ⟨?_, ?_, ?_, ?_, ?_⟩ ?_ ⟨?_, ?_⟩
  · have e20 : I1 20 0 = S 2 := by rw [hI1.1 20 (by decide) (by decide) (by decide) (by decide)]; exact cc0.2.2
    have hR1 : RelR I1 S := hR.fr (by rw [hI1.1 9 (by decide) (by decide) (by decide) (by decide)]) (hI1.1 11 (by decide) (by decide) (by decide) (by decide)) (hI1.1 13 (by decide) (by decide) (by decide) (by decide)) (hI1.1 14 (by decide) (by decide) (by decide) (by decide)) (hI1.1 15 (by decide) (by decide) (by decide) (by decide)) (hI1.1 16 (by decide) (by decide) (by decide) (by decide)) (hI1.1 17 (by decide) (by decide) (by decide) (by decide)) (hI1.1 18 (by decide) (by decide) (by decide) (by decide)) (fun _ _ => rfl)
    have w2 : I1 45 2 = (q.length : Int) := by rw [h2.2, q3]
    have m1 : LM 46 0 q I1 := LM_fr q5 h2.1
    have qr : ∀ k ∈ q, 0 ≤ k ∧ k < S 2 := fun k hk => ⟨((q2 k).1 hk).1, ((q2 k).1 hk).2.1⟩
    have q27 : ∀ c ∈ q, 0 ≤ A 27 c ∧ A 27 c ≤ t := fun c hc => by
      have := (hC.2.1 c (qr c hc).1 (qr c hc).2).2.2.2.2.2.2.2.2.2.1
      omega
    have fin : ∀ (m : Int), runL A J (S 2) m t true q (endS A (S 2) t x) = runL A J (S 2) (mstF S t) t true q (endS A (S 2) t x) → At (d + 5) 35 32 [some (vR 45), some (vR 1), some (vI (q.length : Int)), some (vI m), some (vI 0), none] [] G (mset I1 45 2 0) J (fun v G' I' J' => At (d + 6) 31 37 [some (vR 45), some (vR 1), some (vI x2), some (vI x3), some (vI x4)] (v.toList ++ []) G' I' J' Q) := fun m em => by
      refine lp_begC (d := d + 1) (m := m) (q := q) (R := runL A J (S 2) (mstF S t) t true q (endS A (S 2) t x)) hG hF hC ht ht3 rfl q4 q1.nd qr (fun kl I2 hI2 hE2 s1 s2 s3 s4 => ?_) q [] [] (endS A (S 2) t x) _ _ rfl (List.Sublist.refl _) (fun k => ⟨fun h => (by cases h), fun h => (by cases h.1)⟩) (fun k hk => endS_0.2 ((q2 k).1 hk).2.2) em (CI_45 hI1 (fun a ha => mset_o (by omega))) (EX_fr hE1 (mset_n (by decide)) (mset_n (by decide)) (mset_n (by decide))) (by rw [mset_n (by decide)]; show _ ≤ 60 + ((0 : Nat) : Int); omega) (by rw [mset_at]; rfl) (fun i v hv => by cases hv) (LM_o m1 (by decide))
      have qm : QM (S 2) (runL A J (S 2) (mstF S t) t true q (endS A (S 2) t x)).1 kl := fun k => by
        rw [s2 k]
        constructor
        · rintro ⟨a, e⟩
          exact ⟨(qr k a).1, (qr k a).2, e⟩
        · rintro ⟨a, c, e⟩
          exact ⟨(q2 k).2 ⟨a, c, endS_0.1 (runL_0 q _ e)⟩, e⟩
      refine K _ I2 ⟨q, q1, q2, rfl⟩ hI2 (SV_run q _ (SV_end hv) q27) ⟨kl, q1.sublist s1, qm, s3, Nat.le_trans s1.length_le q4, s4⟩ (fun g5 g2 k k0 k1 => ⟨hE2.2.2.2.2 g5 k k0 k1, fun g => ?_⟩)
      have hk := (qm k).2 ⟨k0, k1, g⟩
      rw [List.length_eq_zero_iff.1 (show kl.length = 0 by omega)] at hk
      cases hk
    refine b_X3_beginCalls_0 hG (fun g => ?_) (fun g => ?_)
    · rw [w2]
      have e11 : (mset I1 45 2 0) 1 0 = t := by rw [mset_o (by decide)]; exact hI1.2.1
      have hR2 : RelR (mset I1 45 2 0) S := hR1.fr (by rw [mset_o (by decide)]) (mset_o (by decide)) (mset_o (by decide)) (mset_o (by decide)) (mset_o (by decide)) (mset_o (by decide)) (mset_o (by decide)) (mset_o (by decide)) (fun _ _ => rfl)
      refine b_X3_beginCalls_18 hG (b_X10_today_0 hG (by rw [e11]; omega) ?_)
      rw [e11]
      refine b_X3_beginCalls_25 hG (sp_ruled4 (d := d + 1) hG hR2 (by rw [mset_o (by decide)]; omega) (b_X3_beginCalls_28 hG ?_))
      exact fin _ rfl
    · rw [w2]
      refine b_X3_beginCalls_14 hG (fin 0 ?_)
      have : q = [] := List.length_eq_zero_iff.1 (by omega)
      rw [this]
      rfl
  · rw [endS_z]
    exact CI_45 hI (fun a ha => by rw [mset_o (by omega), mset_o (by omega), mset_o (by omega)])
  · rw [mset_n (by decide), mset_n (by decide), mset_at]
    decide
  · rw [mset_n (by decide), mset_n (by decide), mset_at]
    exact b0
  · rw [mset_n (by decide), mset_at]
    rfl
  · rw [mset_at]
    decide
  · exact fun _ k k0 k1 => by omega
  · rw [mset_at]
    decide
  · rw [mset_o (by decide), mset_o (by decide), mset_o (by decide)]
  · rw [mset_n (by decide), mset_n (by decide), mset_n (by decide)]
theorem lp_pass {nn : Int} (hG : GW b G) (hF : RelF A S) (hC : RelC A J S) (hR : RelR A S) (h30 : 0 ≤ S 3) (hnn : nn ≤ 200) : ∀ (j : Nat) (t k x3 : Int) (x : aT) (I : aI), CI A t x I → SV A (S 2) t x → S 3 ≤ t → t + j ≤ 40099 → k + j = nn → 0 ≤ k → ((x3 = 0 ∧ QI S x I) ∨ (x3 = 1 ∧ quiet (S 2) x)) → (∀ x' I', MNs A J S j t x x' → CI A (t + j) x' I' → SV A (S 2) (t + j) x' → Q none G I' J) → At (d + 6) 31 10 [some (vR 45), some (vR 1), some (vI nn), some (vI x3), some (vI k)] [] G I J Q
  | 0, t, k, x3, x, I, hI, hv, h3, ht, hk, k0, hq, K => by
    have e : t + ((0 : Nat) : Int) = t := by omega
    rw [e] at K
    exact b_X3_pass_10 hG (fun _ => b_X3_pass_73 hG (K x I rfl hI hv)) (fun g => absurd g (by omega))
  | j + 1, t, k, x3, x, I, hI, hv, h3, ht, hk, k0, hq, K => by
    have e : t + ((j + 1 : Nat) : Int) = t + 1 + (j : Int) := by omega
    rw [e] at K ht
    have nxt : ∀ x' I' x3', MN A J S t x x' → CI A t x' I' → SV A (S 2) t x' → ((x3' = 0 ∧ QI S x' I') ∨ (x3' = 1 ∧ quiet (S 2) x')) → At (d + 6) 31 10 [some (vR 45), some (vR 1), some (vI nn), some (vI x3'), some (vI (k + 1))] [] G (mset I' 1 0 ((I' 1 0) + 1)) J Q := fun x' I' x3' hM hI' hv' hq' => by
      refine lp_pass hG hF hC hR h30 hnn j (t + 1) (k + 1) x3' x' _ (CI_t hI') (SV_up hv' (by omega)) (by omega) ht (by omega) (by omega) ?_ (fun x'' I'' hM' hI'' hv'' => K x'' I'' ⟨x', hM, hM'⟩ hI'' hv'')
      rcases hq' with ⟨z, q, q1, q2, q3, q4, q5⟩ | z
      · exact Or.inl ⟨z, q, q1, q2, by rw [mset_o (by decide)]; exact q3, q4, LM_o q5 (by decide)⟩
      · exact Or.inr z
    have ok1 : ∀ I' x', CI A t x' I' → ok32 ((I' 1 0) + 1) := fun I' x' hI' => by
      rw [hI'.2.1]
      unfold ok32
      omega
    refine b_X3_pass_10 hG (fun g => absurd g (by omega)) (fun _ => b_X3_pass_16 hG (fun g => ?_) (fun g => ?_))
    · rcases hq with ⟨z, _⟩ | ⟨z, hq⟩
      · exact absurd z g
      · rw [z]
        exact b_X3_pass_57 hG (ok1 I x hI) (by unfold ok32; omega) (nxt x I 1 (MN_quiet hq) hI hv (Or.inr ⟨rfl, hq⟩))
    · rcases hq with ⟨z, hq⟩ | ⟨z, _⟩
      · refine sp_minC hG hF hC hR (by omega) h3 hv hI hq (fun x' I' hM hI' hv' hq' hz => b_X3_pass_37 hG (fun _ => b_X3_pass_55 hG (ok1 I' x' hI') (by unfold ok32; omega) (nxt x' I' 0 hM hI' hv' (Or.inl ⟨rfl, hq'⟩))) (fun g5 => b_X3_pass_44 hG (fun _ => b_X3_pass_55 hG (ok1 I' x' hI') (by unfold ok32; omega) (nxt x' I' 0 hM hI' hv' (Or.inl ⟨rfl, hq'⟩))) (fun g2 => b_X3_pass_51 hG (ok1 I' x' hI') (by unfold ok32; omega) (nxt x' I' 1 hM hI' hv' (Or.inr ⟨rfl, hz g5 g2⟩)))))
      · omega
end SM
