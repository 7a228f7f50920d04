/-! minutes: the class lines up -/
def LM (a : Nat) (o : Int) (l : List Int) (I : aI) : Prop := ∀ i : Nat, ∀ v : Int, l[i]? = some v → I a (o + (i : Int)) = v
theorem LM_o {a c : Nat} {o k v : Int} {l : List Int} {I : aI} (h : LM a o l I) (hc : a ≠ c) : LM a o l (mset I c k v) := fun i w hw => by
  rw [mset_o hc]
  exact h i w hw
theorem LM_fr {a : Nat} {o : Int} {l : List Int} {I I' : aI} (h : LM a o l I) (e : I' a = I a) : LM a o l I' := fun i w hw => by
  rw [e]
  exact h i w hw
theorem LM_ins {a : Nat} {u v : List Int} {c : Int} {I : aI} (h1 : LM a 0 u I) (h2 : LM a ((u.length : Int) + 1) v I) : LM a 0 (u ++ c :: v) (mset I a (u.length : Int) c) := fun i w hw => by
  by_cases h : i < u.length
  · rw [List.getElem?_append_left h] at hw
    rw [mset_n (by omega)]
    exact h1 i w hw
  · rw [List.getElem?_append_right (by omega)] at hw
    obtain ⟨j, hj⟩ : ∃ j, i - u.length = j := ⟨_, rfl⟩
    rw [hj] at hw
    cases j with
    | zero =>
      have e : c = w := Option.some.inj hw
      rw [show (0 : Int) + (i : Int) = (u.length : Int) by omega, mset_at, e]
    | succ j =>
      have hw : v[j]? = some w := hw
      rw [mset_n (by omega), show (0 : Int) + (i : Int) = (u.length : Int) + 1 + (j : Int) by omega]
      exact h2 j w hw
theorem LM_cons {a : Nat} {v : List Int} {o c : Int} {I : aI} (h2 : LM a (o + 1) v I) : LM a o (c :: v) (mset I a o c) := fun i w hw => by
  cases i with
  | zero =>
    have e : c = w := Option.some.inj hw
    rw [show o + ((0 : Nat) : Int) = o by omega, mset_at, e]
  | succ j =>
    have hw : v[j]? = some w := hw
    rw [mset_n (by omega), show o + ((j + 1 : Nat) : Int) = o + 1 + (j : Int) by omega]
    exact h2 j w hw
theorem LM_pre {a : Nat} {o : Int} {u v : List Int} {I : aI} (h : LM a o (u ++ v) I) : LM a o u I := fun i w hw => by
  refine h i w ?_
  rw [List.getElem?_append_left (List.getElem?_eq_some_iff.1 hw).1]
  exact hw
theorem LM_lt {a : Nat} {u : List Int} {I I' : aI} (h : LM a 0 u I) (e : ∀ k : Int, k < u.length → I' a k = I a k) : LM a 0 u I' := fun i w hw => by
  have := (List.getElem?_eq_some_iff.1 hw).1
  rw [e _ (by omega)]
  exact h i w hw
theorem LM_last {a : Nat} {u : List Int} {z : Int} {I : aI} (h : LM a 0 (u ++ [z]) I) : I a (u.length : Int) = z := by
  have := h u.length z (by rw [List.getElem?_append_right (Nat.le_refl _), Nat.sub_self]; rfl)
  rwa [show (0 : Int) + (u.length : Int) = (u.length : Int) by omega] at this
theorem QO_ins {rk : Int → Int} {u v : List Int} {c : Int} (h : QO rk (u ++ v)) (h1 : ∀ a ∈ u, a < c ∧ rk a ≤ rk c) (h2 : ∀ a ∈ v, rk c < rk a) : QO rk (u ++ c :: v) := by
  obtain ⟨a1, a2, a3⟩ := List.pairwise_append.1 h
  refine List.pairwise_append.2 ⟨a1, List.pairwise_cons.2 ⟨fun z hz => Or.inl (h2 z hz), a2⟩, fun a ha z hz => ?_⟩
  rcases List.mem_cons.1 hz with e | hz
  · have := h1 a ha
    rw [e]
    omega
  · exact a3 a ha z hz
def NX2 (I0 I : aI) : Prop := ∀ a, a ≠ 19 → ¬ (45 ≤ a ∧ a ≤ 47) → I a = I0 a
theorem NX2.kp {I I' : aI} (h : NX2 I I') : Kp I I' := fun a k hs => by
  by_cases e : a = 19
  · subst e
    cases hs
  · by_cases e2 : 45 ≤ a ∧ a ≤ 47
    · have : scr a k = true := by
        have : a = 45 ∨ a = 46 ∨ a = 47 := by omega
        rcases this with rfl | rfl | rfl <;> rfl
      rw [this] at hs
      cases hs
    · rw [h a e e2]
section SM
variable {d : Nat} {b : Bool} {G : aG} {I J : aI} {Q : Option aV → aG → aI → aI → Prop} {I0 : aI} {rk : Int → Int}
theorem lp_shift {y its n : Int} {q : List Int} (hG : GW b G) (hq : QO rk q) (hn : q.length ≤ 59) (K : ∀ (u v : List Int) (I' : aI), q = u ++ v → (∀ a ∈ u, rk a ≤ its) → (∀ a ∈ v, its < rk a) → NX2 I0 I' → I' 45 2 = n → LM 46 0 u I' → LM 47 0 (u.map rk) I' → LM 46 ((u.length : Int) + 1) v I' → LM 47 ((u.length : Int) + 1) (v.map rk) I' → At d 32 120 [some (vR 45), some (vR 1), some (vR 20), some (vI y), some (vI its), some (vI (u.length : Int))] [] G I' J Q) : ∀ (f : Nat) (u v : List Int) (I : aI), u.length = f → q = u ++ v → (∀ a ∈ v, its < rk a) → NX2 I0 I → I 45 2 = n → LM 46 0 u I → LM 47 0 (u.map rk) I → LM 46 ((u.length : Int) + 1) v I → LM 47 ((u.length : Int) + 1) (v.map rk) I → At d 32 63 [some (vR 45), some (vR 1), some (vR 20), some (vI y), some (vI its), some (vI (u.length : Int))] [] G I J Q
  | 0, u, v, I, hu, e, hv, hI, h2, m1, m2, m3, m4 => b_X3_lineUp_63 hG (fun _ => K u v I e (fun a ha => by
      rw [List.length_eq_zero_iff.1 hu] at ha
      cases ha) hv hI h2 m1 m2 m3 m4) (fun g => absurd g (by omega))
  | f + 1, u, v, I, hu, e, hv, hI, h2, m1, m2, m3, m4 => by
    rcases List.eq_nil_or_concat u with hu0 | ⟨u', z, hz⟩
    · rw [hu0] at hu
      cases hu
    · rw [List.concat_eq_append] at hz
      subst hz
      have hl : (u' ++ [z]).length = u'.length + 1 := by
        rw [List.length_append]
        rfl
      have hql : q.length = u'.length + 1 + v.length := by
        rw [e, List.length_append, hl]
      have z46 := LM_last m1
      have z47 : I 47 (u'.length : Int) = rk z := by
        rw [List.map_append] at m2
        have := LM_last m2
        rwa [List.length_map] at this
      have ei : (((u' ++ [z]).length : Nat) : Int) - 1 = (u'.length : Int) := by omega
      refine b_X3_lineUp_63 hG (fun g => absurd g (by omega)) (fun _ => b_X3_lineUp_68 hG (by unfold ok32; omega) (by omega) (by omega) (fun g => K _ v I e (fun a ha => ?_) hv hI h2 m1 m2 m3 m4) (fun g => b_X3_lineUp_82 hG (by unfold ok32; omega) (by omega) (by omega) (by omega) (by omega) (by unfold ok32; omega) ?_))
      · rw [ei, z47] at g
        rcases List.mem_append.1 ha with h | h
        · have := (List.pairwise_append.1 (List.pairwise_append.1 (e ▸ hq)).1).2.2 a h z (List.mem_singleton.2 rfl)
          omega
        · rw [List.mem_singleton.1 h]
          exact g
      · rw [ei, z47] at g ⊢
        rw [z46, show (((u' ++ [z]).length : Nat) : Int) + (-1) = (u'.length : Int) by omega]
        have e1 : (((u' ++ [z]).length : Nat) : Int) = (u'.length : Int) + 1 := by omega
        have m2' : LM 47 0 (u'.map rk ++ [rk z]) I := by
          rw [List.map_append] at m2
          exact m2
        rw [e1] at m3 m4 ⊢
        refine lp_shift hG hq hn K f u' (z :: v) _ (by omega) (by rw [e, List.append_assoc]; rfl) (fun a ha => ?_) (fun a h1 h2 => ?_) ?_ (LM_lt (LM_pre m1) (fun k hk => ?_)) (LM_lt (LM_pre (v := [rk z]) m2') (fun k hk => ?_)) (LM_cons (LM_o m3 (by decide))) (LM_o (LM_cons m4) (by decide))
        · rcases List.mem_cons.1 ha with h | h
          · rw [h]
            exact g
          · exact hv a h
        · rw [mset_o (by omega), mset_o (by omega)]
          exact hI a h1 h2
        · rw [mset_o (by decide), mset_o (by decide)]
          exact h2
        · rw [mset_n (by omega), mset_o (by decide)]
        · rw [List.length_map] at hk
          rw [mset_o (by decide), mset_n (by omega)]
/-- the class's queue -/
theorem lp_line {n : Int} (hV : LV b G I0 J) (hrk : rk = rkF (I0 57)) (hn : n = I0 57 2) (K : ∀ (q : List Int) (I' : aI), NX2 I0 I' → QO rk q → QM n (I0 29) q → I' 45 2 = (q.length : Int) → q.length ≤ 60 → LM 46 0 q I' → Q none G I' J) : ∀ (j : Nat) (y : Int) (q : List Int) (I : aI) (u4 u5 : Option aV), 0 ≤ y → y + j = n → NX2 I0 I → QO rk q → QM y (I0 29) q → I 45 2 = (q.length : Int) → (q.length : Int) ≤ y → LM 46 0 q I → LM 47 0 (q.map rk) I → At (d + 5) 32 12 [some (vR 45), some (vR 1), some (vR 20), some (vI y), u4, u5] [] G I J Q
  | 0, y, q, I, u4, u5, y0, y1, hI, hq, hm, h2, hl, m1, m2 => by
    obtain ⟨hG, ⟨hN, hF, hR, hT, hC, hW, hL, hM⟩, _⟩ := id hV
    have c0 := hC.1
    have e20 : I 20 0 = n := by rw [hI 20 (by decide) (by decide), hn]; exact c0.2.2
    rw [show y = n by omega] at hm
    exact b_X3_lineUp_12 hG (fun _ => b_X3_lineUp_153 hG (K q I hI hq hm h2 (by omega) m1)) (fun g => absurd g (by omega))
  | j + 1, y, q, I, u4, u5, y0, y1, hI, hq, hm, h2, hl, m1, m2 => by
    have hV1 : LV b G I J := hV.kp hI.kp
    obtain ⟨hG, ⟨hN, hF, hR, hT, hC, hW, hL, hM⟩, _⟩ := id hV1
    have c0 := hC.1
    have e57 : I 57 = I0 57 := hI 57 (by decide) (by decide)
    have e20 : I 20 0 = n := by rw [c0.2.2, hn, e57]
    have n60 : n ≤ 60 := by rw [hn, ← e57]; exact c0.2.1
    have e29 : I 29 y = I0 29 y := by rw [hI 29 (by decide) (by decide)]
    obtain ⟨⟨g60, k0, k1, k2, k3, k4, k5, k6, k7⟩, h1, h2', h3, h4, h5, h6, h7, h8, _⟩ := cll hF hC y0 (show y < I 57 2 by rw [e57, ← hn]; omega)
    have step : ¬ I0 29 y = 0 → QM (y + 1) (I0 29) q := fun hz k => by
      rw [hm k]
      constructor
      · rintro ⟨a, c, e⟩
        exact ⟨a, by omega, e⟩
      · rintro ⟨a, c, e⟩
        refine ⟨a, ?_, e⟩
        by_cases hk : k = y
        · rw [hk] at e
          exact absurd e hz
        · omega
    refine b_X3_lineUp_12 hG (fun g => absurd g (by omega)) (fun _ => b_X3_lineUp_20 hG (fun g => absurd g (by omega)) (fun _ => b_X3_lineUp_29 hG y0 g60 (fun g => b_X3_lineUp_41 hG y0 g60 h8 ?_) (fun g => b_X3_lineUp_38 hG (by unfold ok32; omega) (lp_line hV hrk hn K j (y + 1) q I u4 u5 (by omega) (by omega) hI hq (step (by rw [← e29]; exact g)) h2 (by omega) m1 m2))))
    rw [e29] at g
    refine sp_rankOnN (d := d) hG hF hC hR y0 (by rw [e57, ← hn]; omega) (fun I1 k1' => b_X3_lineUp_55 hG ?_)
    have er : rankF (I 57) y (I 27 y / 100) = rk y := by
      rw [hrk, ← e57]
      unfold rkF
      rw [k4]
    rw [er]
    have h21 : I1 45 2 = (q.length : Int) := by rw [k1' 45 (by decide)]; exact h2
    rw [h21]
    have hI1 : NX2 I0 I1 := fun a a1 a2 => by rw [k1' a a1, hI a a1 a2]
    refine lp_shift (I0 := I0) (rk := rk) (n := (q.length : Int)) hG hq (by omega) (fun u v I2 e hu hv hI2 h22 w1 w2 w3 w4 => ?_) q.length q [] I1 rfl (List.append_nil q).symm (fun a ha => by cases ha) hI1 h21 (LM_fr m1 (k1' 46 (by decide))) (LM_fr m2 (k1' 47 (by decide))) (fun i w hw => by cases hw) (fun i w hw => by cases hw)
    have eql : q.length = u.length + v.length := by rw [e, List.length_append]
    have eln : (u ++ y :: v).length = q.length + 1 := by
      rw [List.length_append, List.length_cons]
      omega
    have h22' : (mset (mset I2 47 (u.length : Int) (rk y)) 46 (u.length : Int) y) 45 2 = (q.length : Int) := by
      rw [mset_o (by decide), mset_o (by decide)]
      exact h22
    refine b_X3_lineUp_120 hG (by omega) (by omega) (by rw [h22]; unfold ok32; omega) (by unfold ok32; omega) (lp_line hV hrk hn K j (y + 1) (u ++ y :: v) _ _ _ (by omega) (by omega) (fun a a1 a2 => ?_) (QO_ins (e ▸ hq) (fun a ha => ⟨?_, hu a ha⟩) hv) (fun k => ?_) ?_ (by omega) (LM_o (LM_ins (LM_o w1 (by decide)) (LM_o w3 (by decide))) (by decide)) (LM_o (LM_o ?_ (by decide)) (by decide)))
    · rw [mset_o (by omega), mset_o (by omega), mset_o (by omega)]
      exact hI2 a a1 a2
    · have := (hm a).1 (by rw [e]; exact List.mem_append.2 (Or.inl ha))
      omega
    · have em : k ∈ u ++ y :: v ↔ k ∈ q ∨ k = y := by
        rw [e, List.mem_append, List.mem_cons, List.mem_append]
        constructor
        · rintro (h | h | h)
          · exact Or.inl (Or.inl h)
          · exact Or.inr h
          · exact Or.inl (Or.inr h)
        · rintro ((h | h) | h)
          · exact Or.inl h
          · exact Or.inr (Or.inr h)
          · exact Or.inr (Or.inl h)
      rw [em, hm k]
      constructor
      · rintro (⟨a, c, e'⟩ | e')
        · exact ⟨a, by omega, e'⟩
        · rw [e']
          exact ⟨y0, by omega, g⟩
      · rintro ⟨a, c, e'⟩
        by_cases hk : k = y
        · exact Or.inr hk
        · exact Or.inl ⟨a, by omega, e'⟩
    · rw [mset_at, h22, eln]
      rfl
    · rw [List.map_append, List.map_cons]
      have := LM_ins (c := rk y) (u := u.map rk) (v := v.map rk) w2 (by rw [List.length_map]; exact w4)
      rw [List.length_map] at this
      exact this
end SM
