/-! minutes: what one minute does to the states of the calls and when they began -/
abbrev aT : Type := (Int → Int) × (Int → Int)
noncomputable def bP (p : Prop) : Bool := @decide p (Classical.propDecidable p)
theorem bP_t {p : Prop} (h : p) : bP p = true := @decide_eq_true p (Classical.propDecidable p) h
theorem bP_f {p : Prop} (h : ¬ p) : bP p = false := @decide_eq_false p (Classical.propDecidable p) h
theorem bP_o {p : Prop} (h : bP p = true) : p := @of_decide_eq_true p (Classical.propDecidable p) h
def dnF (A B : aI) (c : Int) : Prop := ∃ w : Int, onW A (A 22 c) (A 23 c) w ∧ lt (B 31 0) w.toNat = true
def cuS (A : aI) (s : Int → Int) (k : Int) : Int := if s k = 1 then unF (A 21 k) 2 else 0
def okF (A : aI) (n m : Int) (s : Int → Int) (c : Int) : Prop := (unF (A 21 c) 2 = 0 ∨ sumI (cuS A s) n < m) ∧ ∀ k, 0 ≤ k → k < n → s k = 1 → ∀ l, 0 ≤ l → l ≤ 3 → needF A k l → ¬ needF A c l
noncomputable def stB (A B : aI) (n m t : Int) (z : Bool) (c : Int) (x : aT) : aT := if bP (dnF A B c) = true then (sset x.1 c 3, x.2) else if bP (okF A n m x.1 c) = true then (sset x.1 c 1, sset x.2 c t) else if z = true ∧ 30 ≤ t - A 27 c then (sset x.1 c 3, x.2) else x
noncomputable def runL (A B : aI) (n m t : Int) (z : Bool) : List Int → aT → aT
  | [], x => x
  | c :: q, x => runL A B n m t z q (stB A B n m t z c x)
def endS (A : aI) (y t : Int) (x : aT) : aT := (fun k => if 0 ≤ k ∧ k < y ∧ x.1 k = 1 ∧ A 26 k ≤ t - x.2 k then 2 else x.1 k, x.2)
def lostS (A : aI) (y t : Int) (x : aT) : aT := (fun k => if 0 ≤ k ∧ k < y ∧ x.1 k = 0 ∧ 30 ≤ t - A 27 k then 3 else x.1 k, x.2)
def QO (rk : Int → Int) (q : List Int) : Prop := List.Pairwise (fun a c => rk a < rk c ∨ (rk a = rk c ∧ a < c)) q
def QM (n : Int) (s : Int → Int) (q : List Int) : Prop := ∀ k, k ∈ q ↔ (0 ≤ k ∧ k < n ∧ s k = 0)
def rkF (S : Int → Int) (k : Int) : Int := rankF S k (S ((1312 + (8 * k)) + 4) / 100)
def mstF (S : Int → Int) (t : Int) : Int := ruleF S (VM S (-1)) 4 (t / 100)
def MN (A B : aI) (S : Int → Int) (t : Int) (x x' : aT) : Prop := ∃ q, QO (rkF S) q ∧ QM (S 2) x.1 q ∧ x' = runL A B (S 2) (mstF S t) t true q (endS A (S 2) t x)
def MNs (A B : aI) (S : Int → Int) : Nat → Int → aT → aT → Prop
  | 0, _, x, x' => x' = x
  | j + 1, t, x, x' => ∃ x1, MN A B S t x x1 ∧ MNs A B S j (t + 1) x1 x'
theorem sset_a {S : Int → Int} {k j v : Int} : sset S k v j = if j = k then v else S j := rfl
theorem stB_0 {A B : aI} {n m t c k : Int} {z : Bool} {x : aT} (h : (stB A B n m t z c x).1 k = 0) : x.1 k = 0 := by
  unfold stB at h
  split at h
  · have h : sset x.1 c 3 k = 0 := h
    rw [sset_a] at h
    split at h
    · omega
    · exact h
  · split at h
    · have h : sset x.1 c 1 k = 0 := h
      rw [sset_a] at h
      split at h
      · omega
      · exact h
    · split at h
      · have h : sset x.1 c 3 k = 0 := h
        rw [sset_a] at h
        split at h
        · omega
        · exact h
      · exact h
theorem stB_n {A B : aI} {n m t c k : Int} {z : Bool} {x : aT} (h : k ≠ c) : (stB A B n m t z c x).1 k = x.1 k ∧ (stB A B n m t z c x).2 k = x.2 k := by
  unfold stB
  split
  · exact ⟨sset_n h, rfl⟩
  · split
    · exact ⟨sset_n h, sset_n h⟩
    · split
      · exact ⟨sset_n h, rfl⟩
      · exact ⟨rfl, rfl⟩
theorem runL_0 {A B : aI} {n m t k : Int} {z : Bool} : ∀ (q : List Int) (x : aT), (runL A B n m t z q x).1 k = 0 → x.1 k = 0
  | [], _, h => h
  | _ :: q, _, h => stB_0 (runL_0 q _ h)
theorem sumN_eq {f g : Int → Int} {n : Int} (h : ∀ k, 0 ≤ k → k < n → f k = g k) : sumI f n = sumI g n := sumI_c h
theorem okF_c {A : aI} {n m c : Int} {s s' : Int → Int} (h : ∀ k, 0 ≤ k → k < n → (s k = 1 ↔ s' k = 1)) : okF A n m s c ↔ okF A n m s' c := by
  have e : sumI (cuS A s) n = sumI (cuS A s') n := sumI_c fun k k0 k1 => by
    unfold cuS
    by_cases hs : s k = 1
    · rw [if_pos hs, if_pos ((h k k0 k1).1 hs)]
    · rw [if_neg hs, if_neg (fun q => hs ((h k k0 k1).2 q))]
  unfold okF
  rw [e]
  exact ⟨fun g => ⟨g.1, fun k k0 k1 hk => g.2 k k0 k1 ((h k k0 k1).2 hk)⟩, fun g => ⟨g.1, fun k k0 k1 hk => g.2 k k0 k1 ((h k k0 k1).1 hk)⟩⟩
theorem stB_d {A B : aI} {n m t c : Int} {z : Bool} {x : aT} (h : dnF A B c) : stB A B n m t z c x = (sset x.1 c 3, x.2) := by
  unfold stB
  rw [if_pos (bP_t h)]
theorem stB_k {A B : aI} {n m t c : Int} {z : Bool} {x : aT} (h : ¬ dnF A B c) (h2 : okF A n m x.1 c) : stB A B n m t z c x = (sset x.1 c 1, sset x.2 c t) := by
  unfold stB
  rw [if_neg (fun q => h (bP_o q)), if_pos (bP_t h2)]
theorem stB_l {A B : aI} {n m t c : Int} {x : aT} (h : ¬ dnF A B c) (h2 : ¬ okF A n m x.1 c) (h3 : 30 ≤ t - A 27 c) : stB A B n m t true c x = (sset x.1 c 3, x.2) := by
  unfold stB
  rw [if_neg (fun q => h (bP_o q)), if_neg (fun q => h2 (bP_o q)), if_pos ⟨rfl, h3⟩]
theorem stB_w {A B : aI} {n m t c : Int} {x : aT} (h : ¬ dnF A B c) (h2 : ¬ okF A n m x.1 c) (h3 : ¬ 30 ≤ t - A 27 c) : stB A B n m t true c x = x := by
  unfold stB
  rw [if_neg (fun q => h (bP_o q)), if_neg (fun q => h2 (bP_o q)), if_neg (fun q => h3 q.2)]
theorem stB_f {A B : aI} {n m t c : Int} {x : aT} (h : ¬ dnF A B c) (h2 : ¬ okF A n m x.1 c) : stB A B n m t false c x = x := by
  unfold stB
  rw [if_neg (fun q => h (bP_o q)), if_neg (fun q => h2 (bP_o q)), if_neg (fun q => absurd q.1 (by decide))]
/-- the run that gives up at once what waited long, and the one that does so at the end -/
theorem run_lost {A B : aI} {n m t : Int} : ∀ (r p : List Int) (x y : aT), (∀ k ∈ r, ¬ k ∈ p) → (∀ k ∈ r, y.1 k = 0) → r.Nodup → x.2 = y.2 → (∀ k, x.1 k = if k ∈ p ∧ y.1 k = 0 ∧ 30 ≤ t - A 27 k then 3 else y.1 k) → (runL A B n m t true r x).2 = (runL A B n m t false r y).2 ∧ ∀ k, (runL A B n m t true r x).1 k = if (k ∈ p ∨ k ∈ r) ∧ (runL A B n m t false r y).1 k = 0 ∧ 30 ≤ t - A 27 k then 3 else (runL A B n m t false r y).1 k
  | [], p, x, y, _, _, _, e, h => ⟨e, fun k => by
    show x.1 k = if (k ∈ p ∨ k ∈ []) ∧ y.1 k = 0 ∧ 30 ≤ t - A 27 k then 3 else y.1 k
    rw [h k]
    simp⟩
  | c :: r, p, x, y, hp, hz, hd, e, h => by
    have hc := hp c List.mem_cons_self
    have ec : x.1 c = y.1 c := by
      rw [h c, if_neg (fun q => hc q.1)]
    have on : ∀ k, x.1 k = 1 ↔ y.1 k = 1 := fun k => by
      rw [h k]
      split
      · omega
      · exact Iff.rfl
    have ok := okF_c (A := A) (n := n) (m := m) (c := c) (s := x.1) (s' := y.1) (fun k _ _ => on k)
    rw [List.nodup_cons] at hd
    have hs : (stB A B n m t true c x).2 = (stB A B n m t false c y).2 ∧ ∀ k, (stB A B n m t true c x).1 k = if k ∈ c :: p ∧ (stB A B n m t false c y).1 k = 0 ∧ 30 ≤ t - A 27 k then 3 else (stB A B n m t false c y).1 k := by
      have other : ∀ k, k ≠ c → (stB A B n m t true c x).1 k = if k ∈ c :: p ∧ (stB A B n m t false c y).1 k = 0 ∧ 30 ≤ t - A 27 k then 3 else (stB A B n m t false c y).1 k := fun k hk => by
        rw [(stB_n hk).1, (stB_n hk).1, h k]
        by_cases hh : k ∈ p ∧ y.1 k = 0 ∧ 30 ≤ t - A 27 k
        · rw [if_pos hh, if_pos ⟨List.mem_cons_of_mem _ hh.1, hh.2⟩]
        · rw [if_neg hh, if_neg (fun q => hh ⟨(List.mem_cons.1 q.1).resolve_left hk, q.2⟩)]
      have self : (stB A B n m t true c x).2 = (stB A B n m t false c y).2 ∧ (stB A B n m t true c x).1 c = if c ∈ c :: p ∧ (stB A B n m t false c y).1 c = 0 ∧ 30 ≤ t - A 27 c then 3 else (stB A B n m t false c y).1 c := by
        by_cases h1 : dnF A B c
        · rw [stB_d h1, stB_d h1]
          refine ⟨e, ?_⟩
          show sset x.1 c 3 c = if c ∈ c :: p ∧ sset y.1 c 3 c = 0 ∧ 30 ≤ t - A 27 c then 3 else sset y.1 c 3 c
          rw [sset_at, sset_at, if_neg (fun q => absurd q.2.1 (by decide))]
        · by_cases h2 : okF A n m x.1 c
          · rw [stB_k h1 h2, stB_k h1 (ok.1 h2)]
            refine ⟨by rw [e], ?_⟩
            show sset x.1 c 1 c = if c ∈ c :: p ∧ sset y.1 c 1 c = 0 ∧ 30 ≤ t - A 27 c then 3 else sset y.1 c 1 c
            rw [sset_at, sset_at, if_neg (fun q => absurd q.2.1 (by decide))]
          · have hz0 := hz c List.mem_cons_self
            rw [stB_f h1 (fun q => h2 (ok.2 q))]
            by_cases h3 : 30 ≤ t - A 27 c
            · rw [stB_l h1 h2 h3]
              refine ⟨e, ?_⟩
              show sset x.1 c 3 c = if c ∈ c :: p ∧ y.1 c = 0 ∧ 30 ≤ t - A 27 c then 3 else y.1 c
              rw [sset_at, if_pos ⟨List.mem_cons_self, hz0, h3⟩]
            · rw [stB_w h1 h2 h3]
              refine ⟨e, ?_⟩
              rw [if_neg (fun q => h3 q.2.2), ec]
      refine ⟨self.1, fun k => ?_⟩
      by_cases hk : k = c
      · rw [hk]
        exact self.2
      · exact other k hk
    have ih := run_lost (A := A) (B := B) (n := n) (m := m) (t := t) r (c :: p) _ _ (fun k hk => fun q => by
      rcases List.mem_cons.1 q with q | q
      · rw [q] at hk
        exact hd.1 hk
      · exact hp k (List.mem_cons_of_mem _ hk) q) (fun k hk => by
      rw [(stB_n (show k ≠ c from fun q => hd.1 (by rw [q] at hk; exact hk))).1]
      exact hz k (List.mem_cons_of_mem _ hk)) hd.2 hs.1 hs.2
    refine ⟨ih.1, fun k => ?_⟩
    have := ih.2 k
    show (runL A B n m t true r (stB A B n m t true c x)).1 k = if (k ∈ p ∨ k ∈ c :: r) ∧ (runL A B n m t false r (stB A B n m t false c y)).1 k = 0 ∧ 30 ≤ t - A 27 k then 3 else (runL A B n m t false r (stB A B n m t false c y)).1 k
    rw [this]
    have em : (k ∈ c :: p ∨ k ∈ r) ↔ (k ∈ p ∨ k ∈ c :: r) := by
      rw [List.mem_cons, List.mem_cons]
      constructor
      · rintro ((q | q) | q)
        · exact Or.inr (Or.inl q)
        · exact Or.inl q
        · exact Or.inr (Or.inr q)
      · rintro (q | (q | q))
        · exact Or.inl (Or.inr q)
        · exact Or.inl (Or.inl q)
        · exact Or.inr q
    by_cases hh : k ∈ c :: p ∨ k ∈ r
    · simp only [hh, em.1 hh]
    · rw [if_neg (fun q => hh q.1), if_neg (fun q => hh (em.2 q.1))]
theorem QO.nd {rk : Int → Int} {q : List Int} (h : QO rk q) : q.Nodup := List.Pairwise.imp (fun {a c} g => by
  rcases g with g | g
  · intro e
    rw [e] at g
    omega
  · omega) h
/-- so the model's minute is the class's -/
theorem mn_two {A B : aI} {n m t : Int} {rk : Int → Int} {q : List Int} {x : aT} (hq : QO rk q) (hm : QM n x.1 q) : runL A B n m t true q x = lostS A n t (runL A B n m t false q x) := by
  have h := run_lost (A := A) (B := B) (n := n) (m := m) (t := t) q [] x x (fun _ _ h => by cases h) (fun k hk => ((hm k).1 hk).2.2) hq.nd rfl (fun k => by rw [if_neg (fun h => by cases h.1)])
  refine Prod.ext (funext fun k => ?_) h.1
  rw [h.2 k]
  show _ = if 0 ≤ k ∧ k < n ∧ (runL A B n m t false q x).1 k = 0 ∧ 30 ≤ t - A 27 k then 3 else (runL A B n m t false q x).1 k
  by_cases hz : (runL A B n m t false q x).1 k = 0
  · have h0 := runL_0 q x hz
    by_cases hk : 0 ≤ k ∧ k < n
    · have mk := (hm k).2 ⟨hk.1, hk.2, h0⟩
      by_cases h3 : 30 ≤ t - A 27 k
      · rw [if_pos ⟨Or.inr mk, hz, h3⟩, if_pos ⟨hk.1, hk.2, hz, h3⟩]
      · rw [if_neg (fun g => h3 g.2.2), if_neg (fun g => h3 g.2.2.2)]
    · rw [if_neg (fun g => ?_), if_neg (fun g => hk ⟨g.1, g.2.1⟩)]
      rcases g.1 with g1 | g1
      · cases g1
      · exact hk ⟨((hm k).1 g1).1, ((hm k).1 g1).2.1⟩
  · rw [if_neg (fun g => hz g.2.1), if_neg (fun g => hz g.2.2.1)]
/-- what holds of the states of calls -/
def SV (A : aI) (n t : Int) (x : aT) : Prop := ∀ k, 0 ≤ k → k < n → (0 ≤ x.1 k ∧ x.1 k ≤ 3) ∧ (x.2 k = -1 ∨ (A 27 k ≤ x.2 k ∧ x.2 k ≤ t)) ∧ ((x.1 k = 1 ∨ x.1 k = 2) → 0 ≤ x.2 k)
theorem SV_up {A : aI} {n t t' : Int} {x : aT} (h : SV A n t x) (ht : t ≤ t') : SV A n t' x := fun k k0 k1 => by
  obtain ⟨a, c, e⟩ := h k k0 k1
  exact ⟨a, by omega, e⟩
theorem SV_end {A : aI} {n y t : Int} {x : aT} (h : SV A n t x) : SV A n t (endS A y t x) := fun k k0 k1 => by
  obtain ⟨a, c, e⟩ := h k k0 k1
  show (0 ≤ (if 0 ≤ k ∧ k < y ∧ x.1 k = 1 ∧ A 26 k ≤ t - x.2 k then 2 else x.1 k) ∧ (if 0 ≤ k ∧ k < y ∧ x.1 k = 1 ∧ A 26 k ≤ t - x.2 k then 2 else x.1 k) ≤ 3) ∧ (x.2 k = -1 ∨ (A 27 k ≤ x.2 k ∧ x.2 k ≤ t)) ∧ (((if 0 ≤ k ∧ k < y ∧ x.1 k = 1 ∧ A 26 k ≤ t - x.2 k then 2 else x.1 k) = 1 ∨ (if 0 ≤ k ∧ k < y ∧ x.1 k = 1 ∧ A 26 k ≤ t - x.2 k then 2 else x.1 k) = 2) → 0 ≤ x.2 k)
  split
  · exact ⟨by omega, c, fun _ => e (by omega)⟩
  · exact ⟨a, c, e⟩
theorem SV_set {A : aI} {n t c v : Int} {x : aT} (h : SV A n t x) (hv : v = 0 ∨ v = 3) : SV A n t (sset x.1 c v, x.2) := fun k k0 k1 => by
  obtain ⟨a, c', e⟩ := h k k0 k1
  show (0 ≤ sset x.1 c v k ∧ sset x.1 c v k ≤ 3) ∧ (x.2 k = -1 ∨ (A 27 k ≤ x.2 k ∧ x.2 k ≤ t)) ∧ ((sset x.1 c v k = 1 ∨ sset x.1 c v k = 2) → 0 ≤ x.2 k)
  rw [sset_a]
  split
  · exact ⟨by omega, c', fun g => by omega⟩
  · exact ⟨a, c', e⟩
theorem SV_on {A : aI} {n t c : Int} {x : aT} (h : SV A n t x) (hc : 0 ≤ A 27 c ∧ A 27 c ≤ t) : SV A n t (sset x.1 c 1, sset x.2 c t) := fun k k0 k1 => by
  obtain ⟨a, c', e⟩ := h k k0 k1
  show (0 ≤ sset x.1 c 1 k ∧ sset x.1 c 1 k ≤ 3) ∧ (sset x.2 c t k = -1 ∨ (A 27 k ≤ sset x.2 c t k ∧ sset x.2 c t k ≤ t)) ∧ ((sset x.1 c 1 k = 1 ∨ sset x.1 c 1 k = 2) → 0 ≤ sset x.2 c t k)
  rw [sset_a, sset_a]
  split
  · rename_i g
    rw [g]
    exact ⟨by omega, by omega, fun _ => by omega⟩
  · exact ⟨a, c', e⟩
theorem SV_st {A B : aI} {n m t c : Int} {z : Bool} {x : aT} (h : SV A n t x) (hc : 0 ≤ A 27 c ∧ A 27 c ≤ t) : SV A n t (stB A B n m t z c x) := by
  unfold stB
  split
  · exact SV_set h (Or.inr rfl)
  · split
    · exact SV_on h hc
    · split
      · exact SV_set h (Or.inr rfl)
      · exact h
theorem SV_lost {A : aI} {n y t : Int} {x : aT} (h : SV A n t x) : SV A n t (lostS A y t x) := fun k k0 k1 => by
  obtain ⟨a, c, e⟩ := h k k0 k1
  show (0 ≤ (if 0 ≤ k ∧ k < y ∧ x.1 k = 0 ∧ 30 ≤ t - A 27 k then 3 else x.1 k) ∧ (if 0 ≤ k ∧ k < y ∧ x.1 k = 0 ∧ 30 ≤ t - A 27 k then 3 else x.1 k) ≤ 3) ∧ (x.2 k = -1 ∨ (A 27 k ≤ x.2 k ∧ x.2 k ≤ t)) ∧ (((if 0 ≤ k ∧ k < y ∧ x.1 k = 0 ∧ 30 ≤ t - A 27 k then 3 else x.1 k) = 1 ∨ (if 0 ≤ k ∧ k < y ∧ x.1 k = 0 ∧ 30 ≤ t - A 27 k then 3 else x.1 k) = 2) → 0 ≤ x.2 k)
  split
  · exact ⟨by omega, c, fun g => by omega⟩
  · exact ⟨a, c, e⟩
