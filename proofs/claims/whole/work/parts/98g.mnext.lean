/-! minutes: the model's next call, and whether it may begin -/
def hd1 : List Int → Int
  | [] => -1
  | c :: _ => c
def NW (rk : Int → Int) (r : List Int) (y o : Int) : Prop := (o = -1 ∧ ∀ k ∈ r, y ≤ k) ∨ (o ∈ r ∧ o < y ∧ ∀ k ∈ r, k < y → rk o < rk k ∨ (rk o = rk k ∧ o ≤ k))
theorem NW_end {rk : Int → Int} {r : List Int} {n o : Int} (h : NW rk r n o) (hq : QO rk r) (hr : ∀ k ∈ r, 0 ≤ k ∧ k < n) : o = hd1 r := by
  cases r with
  | nil =>
    rcases h with ⟨h, _⟩ | ⟨h, _⟩
    · exact h
    · cases h
  | cons c r =>
    have hc := hr c List.mem_cons_self
    rcases h with ⟨_, h⟩ | ⟨h1, h2, h3⟩
    · have := h c List.mem_cons_self
      omega
    · rcases List.mem_cons.1 h1 with e | e
      · exact e
      · have a := (List.pairwise_cons.1 hq).1 o e
        have c' := h3 c List.mem_cons_self hc.2
        omega
def GI (S : Int → Int) (n t : Int) (x : aT) (I0 I : aI) : Prop := (∀ a, a ≠ 56 → a ≠ 57 → a ≠ 60 → a ≠ 61 → I a = I0 a) ∧ I 56 19 = I0 56 19 ∧ MS S n t x (I 57)
theorem GI_FR {S : Int → Int} {n t : Int} {x : aT} {I0 I I' : aI} (h : GI S n t x I0 I) (hf : FR I I') : GI S n t x I0 I' := by
  obtain ⟨h1, h2, h3⟩ := h
  refine ⟨fun a a1 a2 a3 a4 => by rw [hf.1 a a1, h1 a a1 a2 a3 a4], by rw [hf.2, h2], by rw [hf.1 57 (by decide)]; exact h3⟩
theorem GI_60 {S : Int → Int} {n t : Int} {x : aT} {I0 I : aI} {c : Nat} {k v : Int} (h : GI S n t x I0 I) (hc : c = 60 ∨ c = 61) : GI S n t x I0 (mset I c k v) := by
  obtain ⟨h1, h2, h3⟩ := h
  refine ⟨fun a a1 a2 a3 a4 => by rw [mset_o (by omega), h1 a a1 a2 a3 a4], by rw [mset_o (by omega), h2], by rw [mset_o (by omega)]; exact h3⟩
theorem GI_57 {S : Int → Int} {n t t' k v : Int} {x x' : aT} {I0 I : aI} (h : GI S n t x I0 I) (hs : MS S n t' x' (sset (I 57) k v)) : GI S n t' x' I0 (mset I 57 k v) := by
  obtain ⟨h1, h2, h3⟩ := h
  refine ⟨fun a a1 a2 a3 a4 => by rw [mset_o a2, h1 a a1 a2 a3 a4], by rw [mset_o (by decide), h2], by rw [mset_s]; exact hs⟩
theorem needF_g {A : aI} {t : Int} {x : aT} {k l : Int} : needF (gA A t x) k l ↔ needF A k l := by
  unfold needF
  rw [gA_o (a := 3) (by decide), gA_o (a := 21) (by decide), gA_o (a := 22) (by decide), gA_o (a := 23) (by decide)]
section SM
variable {d : Nat} {b : Bool} {G : aG} {I J : aI} {Q : Option aV → aG → aI → aI → Prop} {A I0 : aI} {S : Int → Int} {t : Int}
theorem lp_next {n : Int} {r : List Int} {rk : Int → Int} (hG : GW b G) (hn : I 57 2 = n) (n60 : n ≤ 60) (h60 : ∀ k, 0 ≤ k → k < n → (I 60 k = 0 ↔ k ∈ r)) (hr : ∀ k ∈ r, 0 ≤ k ∧ k < n) (h61 : ∀ k ∈ r, I 61 k = rk k) (hq : QO rk r) (K : Q (some (vI (hd1 r))) G I J) : ∀ (j : Nat) (y o : Int), 0 ≤ y → y + j = n → NW rk r y o → At d 208 4 [some (vR 56), some (vI o), some (vI y)] [] G I J Q
  | 0, y, o, y0, y1, hw => by
    rw [show y = n by omega] at hw
    rw [NW_end hw hq hr]
    exact b_X12_nextWaiting_4 hG (fun _ => b_X12_nextWaiting_51 hG K) (fun g => absurd g (by omega))
  | j + 1, y, o, y0, y1, hw => by
    have keep : (y ∈ r → o ∈ r ∧ rk o ≤ rk y) → At d 208 45 [some (vR 56), some (vI o), some (vI y)] [] G I J Q := fun h => by
      refine b_X12_nextWaiting_45 hG (by unfold ok32; omega) (lp_next hG hn n60 h60 hr h61 hq K j (y + 1) o (by omega) (by omega) ?_)
      rcases hw with ⟨e, hw⟩ | ⟨h1, h2, h3⟩
      · refine Or.inl ⟨e, fun k hk => ?_⟩
        have := hw k hk
        by_cases hy : k = y
        · rw [hy] at hk
          have := hr o (h hk).1
          omega
        · omega
      · refine Or.inr ⟨h1, by omega, fun k hk hk1 => ?_⟩
        by_cases hy : k = y
        · rw [hy] at hk ⊢
          have := (h hk).2
          omega
        · exact h3 k hk (by omega)
    have take : y ∈ r → (∀ k ∈ r, k < y → rk y < rk k) → At d 208 43 [some (vR 56), some (vI o), some (vI y)] [] G I J Q := fun hy h => by
      refine b_X12_nextWaiting_43 hG (by unfold ok32; omega) (lp_next hG hn n60 h60 hr h61 hq K j (y + 1) y (by omega) (by omega) (Or.inr ⟨hy, by omega, fun k hk hk1 => ?_⟩))
      by_cases e : k = y
      · rw [e]
        omega
      · exact Or.inl (h k hk (by omega))
    refine b_X12_nextWaiting_4 hG (fun g => absurd g (by omega)) (fun _ => b_X12_nextWaiting_14 hG y0 (by omega) (fun g => keep (fun hy => absurd ((h60 y y0 (by omega)).2 hy) g)) (fun g => ?_))
    have hy := (h60 y y0 (by omega)).1 g
    rcases hw with ⟨e, hw⟩ | ⟨h1, h2, h3⟩
    · rw [e]
      rw [e] at take
      exact b_X12_nextWaiting_23 hG (fun _ => take hy (fun k hk hk1 => by
        have := hw k hk
        omega)) (fun q => absurd rfl q)
    · have ho := hr o h1
      refine b_X12_nextWaiting_23 hG (fun q => absurd q (by omega)) (fun _ => b_X12_nextWaiting_28 hG y0 (by omega) ho.1 (by omega) (fun g2 => keep (fun _ => ⟨h1, ?_⟩)) (fun g2 => take hy (fun k hk hk1 => ?_)))
      · rw [h61 o h1, h61 y hy] at g2
        exact g2
      · rw [h61 o h1, h61 y hy] at g2
        have := h3 k hk hk1
        omega
theorem sp_nextW {n : Int} {r : List Int} {rk : Int → Int} (hG : GW b G) (hn : I 57 2 = n) (n0 : 0 ≤ n) (n60 : n ≤ 60) (h60 : ∀ k, 0 ≤ k → k < n → (I 60 k = 0 ↔ k ∈ r)) (hr : ∀ k ∈ r, 0 ≤ k ∧ k < n) (h61 : ∀ k ∈ r, I 61 k = rk k) (hq : QO rk r) (K : Q (some (vI (hd1 r))) G I J) : At d 208 0 [some (vR 56), none, none] [] G I J Q :=
  b_X12_nextWaiting_0 hG (lp_next hG hn n60 h60 hr h61 hq K n.toNat 0 (-1) (by decide) (by omega) (Or.inl ⟨rfl, fun k hk => (hr k hk).1⟩))
/-- the lines of two calls -/
theorem lp_free2 {c y u : Int} {x : aT} (hG : GW b G) (hF : RelF (gA A t x) (I 57)) (hC : RelC (gA A t x) J (I 57)) (c0 : 0 ≤ c) (c1 : c < I 57 2) (y0 : 0 ≤ y) (y1 : y < I 57 2) (K0 : ∀ l, 0 ≤ l → l ≤ 3 → needF A y l → needF A c l → Q (some (vI 0)) G I J) (K : (∀ l, 0 ≤ l → l ≤ 3 → needF A y l → ¬ needF A c l) → At (d + 3) 206 64 [some (vR 56), some (vI c), some (vI u), some (vI y), some (vI 4)] [] G I J Q) : ∀ (j : Nat) (l : Int), 0 ≤ l → l + j = 4 → (∀ l', 0 ≤ l' → l' < l → needF A y l' → ¬ needF A c l') → At (d + 3) 206 30 [some (vR 56), some (vI c), some (vI u), some (vI y), some (vI l)] [] G I J Q
  | 0, l, l0, l1, h => by
    have e : l = 4 := by omega
    rw [e] at h ⊢
    exact b_X12_isFree_30 hG (fun _ => K (fun l' h0 h1 => h l' h0 (by omega))) (fun g => absurd g (by decide))
  | j + 1, l, l0, l1, h => by
    have nx : (needF A y l → ¬ needF A c l) → At (d + 3) 206 58 [some (vR 56), some (vI c), some (vI u), some (vI y), some (vI l)] [] G I J Q := fun hl => b_X12_isFree_58 hG (by unfold ok32; omega) (lp_free2 hG hF hC c0 c1 y0 y1 K0 K j (l + 1) (by omega) (by omega) (fun l' h0 h1 => by
      by_cases e : l' = l
      · rw [e]
        exact hl
      · exact h l' h0 (by omega)))
    exact b_X12_isFree_30 hG (fun g => absurd g (by omega)) (fun _ => b_X12_isFree_36 hG (sp_needs (d := d) hG hF hC y0 y1 (fun n1 => b_X12_isFree_43 hG (fun g => absurd g (by decide)) (fun _ => b_X12_isFree_46 hG (sp_needs (d := d) hG hF hC c0 c1 (fun n2 => b_X12_isFree_53 hG (fun g => absurd g (by decide)) (fun _ => b_X12_isFree_56 hG (K0 l l0 (by omega) (needF_g.1 n1) (needF_g.1 n2)))) (fun n2 => b_X12_isFree_53 hG (fun _ => nx (fun _ q => n2 (needF_g.2 q))) (fun g => absurd rfl g))))) (fun n1 => b_X12_isFree_43 hG (fun _ => nx (fun q => absurd (needF_g.2 q) n1)) (fun g => absurd rfl g))))
/-- the calls that talk -/
theorem lp_free {c : Int} {x : aT} (hG : GW b G) (RG : RW (gA A t x) J (I 57)) (hM : MS S (S 2) t x (I 57)) (h1 : 0 ≤ S 1 ∧ S 1 ≤ 10) (n60 : S 2 ≤ 60) (c0 : 0 ≤ c) (c1 : c < S 2) (K1 : ∀ I', FR I I' → okF A (S 2) (mstF S t) x.1 c → Q (some (vI 1)) G I' J) (K0 : ∀ I', FR I I' → ¬ okF A (S 2) (mstF S t) x.1 c → Q (some (vI 0)) G I' J) : ∀ (j : Nat) (y : Int) (u4 : Option aV), 0 ≤ y → y + j = S 2 → (∀ k, 0 ≤ k → k < y → x.1 k = 1 → ∀ l, 0 ≤ l → l ≤ 3 → needF A k l → ¬ needF A c l) → At (d + 25) 206 4 [some (vR 56), some (vI c), some (vI (sumI (cuS A x.1) y)), some (vI y), u4] [] G I J Q
  | 0, y, u4, y0, y1, h => by
    obtain ⟨hN, hF, hR, hT, hC, hW, hL, hMe⟩ := id RG
    have e2 : I 57 2 = S 2 := hM.2.2 2 (by decide) (by decide)
    have e3 : I 57 3 = t := hM.1
    have ey : y = S 2 := by omega
    rw [ey] at h ⊢
    have e21 : (gA A t x) 21 = A 21 := gA_o (by decide)
    refine b_X12_isFree_4 hG (fun _ => b_X12_isFree_86 hG (sp_byBoard (d := d + 23) hG hF hC c0 (by rw [e2]; exact c1) ?_)) (fun g => absurd g (by omega))
    rw [e21]
    rcases unF_01 (a := A 21 c) (o := 2) with hu | hu
    · rw [hu]
      exact b_X12_isFree_91 hG (fun _ => b_X12_isFree_108 hG (K1 I ⟨fun _ _ => rfl, rfl⟩ ⟨Or.inl hu, h⟩)) (fun g => absurd rfl g)
    · rw [hu]
      refine b_X12_isFree_91 hG (fun g => absurd g (by decide)) (fun _ => b_X12_isFree_94 hG (b_X12_day_0 hG (by rw [e3, ← e3, ← hN.1]; exact (by rw [hN.1]; exact hN.2.1)) (b_X12_isFree_102 hG (sp_saysF (d := d) hG ⟨hR.1.1, hR.1.2.1⟩ hR.mr (Or.inl rfl) (fun I1 k1 => ?_)))))
      rw [mst_fr hM h1]
      refine b_X12_isFree_105 hG (fun g => b_X12_isFree_112 hG (K0 I1 k1 (fun ho => ?_))) (fun g => b_X12_isFree_108 hG (K1 I1 k1 ⟨Or.inr g, h⟩))
      have := ho.1
      omega
  | j + 1, y, u4, y0, y1, h => by
    obtain ⟨hN, hF, hR, hT, hC, hW, hL, hMe⟩ := id RG
    have e2 : I 57 2 = S 2 := hM.2.2 2 (by decide) (by decide)
    have e5 := (hM.2.1 y y0 (by omega)).1
    have e21 : (gA A t x) 21 = A 21 := gA_o (by decide)
    have sb := sumI_bd (f := cuS A x.1) (B := 1) y0 (fun k _ _ => cuS_b)
    have ss := sumI_s (f := cuS A x.1) y0
    have nx : ∀ u, (x.1 y = 1 → ∀ l, 0 ≤ l → l ≤ 3 → needF A y l → ¬ needF A c l) → At (d + 25) 206 4 [some (vR 56), some (vI c), some (vI (sumI (cuS A x.1) (y + 1))), some (vI (y + 1)), u] [] G I J Q := fun u hy => lp_free hG RG hM h1 n60 c0 c1 K1 K0 j (y + 1) u (by omega) (by omega) (fun k k0 k1 => by
      by_cases e : k = y
      · rw [e]
        exact hy
      · exact h k k0 (by omega))
    refine b_X12_isFree_4 hG (fun g => absurd g (by omega)) (fun _ => b_X12_isFree_14 hG (rdc hG y0 (by omega) (by decide) (by decide) ?_))
    rw [e5]
    refine b_X12_isFree_20 hG (fun g => b_X12_isFree_27 hG (lp_free2 (d := d + 22) (A := A) (t := t) (x := x) hG hF hC c0 (by omega) y0 (by omega) (fun l l0 l1 n1 n2 => K0 I ⟨fun _ _ => rfl, rfl⟩ (fun ho => ho.2 y y0 (by omega) g l l0 l1 n1 n2)) (fun hl => b_X12_isFree_64 hG (sp_byBoard (d := d + 23) hG hF hC y0 (by omega) ?_)) 4 0 (by decide) (by decide) (fun l' a c => by omega))) (fun g => b_X12_isFree_24 hG (by unfold ok32; omega) ?_)
    · have nn := fun u => nx u (fun _ => hl)
      rw [ss] at nn
      have z : cuS A x.1 y = unF (A 21 y) 2 := by
        unfold cuS
        rw [if_pos g]
      rw [z] at nn
      rw [e21]
      rcases unF_01 (a := A 21 y) (o := 2) with hu | hu
      · rw [hu] at nn ⊢
        exact b_X12_isFree_70 hG (fun _ => b_X12_isFree_77 hG (by unfold ok32; omega) (by unfold ok32; omega) (nn _)) (fun q => absurd rfl q)
      · rw [hu] at nn ⊢
        exact b_X12_isFree_70 hG (fun q => absurd q (by decide)) (fun _ => b_X12_isFree_73 hG (by unfold ok32; omega) (by unfold ok32; omega) (nn _))
    · have nn := nx u4 (fun q => absurd q g)
      have z : cuS A x.1 y = 0 := by
        unfold cuS
        rw [if_neg g]
      rw [ss, z, Int.add_zero] at nn
      exact nn
theorem sp_free {c : Int} {x : aT} (hG : GW b G) (RG : RW (gA A t x) J (I 57)) (hM : MS S (S 2) t x (I 57)) (h1 : 0 ≤ S 1 ∧ S 1 ≤ 10) (n60 : S 2 ≤ 60) (c0 : 0 ≤ c) (c1 : c < S 2) (K1 : ∀ I', FR I I' → okF A (S 2) (mstF S t) x.1 c → Q (some (vI 1)) G I' J) (K0 : ∀ I', FR I I' → ¬ okF A (S 2) (mstF S t) x.1 c → Q (some (vI 0)) G I' J) : At (d + 25) 206 0 [some (vR 56), some (vI c), none, none, none] [] G I J Q :=
  b_X12_isFree_0 hG (lp_free hG RG hM h1 n60 c0 c1 K1 K0 (S 2).toNat 0 none (by decide) (by omega) (fun k k0 k1 => by omega))
end SM
