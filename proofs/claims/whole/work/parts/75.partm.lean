/-! farms parted to lines: the model's search -/
def DM (I0 : aI) (n : Int) (s : Int × (Int → Int)) (I : aI) : Prop := (∀ a, a ≠ 56 → a ≠ 58 → a ≠ 59 → I a = I0 a) ∧ (∀ j, j ≠ 4 → I 56 j = I0 56 j) ∧ I 56 4 = s.1 ∧ (s.1 < 100000 → ∀ i, 0 ≤ i → i < n → I 59 i = s.2 i)
def DFM (W F : Int → Int → Int) (n m : Int) (I : aI) : Prop := (0 ≤ n ∧ n ≤ 7 ∧ 0 ≤ m ∧ m ≤ 3) ∧ (∀ i k, 0 ≤ W i k ∧ W i k ≤ 60) ∧ ∀ k i, 0 ≤ i → i < k → k < n → I 62 (12 * i + k) = W i k ∧ I 57 ((2142 + (12 * i)) + k) = F i k
section SM
variable {d : Nat} {b : Bool} {G : aG} {I J : aI} {Q : Option aV → aG → aI → aI → Prop} {W F : Int → Int → Int} {n m : Int} {I0 : aI}
theorem pm_copy {k w : Int} {r : Int → Int} {u6 u7 u8 : Option aV} (hG : GW b G) (hn : 0 ≤ n ∧ n ≤ 7) (he : I0 56 4 = w) (hr : Row 58 r n I0) (K : ∀ I', DM I0 n (w, r) I' → Row 58 r n I' → Q none G I' J) : ∀ (j : Nat) (x : Int) (I : aI), 0 ≤ x → x + j = n → (∀ a, a ≠ 59 → I a = I0 a) → (∀ i, 0 ≤ i → i < x → I 59 i = r i) → At d 230 24 [some (vR 56), some (vI k), some (vI n), some (vI m), some (vI w), some (vI x), u6, u7, u8] [] G I J Q
  | 0, x, I, h0, h1, hs, hi => by
    refine b_X12_part_24 hG (fun _ => b_X12_part_50 hG (K I ⟨fun a _ _ h => hs a h, fun j _ => by rw [hs 56 (by decide)], by rw [hs 56 (by decide)]; exact he, fun _ i i0 i1 => hi i i0 (by omega)⟩ (fun i i0 i1 => by rw [hs 58 (by decide)]; exact hr i i0 i1))) (fun q => absurd q (by omega))
  | j + 1, x, I, h0, h1, hs, hi => by
    refine b_X12_part_24 hG (fun q => absurd q (by omega)) (fun _ => b_X12_part_30 hG h0 (by omega) (by unfold ok32; omega) (pm_copy hG hn he hr K j (x + 1) _ (by omega) (by omega) (fun a h => by rw [mset_o h, hs a h]) (fun i i0 i1 => ?_)))
    rw [mset_a]
    split
    · rename_i e
      rw [hs 58 (by decide), hr x h0 (by omega), e]
    · exact hi i i0 (by omega)
theorem pm_sum {k l w : Int} {r : Int → Int} (hG : GW b G) (hD : DFM W F n m I0) (hk : 0 ≤ k ∧ k < n) (hs : ∀ a, a ≠ 56 → a ≠ 58 → a ≠ 59 → I a = I0 a) (hr : Row 58 r k I) (kf : dfoe F r k l k → ∀ u, At d 230 162 [some (vR 56), some (vI k), some (vI n), some (vI m), some (vI w), some (vI l), some (vI u), some (vI 0), some (vI k)] [] G I J Q) (kn : ¬ dfoe F r k l k → At d 230 165 [some (vR 56), some (vI k), some (vI n), some (vI m), some (vI w), some (vI l), some (vI (dsum W r k l k.toNat)), some (vI 1), some (vI k)] [] G I J Q) : ∀ (j : Nat) (x z y : Int), 0 ≤ y → y + j = k → x = dsum W r k l y.toNat → ((z = 0 ∧ dfoe F r k l y) ∨ (z = 1 ∧ ¬ dfoe F r k l y)) → At d 230 69 [some (vR 56), some (vI k), some (vI n), some (vI m), some (vI w), some (vI l), some (vI x), some (vI z), some (vI y)] [] G I J Q
  | 0, x, z, y, h0, h1, hx, hf => by
    have e : y = k := by omega
    rw [e] at hf hx
    rw [e, hx]
    refine b_X12_part_69 hG (fun _ => b_X12_part_157 hG (fun q => ?_) (fun q => ?_)) (fun h => absurd h (by omega))
    · obtain ⟨e1, _⟩ | ⟨e1, e2⟩ := hf
      · exact absurd e1 q
      · rw [e1]
        exact kn e2
    · obtain ⟨e1, e2⟩ | ⟨e1, e2⟩ := hf
      · rw [e1]
        exact kf e2 _
      · omega
  | j + 1, x, z, y, h0, h1, hx, hf => by
    obtain ⟨hb, hW, hT⟩ := id hD
    have t := hT k y h0 (by omega) (by omega)
    have es : dsum W r k l (y + 1).toNat = dsum W r k l y.toNat + (if r y = l then 1 else W y k) := by
      rw [show (y + 1).toNat = y.toNat + 1 by omega]
      show dsum W r k l y.toNat + (if r (y.toNat : Int) = l then 1 else W (y.toNat : Int) k) = _
      rw [Int.toNat_of_nonneg h0]
    have er := hr y h0 (by omega)
    have e57 := hs 57 (by decide) (by decide) (by decide)
    have e62 := hs 62 (by decide) (by decide) (by decide)
    have b1 := dsum_r hW (r := r) (k := k) (l := l) y.toNat
    have b2 := hW y k
    have more : ∀ z' : Int, ((z' = 0 ∧ dfoe F r k l (y + 1)) ∨ (z' = 1 ∧ ¬ dfoe F r k l (y + 1))) → r y = l → At d 230 132 [some (vR 56), some (vI k), some (vI n), some (vI m), some (vI w), some (vI l), some (vI x), some (vI z'), some (vI y)] [vI x] G I J Q := fun z' hz e => by
      refine b_X12_part_132 hG (by unfold ok32; omega) (by unfold ok32; omega) (pm_sum hG hD hk hs hr kf kn j _ _ _ (by omega) (by omega) ?_ hz)
      rw [es, if_pos e]
      omega
    have othr : ∀ z' : Int, ((z' = 0 ∧ dfoe F r k l (y + 1)) ∨ (z' = 1 ∧ ¬ dfoe F r k l (y + 1))) → ¬ r y = l → At d 230 136 [some (vR 56), some (vI k), some (vI n), some (vI m), some (vI w), some (vI l), some (vI x), some (vI z'), some (vI y)] [vI x] G I J Q := fun z' hz e => by
      have nx := pm_sum hG hD hk hs hr kf kn j (x + W y k) z' (y + 1) (by omega) (by omega) (by rw [es, if_neg e]; omega) hz
      refine b_X12_part_136 hG (by unfold ok32; omega) (by unfold ok32; omega) (by omega) (by omega) (by rw [e62, t.1]; unfold ok32; omega) (by unfold ok32; omega) ?_
      rw [e62, t.1]
      exact nx
    have a115 : ∀ z' : Int, dfoe F r k l (y + 1) → At d 230 115 [some (vR 56), some (vI k), some (vI n), some (vI m), some (vI w), some (vI l), some (vI x), some (vI z'), some (vI y)] [] G I J Q := fun z' hz => b_X12_part_115 hG h0 (by omega) (fun e => othr 0 (Or.inl ⟨rfl, hz⟩) (by omega)) (fun e => more 0 (Or.inl ⟨rfl, hz⟩) (by omega))
    have a111 : ∀ z' : Int, ¬ dfoe F r k l (y + 1) → At d 230 111 [some (vR 56), some (vI k), some (vI n), some (vI m), some (vI w), some (vI l), some (vI x), some (vI z'), some (vI y)] [] G I J Q := fun z' hz => b_X12_part_111 hG h0 (by omega) (fun e => othr 1 (Or.inr ⟨rfl, hz⟩) (by omega)) (fun e => more 1 (Or.inr ⟨rfl, hz⟩) (by omega))
    refine b_X12_part_69 hG (fun h => absurd h (by omega)) (fun _ => b_X12_part_75 hG (fun q => a115 _ ?_) (fun q => b_X12_part_80 hG h0 (by omega) (fun e => a111 _ ?_) (fun e => b_X12_part_92 hG (by unfold ok32; omega) (by unfold ok32; omega) (by unfold ok32; omega) (by omega) (by omega) (fun e2 => a115 _ ?_) (fun e2 => a111 _ ?_))))
    · rw [dfoe_s h0]
      obtain ⟨_, e1⟩ | ⟨e1, _⟩ := hf
      · exact Or.inl e1
      · omega
    · rw [dfoe_s h0]
      obtain ⟨e1, _⟩ | ⟨_, e1⟩ := hf
      · omega
      · rintro (g | g)
        · exact e1 g
        · omega
    · rw [dfoe_s h0]
      rw [e57, t.2] at e2
      exact Or.inr ⟨by omega, e2⟩
    · rw [dfoe_s h0]
      rw [e57, t.2] at e2
      obtain ⟨e1, _⟩ | ⟨_, e1⟩ := hf
      · omega
      · rintro (g | g)
        · exact e1 g
        · exact g.2 e2
theorem pm_lines {k w : Int} {r : Int → Int} {g : Int → (Int × (Int → Int)) → Int × (Int → Int)} (hG : GW b G) (put : ∀ l s I u6 u7 u8, 0 ≤ l → l < m → DM I0 n s I → Row 58 r k I → (∀ I' v6 v7 v8, DM I0 n (g l s) I' → Row 58 r k I' → At d 230 54 [some (vR 56), some (vI k), some (vI n), some (vI m), some (vI w), some (vI (l + 1)), v6, v7, v8] [] G I' J Q) → At d 230 60 [some (vR 56), some (vI k), some (vI n), some (vI m), some (vI w), some (vI l), u6, u7, u8] [] G I J Q) : ∀ (j : Nat) (l : Int) (s : Int × (Int → Int)) (I : aI) (u6 u7 u8 : Option aV), 0 ≤ l → l + j = m → DM I0 n s I → Row 58 r k I → (∀ I', DM I0 n (itL g j l s) I' → Row 58 r k I' → Q none G I' J) → At d 230 54 [some (vR 56), some (vI k), some (vI n), some (vI m), some (vI w), some (vI l), u6, u7, u8] [] G I J Q
  | 0, l, s, I, u6, u7, u8, h0, h1, hs, hr, K => b_X12_part_54 hG (fun _ => b_X12_part_193 hG (K I hs hr)) (fun q => absurd q (by omega))
  | j + 1, l, s, I, u6, u7, u8, h0, h1, hs, hr, K => b_X12_part_54 hG (fun q => absurd q (by omega)) (fun _ => put l s I u6 u7 u8 h0 (by omega) hs hr (fun I' v6 v7 v8 hs' hr' => pm_lines hG put j (l + 1) (g l s) I' v6 v7 v8 (by omega) (by omega) hs' hr' K))
theorem pm_part (hG : GW b G) (hD : DFM W F n m I0) : ∀ (f : Nat) (d : Nat) (k w : Int) (r : Int → Int) (s : Int × (Int → Int)) (I : aI) (Q : Option aV → aG → aI → aI → Prop), k + f = n → 0 ≤ k → 0 ≤ w → w ≤ 360 * k → DM I0 n s I → Row 58 r k I → (∀ I', DM I0 n (dv W F m f k r w s) I' → Row 58 r k I' → Q none G I' J) → At (d + f) 230 0 [some (vR 56), some (vI k), some (vI n), some (vI m), some (vI w), none, none, none, none] [] G I J Q
  | 0, d, k, w, r, s, I, Q, hf, k0, w0, w1, hs, hr, K => by
    obtain ⟨hb, hW, hT⟩ := id hD
    have e4 := hs.2.2.1
    unfold dv at K
    refine b_X12_part_0 hG (fun q => b_X12_part_10 hG (fun q => absurd q (by omega)) (fun _ => b_X12_part_15 hG ?_)) (fun q => b_X12_part_9 hG ?_)
    · rw [if_neg (by omega)] at K
      have kn : k = n := by omega
      subst kn
      refine pm_copy (r := r) (I0 := mset I 56 4 w) hG (by omega) mset_at (fun i i0 i1 => by rw [mset_o (by decide)]; exact hr i i0 i1) (fun I' hs' hr' => K I' ⟨fun a h1 h2 h3 => ?_, fun j hj => ?_, hs'.2.2.1, hs'.2.2.2⟩ hr') k.toNat 0 _ (by decide) (by omega) (fun _ _ => rfl) (fun i i0 i1 => absurd i1 (by omega))
      · rw [hs'.1 a h1 h2 h3, mset_o h1, hs.1 a h1 h2 h3]
      · rw [hs'.2.1 j hj, mset_n hj, hs.2.1 j hj]
    · rw [if_pos (by omega)] at K
      exact K I hs hr
  | f + 1, d, k, w, r, s, I, Q, hf, k0, w0, w1, hs, hr, K => by
    obtain ⟨hb, hW, hT⟩ := id hD
    have e4 := hs.2.2.1
    rw [show d + (f + 1) = d + f + 1 by omega]
    unfold dv at K
    refine b_X12_part_0 hG (fun q => b_X12_part_10 hG (fun _ => b_X12_part_51 hG ?_) (fun q => absurd q (by omega))) (fun q => b_X12_part_9 hG ?_)
    · rw [if_neg (by omega)] at K
      refine pm_lines hG ?_ m.toNat 0 s I none none none (by decide) (by omega) hs hr K
      intro l s I u6 u7 u8 l0 l1 hs hr K
      have bs := dsum_r hW (r := r) (k := k) (l := l) k.toNat
      refine b_X12_part_60 hG (pm_sum hG hD (W := W) (F := F) (r := r) (by omega) hs.1 hr (fun hfo u => b_X12_part_162 hG (by unfold ok32; omega) (K I _ _ _ ?_ hr)) (fun hfo => ?_) k.toNat 0 1 0 (by decide) (by omega) rfl (Or.inr ⟨rfl, ?_⟩))
      · rw [if_pos hfo]
        exact hs
      · refine b_X12_part_165 hG k0 (by omega) (by unfold ok32; omega) (by unfold ok32; omega) (pm_part hG hD f d (k + 1) _ (rset r k l) s _ _ (by omega) (by omega) (by omega) (by omega) ?_ ?_ (fun I' hs' hr' => b_X12_part_187 hG (by unfold ok32; omega) (K I' _ _ _ ?_ ?_)))
        · refine ⟨fun a h1 h2 h3 => ?_, fun j hj => ?_, ?_, ?_⟩
          · rw [mset_o h2, hs.1 a h1 h2 h3]
          · rw [mset_o (by decide), hs.2.1 j hj]
          · rw [mset_o (by decide)]
            exact hs.2.2.1
          · rw [mset_o (by decide)]
            exact hs.2.2.2
        · intro i i0 i1
          unfold rset
          rw [mset_a]
          split
          · rfl
          · exact hr i i0 (by omega)
        · rw [if_neg hfo]
          exact hs'
        · intro i i0 i1
          have := hr' i i0 (by omega)
          unfold rset at this
          rw [if_neg (by omega)] at this
          exact this
      · rintro ⟨i, a, c, _⟩
        omega
    · rw [if_pos (by omega)] at K
      exact K I hs hr
end SM
