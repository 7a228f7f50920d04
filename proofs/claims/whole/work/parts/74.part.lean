/-! farms parted to lines: one search for both -/
def rset (r : Int → Int) (k l : Int) : Int → Int := fun i => if i = k then l else r i
def dsum (W : Int → Int → Int) (r : Int → Int) (k l : Int) : Nat → Int
  | 0 => 0
  | j + 1 => dsum W r k l j + (if r (j : Int) = l then 1 else W (j : Int) k)
def dfoe (F : Int → Int → Int) (r : Int → Int) (k l j : Int) : Prop := ∃ i, 0 ≤ i ∧ i < j ∧ r i = l ∧ F i k ≠ 0
def itL (g : Int → (Int × (Int → Int)) → Int × (Int → Int)) : Nat → Int → (Int × (Int → Int)) → Int × (Int → Int)
  | 0, _, s => s
  | j + 1, l, s => itL g j (l + 1) (g l s)
noncomputable def dv (W F : Int → Int → Int) (m : Int) : Nat → Int → (Int → Int) → Int → (Int × (Int → Int)) → Int × (Int → Int)
  | 0, _, r, w, s => if s.1 ≤ w then s else (w, r)
  | f + 1, k, r, w, s => if s.1 ≤ w then s else itL (fun l s => @ite _ (dfoe F r k l k) (Classical.propDecidable _) s (dv W F m f (k + 1) (rset r k l) (w + dsum W r k l k.toNat) s)) m.toNat 0 s
theorem dsum_r {W : Int → Int → Int} (hW : ∀ i k, 0 ≤ W i k ∧ W i k ≤ 60) {r : Int → Int} {k l : Int} : ∀ j : Nat, 0 ≤ dsum W r k l j ∧ dsum W r k l j ≤ 60 * j
  | 0 => by
    unfold dsum
    omega
  | j + 1 => by
    have := dsum_r hW (r := r) (k := k) (l := l) j
    have := hW (j : Int) k
    unfold dsum
    split <;> omega
theorem dsum_e {W : Int → Int → Int} {r r' : Int → Int} {k l : Int} : ∀ j : Nat, (∀ i : Int, 0 ≤ i → i < j → r i = r' i) → dsum W r k l j = dsum W r' k l j
  | 0, _ => rfl
  | j + 1, h => by
    unfold dsum
    rw [dsum_e j (fun i h0 h1 => h i h0 (by omega)), h j (by omega) (by omega)]
theorem dfoe_s {F : Int → Int → Int} {r : Int → Int} {k l j : Int} (hj : 0 ≤ j) : dfoe F r k l (j + 1) ↔ dfoe F r k l j ∨ (r j = l ∧ F j k ≠ 0) := by
  constructor
  · rintro ⟨i, a1, a2, a3, a4⟩
    by_cases h : i = j
    · exact Or.inr (h ▸ ⟨a3, a4⟩)
    · exact Or.inl ⟨i, a1, by omega, a3, a4⟩
  · rintro (⟨i, a1, a2, a3, a4⟩ | h)
    · exact ⟨i, a1, by omega, a3, a4⟩
    · exact ⟨j, hj, by omega, h⟩
/-- the class's cells stand at this state of the search -/
def DC (I0 : aI) (n : Int) (s : Int × (Int → Int)) (I : aI) : Prop := (∀ a, a ≠ 51 → a ≠ 52 → a ≠ 53 → I a = I0 a) ∧ (∀ j, j ≠ 0 → I 51 j = I0 51 j) ∧ ((I 51 0 = 1000000 ∧ s.1 = 100000) ∨ (I 51 0 = s.1 ∧ s.1 < 100000 ∧ ∀ i, 0 ≤ i → i < n → I 52 i = s.2 i))
def Row (a : Nat) (r : Int → Int) (k : Int) (I : aI) : Prop := ∀ i, 0 ≤ i → i < k → I a i = r i
def DF (W F : Int → Int → Int) (n m : Int) (I : aI) : Prop := (0 ≤ n ∧ n ≤ 7 ∧ 0 ≤ m ∧ m ≤ 3) ∧ I 51 2 = n ∧ I 51 3 = m ∧ (∀ i k, 0 ≤ W i k ∧ W i k ≤ 60) ∧ ∀ k i, 0 ≤ i → i < k → k < n → I 54 (7 * k + i) = W i k ∧ (bAnd (bShr (I 55 k) i) 1 = 0 ↔ F i k = 0)
section SM
variable {d : Nat} {b : Bool} {G : aG} {I J : aI} {Q : Option aV → aG → aI → aI → Prop} {W F : Int → Int → Int} {n m : Int} {I0 : aI}
theorem dc_sum {k l w : Int} {r : Int → Int} (hG : GW b G) (hD : DF W F n m I0) (hk : 0 ≤ k ∧ k < n) (hw : 0 ≤ w ∧ w ≤ 5000) (hs : ∀ a, a ≠ 51 → a ≠ 52 → a ≠ 53 → I a = I0 a) (hr : Row 53 r k I) (kf : dfoe F r k l k → Q none G I J) (kn : ¬ dfoe F r k l k → ∀ u, At (d + 1) 29 93 [some (vR 51), some (vI k), some (vI l), some (vI w), some (vI (w + dsum W r k l k.toNat)), some (vI k), u] [] G I J Q) : ∀ (j : Nat) (x y : Int) (u : Option aV), 0 ≤ y → y + j = k → x = w + dsum W r k l y.toNat → ¬ dfoe F r k l y → At (d + 1) 29 17 [some (vR 51), some (vI k), some (vI l), some (vI w), some (vI x), some (vI y), u] [] G I J Q
  | 0, x, y, u, h0, h1, hx, hf => by
    have e : y = k := by omega
    refine b_X2_put_17 hG (fun _ => ?_) (fun h => absurd h (by omega))
    rw [hx, e]
    rw [e] at hf
    exact kn hf u
  | j + 1, x, y, u, h0, h1, hx, hf => by
    obtain ⟨hb, d2, d3, hW, hT⟩ := id hD
    have t := hT k y h0 (by omega) (by omega)
    have es : dsum W r k l (y + 1).toNat = dsum W r k l y.toNat + (if r y = l then 1 else W y k) := by
      rw [show (y + 1).toNat = y.toNat + 1 by omega]
      show dsum W r k l y.toNat + (if r (y.toNat : Int) = l then 1 else W (y.toNat : Int) k) = _
      rw [Int.toNat_of_nonneg h0]
    have er := hr y h0 (by omega)
    have e54 := hs 54 (by decide) (by decide) (by decide)
    have e55 := hs 55 (by decide) (by decide) (by decide)
    have b1 := dsum_r hW (r := r) (k := k) (l := l) y.toNat
    have b2 := hW y k
    refine b_X2_put_17 hG (fun h => absurd h (by omega)) (fun _ => b_X2_put_23 hG h0 (by omega) (fun e => b_X2_put_38 hG (by unfold ok32; omega) (by unfold ok32; omega) (by omega) (by omega) (by rw [e54, t.1]; unfold ok32; omega) (by unfold ok32; omega) ?_) (fun e => b_X2_put_34 hG (by omega) (by omega) (fun e2 => b_X2_put_61 hG (fun q => absurd q (by decide)) (fun _ => b_X2_put_68 hG (by unfold ok32; omega) (by unfold ok32; omega) ?_)) (fun e2 => b_X2_put_60 hG (kf ?_))))
    · rw [e54, t.1]
      refine dc_sum hG hD hk hw hs hr kf kn j _ _ _ (by omega) (by omega) ?_ ?_
      · rw [es, if_neg (by omega)]
        omega
      · rw [dfoe_s h0]
        rintro (q | q)
        · exact hf q
        · omega
    · rw [e55, t.2] at e2
      refine dc_sum hG hD hk hw hs hr kf kn j _ _ _ (by omega) (by omega) ?_ ?_
      · rw [es, if_pos (by omega)]
        omega
      · rw [dfoe_s h0]
        rintro (q | q)
        · exact hf q
        · exact q.2 e2
    · rw [e55, t.2] at e2
      exact ⟨y, h0, by omega, by omega, e2⟩
theorem dc_line {k w : Int} {r : Int → Int} {g : Int → (Int × (Int → Int)) → Int × (Int → Int)} (hG : GW b G) (hD : DF W F n m I0) (put : ∀ l s I (Q : Option aV → aG → aI → aI → Prop), 0 ≤ l → l < m → DC I0 n s I → Row 53 r k I → (∀ I', DC I0 n (g l s) I' → Row 53 r k I' → Q none G I' J) → At d 29 0 [some (vR 51), some (vI k), some (vI l), some (vI w), none, none, none] [] G I J Q) : ∀ (j : Nat) (l : Int) (s : Int × (Int → Int)) (I : aI), 0 ≤ l → l + j = m → DC I0 n s I → Row 53 r k I → (∀ I', DC I0 n (itL g j l s) I' → Row 53 r k I' → Q none G I' J) → At (d + 1) 28 46 [some (vR 51), some (vI k), some (vI w), some (vI l)] [] G I J Q
  | 0, l, s, I, h0, h1, hs, hr, K => by
    have e3 : I 51 3 = m := (hs.2.1 3 (by decide)).trans hD.2.2.1
    exact b_X2_choose_46 hG (fun _ => b_X2_choose_67 hG (K I hs hr)) (fun q => absurd q (by omega))
  | j + 1, l, s, I, h0, h1, hs, hr, K => by
    have e3 : I 51 3 = m := (hs.2.1 3 (by decide)).trans hD.2.2.1
    have b3 := hD.1
    refine b_X2_choose_46 hG (fun q => absurd q (by omega)) (fun _ => b_X2_choose_54 hG (put l s I _ h0 (by omega) hs hr (fun I1 hs1 hr1 => ?_)))
    exact b_X2_choose_61 hG (by unfold ok32; omega) (dc_line hG hD put j (l + 1) (g l s) I1 (by omega) (by omega) hs1 hr1 K)
theorem dc_choose (hG : GW b G) (hD : DF W F n m I0) : ∀ (f : Nat) (d : Nat) (k w : Int) (r : Int → Int) (s : Int × (Int → Int)) (I : aI) (Q : Option aV → aG → aI → aI → Prop), k + f = n → 0 ≤ k → 0 ≤ w → w ≤ 360 * k → DC I0 n s I → Row 53 r k I → (∀ I', DC I0 n (dv W F m f k r w s) I' → Row 53 r k I' → Q none G I' J) → At (d + 2 * f) 28 0 [some (vR 51), some (vI k), some (vI w), none] [] G I J Q
  | 0, d, k, w, r, s, I, Q, hf, k0, w0, w1, hs, hr, K => by
    obtain ⟨hb, d2, d3, hW, hT⟩ := id hD
    have e2 : I 51 2 = n := (hs.2.1 2 (by decide)).trans d2
    have h3 := hs.2.2
    refine b_X2_choose_0 hG (fun q => b_X2_choose_9 hG (fun _ => b_X2_choose_23 hG (K _ ?_ ?_)) (fun q => absurd q (by omega))) (fun q => b_X2_choose_8 hG (K I ?_ hr))
    · unfold dv
      rw [if_neg (by omega)]
      refine ⟨fun a h1 h2 h3 => ?_, fun j hj => ?_, Or.inr ⟨?_, ?_, fun i i0 i1 => ?_⟩⟩
      · funext j
        unfold mcpy
        rw [if_neg (fun q => h2 q.1), mset_o h1, hs.1 a h1 h2 h3]
      · unfold mcpy
        rw [if_neg (fun q => absurd q.1 (by decide)), mset_n hj, hs.2.1 j hj]
      · unfold mcpy
        rw [if_neg (fun q => absurd q.1 (by decide)), mset_at]
      · show w < 100000
        omega
      · unfold mcpy
        rw [if_pos ⟨rfl, by omega, by omega⟩, mset_o (by decide), show (0 : Int) + (i - 0) = i by omega]
        exact hr i i0 (by omega)
    · intro i i0 i1
      unfold mcpy
      rw [if_neg (fun q => absurd q.1 (by decide)), mset_o (by decide)]
      exact hr i i0 i1
    · unfold dv
      rw [if_pos (by omega)]
      exact hs
  | f + 1, d, k, w, r, s, I, Q, hf, k0, w0, w1, hs, hr, K => by
    obtain ⟨hb, d2, d3, hW, hT⟩ := id hD
    have e2 : I 51 2 = n := (hs.2.1 2 (by decide)).trans d2
    have h3 := hs.2.2
    rw [show d + 2 * (f + 1) = d + 2 * f + 1 + 1 by omega]
    unfold dv at K
    refine b_X2_choose_0 hG (fun q => b_X2_choose_9 hG (fun q => absurd q (by omega)) (fun _ => b_X2_choose_17 hG (fun _ => b_X2_choose_44 hG ?_) (fun q => absurd q (by omega)))) (fun q => b_X2_choose_8 hG ?_)
    · rw [if_neg (by omega)] at K
      refine dc_line hG hD ?_ m.toNat 0 s I (by decide) (by omega) hs hr K
      intro l s I Q l0 l1 hs hr K
      have bs := dsum_r hW (r := r) (k := k) (l := l) k.toNat
      refine b_X2_put_0 hG (fun q => absurd q (by omega)) (fun _ => b_X2_put_4 hG (fun _ => b_X2_put_11 hG ?_) (fun q => absurd q (by omega)))
      refine dc_sum hG hD (W := W) (F := F) (r := r) (by omega) (by omega) hs.1 hr (fun hfo => K I ?_ hr) (fun hfo u => ?_) k.toNat w 0 none (by decide) (by omega) ?_ ?_
      · rw [if_pos hfo]
        exact hs
      · refine b_X2_put_93 hG k0 (by omega) (by unfold ok32; omega) (dc_choose hG hD f d (k + 1) _ (rset r k l) s _ _ (by omega) (by omega) (by omega) (by omega) ?_ ?_ (fun I' hs' hr' => b_X2_put_109 hG (K I' ?_ ?_)))
        · refine ⟨fun a h1 h2 h3 => ?_, fun j hj => ?_, ?_⟩
          · rw [mset_o h3, hs.1 a h1 h2 h3]
          · rw [mset_o (by decide), hs.2.1 j hj]
          · rw [mset_o (by decide), mset_o (by decide)]
            exact hs.2.2
        · intro i i0 i1
          unfold rset
          rw [mset_a]
          split
          · rfl
          · exact hr i i0 (by omega)
        · rw [if_neg hfo]
          exact hs'
        · intro i i0 i1
          have := hr' i i0 (by omega)
          unfold rset at this
          rw [if_neg (by omega)] at this
          exact this
      · show w = w + 0
        omega
      · rintro ⟨i, a, c, _⟩
        omega
    · rw [if_pos (by omega)] at K
      exact K I hs hr
end SM
