/-! best codes: the model's search in the cells -/
theorem cg_in0 : ∀ n : Nat, n < 4 → ∀ t : Nat, t < 4 → ∀ c : Nat, c < 8 → (1 ≤ t ∧ t ≤ n ∧ c < 2 ^ t) → codF n (16 * t + c) = (16 * t + c) :: codF n (16 * t + (c + 1)) := by decide +kernel
theorem cg_in (n : Nat) (h0 : n < 4) (t : Nat) (h1 : t < 4) (h2 : 1 ≤ t) (h3 : t ≤ n) (c : Nat) (h4 : c < 2 ^ t) : codF n (16 * t + c) = (16 * t + c) :: codF n (16 * t + (c + 1)) ∧ (16 * t + c) ∈ codN 3 := by
  have h8 : (2 : Nat) ^ t ≤ 2 ^ 3 := Nat.pow_le_pow_right (by decide) (by omega)
  have e := cg_in0 n h0 t h1 c (by omega) ⟨h2, h3, h4⟩
  exact ⟨e, cf_in3 h0 (by omega) e⟩
theorem cg_gap : ∀ n : Nat, n < 4 → ∀ t : Nat, t < 4 → 1 ≤ t → t ≤ n → codF n (16 * t + 2 ^ t) = codF n (16 * (t + 1)) := by decide +kernel
theorem cg_end : ∀ n : Nat, n < 4 → 1 ≤ n → codF n (16 * (n + 1)) = [] := by decide +kernel
theorem cg_shl {t : Nat} (h : t < 4) : bShl 1 (t : Int) = ((2 ^ t : Nat) : Int) ∧ 2 ^ t ≤ 8 := by
  have : t = 0 ∨ t = 1 ∨ t = 2 ∨ t = 3 := by omega
  rcases this with rfl | rfl | rfl | rfl <;> decide
theorem itN_c {g : Nat → Nat → Nat} {c s : Nat} {cs : List Nat} : itN g (c :: cs) s = itN g cs (g c s) := forc_e
theorem gN_z {cs : List Nat} {k r w q s : Nat} : gN cs 0 k r w q s = (bif Nat.ble (s % 1048576) (1024 * w + q) then s else 1048576 * r + (1024 * w + q)) := rfl
theorem gN_s {f : Nat} {cs : List Nat} {k r w q s : Nat} : gN cs (f + 1) k r w q s = (bif Nat.ble (s % 1048576) (1024 * w + q) then s else itN (fun c s => bif hasN c k r then s else gN cs f (k + 1) (64 * r + c) (w + sumA c k r) (q + c / 16) s) cs s) := by
  show (bif Nat.ble (s % 1048576) (1024 * w + q) then s else itN (fun c s => bif hasN c k r then s else forc (64 * r + c) (fun r' => forc (w + sumA c k r) (fun w' => forc (q + c / 16) (fun q' => gN cs f (k + 1) r' w' q' s)))) cs s) = _
  simp only [forc_e]
/-- the model's cells stand at this state of the search -/
def BM (I0 : aI) (m s : Nat) (I : aI) : Prop := (∀ a, a ≠ 56 → a ≠ 58 → a ≠ 59 → I a = I0 a) ∧ (∀ j, j ≠ 4 → j ≠ 5 → I 56 j = I0 56 j) ∧ ((I 56 4 = 1000 ∧ I 56 5 = 1000 ∧ s = 1025000) ∨ ∃ (l : List Nat) (w q : Nat), s = 1048576 * pk l + (1024 * w + q) ∧ w < 1000 ∧ q < 1000 ∧ l.length = m ∧ (∀ a ∈ l, a ∈ codN 3) ∧ I 56 4 = (w : Int) ∧ I 56 5 = (q : Int) ∧ RowN 59 l I)
theorem bm_le {I0 I : aI} {m s w q : Nat} (h : BM I0 m s I) (hw : w ≤ 500) (hq : q ≤ 500) : (I 56 4 < (w : Int) ∨ ((w : Int) = I 56 4 ∧ I 56 5 ≤ (q : Int))) ↔ s % 1048576 ≤ 1024 * w + q := by
  obtain ⟨_, _, ⟨e1, e2, e3⟩ | ⟨l, w0, q0, e1, b1, b2, _, _, e2, e3, _⟩⟩ := h
  · rw [e1, e2, e3]
    omega
  · rw [e2, e3, e1]
    omega
section SM
variable {d : Nat} {b : Bool} {G : aG} {I J : aI} {Q : Option aV → aG → aI → aI → Prop} {I0 : aI} {n m : Nat}
theorem gm_copy {x1 x3 x4 x5 : Int} {l : List Nat} {u7 u8 u9 u10 u11 : Option aV} (hG : GW b G) (hl : l.length = m) (hm : m ≤ 5) (hr : RowN 58 l I0) (K : ∀ I', (∀ a, a ≠ 59 → I' a = I0 a) → RowN 59 l I' → Q none G I' J) : ∀ (j y : Nat) (I : aI), y + j = m → (∀ a, a ≠ 59 → I a = I0 a) → (∀ i x : Nat, i < y → l.reverse[i]? = some x → I 59 (i : Int) = (x : Int)) → At d 163 48 [some (vR 56), some (vI x1), some (vI (m : Int)), some (vI x3), some (vI x4), some (vI x5), some (vI (y : Int)), u7, u8, u9, u10, u11] [] G I J Q
  | 0, y, I, hy, hs, hi => b_X12_give_48 hG (fun _ => b_X12_give_74 hG (K I hs (fun i x hx => hi i x (by have := (List.getElem?_eq_some_iff.1 hx).1; rw [List.length_reverse] at this; omega) hx))) (fun g => absurd g (by omega))
  | j + 1, y, I, hy, hs, hi => by
    refine b_X12_give_48 hG (fun g => absurd g (by omega)) (fun _ => b_X12_give_54 hG (by omega) (by omega) (by unfold ok32; omega) (gm_copy hG hl hm hr K j (y + 1) _ (by omega) (fun a h => by rw [mset_o h, hs a h]) (fun i x h hx => ?_)))
    by_cases e : i = y
    · rw [e, mset_at, hs 58 (by decide)]
      rw [e] at hx
      exact hr y x hx
    · rw [mset_n (by omega)]
      exact hi i x (by omega) hx
theorem gm_sum {c : Nat} {l : List Nat} {x2 x3 x4 x5 x6 x7 : Int} (hG : GW b G) (hl : RowN 58 l I) (hn : l.length ≤ 4) (hm : ∀ a ∈ l, a ∈ codN 3) (hc : c ∈ codN 3) (kf : c ∈ l → At (d + 2) 163 173 [some (vR 56), some (vI (l.length : Int)), some (vI x2), some (vI x3), some (vI x4), some (vI x5), some (vI x6), some (vI x7), some (vI (c : Int)), some (vI (sL c l : Nat)), some (vI 0), some (vI (l.length : Int))] [] G I J Q) (kn : ¬ c ∈ l → At (d + 2) 163 176 [some (vR 56), some (vI (l.length : Int)), some (vI x2), some (vI x3), some (vI x4), some (vI x5), some (vI x6), some (vI x7), some (vI (c : Int)), some (vI (sL c l : Nat)), some (vI 1), some (vI (l.length : Int))] [] G I J Q) : ∀ (j y : Nat) (x z : Int), y + j = l.length → x = (sL c (l.reverse.take y) : Nat) → ((z = 0 ∧ c ∈ l.reverse.take y) ∨ (z = 1 ∧ ¬ c ∈ l.reverse.take y)) → At (d + 2) 163 115 [some (vR 56), some (vI (l.length : Int)), some (vI x2), some (vI x3), some (vI x4), some (vI x5), some (vI x6), some (vI x7), some (vI (c : Int)), some (vI x), some (vI z), some (vI (y : Int))] [] G I J Q
  | 0, y, x, z, hy, hx, hz => by
    have e : y = l.length := by omega
    rw [e, List.take_of_length_le (by rw [List.length_reverse]; exact Nat.le_refl _)] at hx hz
    rw [sL_rev] at hx
    rw [List.mem_reverse] at hz
    rw [hx, e]
    refine b_X12_give_115 hG (fun _ => b_X12_give_168 hG (fun g => ?_) (fun g => ?_)) (fun g => absurd g (by omega))
    · rcases hz with ⟨h1, _⟩ | ⟨h1, h2⟩
      · exact absurd h1 g
      · rw [h1]
        exact kn h2
    · rcases hz with ⟨h1, h2⟩ | ⟨h1, h2⟩
      · rw [h1]
        exact kf h2
      · omega
  | j + 1, y, x, z, hy, hx, hz => by
    obtain ⟨a, ha⟩ : ∃ a, l.reverse[y]? = some a := ⟨l.reverse[y]'(by rw [List.length_reverse]; omega), List.getElem?_eq_getElem _⟩
    have ea := hl y a ha
    have hma := hm a (List.mem_reverse.1 (List.mem_of_getElem? ha))
    have ba := cod_b a hma
    have bc := cod_b c hc
    have ok := (alN_ok a hma c hc).1
    have bs := sL_b (c := c) (l.reverse.take y)
    have bl : (l.reverse.take y).length ≤ 4 := by
      rw [List.length_take, List.length_reverse]
      omega
    have bn := alN_b (a := a) (c := c)
    have et : l.reverse.take (y + 1) = l.reverse.take y ++ [a] := by
      rw [List.take_add_one, ha]
      rfl
    have em : c ∈ l.reverse.take (y + 1) ↔ c ∈ l.reverse.take y ∨ c = a := by
      rw [et, List.mem_append, List.mem_singleton]
    have ex : x + (alN a c : Nat) = ((sL c (l.reverse.take (y + 1)) : Nat) : Int) := by
      rw [et, sL_app, hx]
      show _ = ((sL c (l.reverse.take y) + (alN a c + 0) : Nat) : Int)
      omega
    have nx := fun z' hz' => gm_sum hG hl hn hm hc kf kn j (y + 1) (x + (alN a c : Nat)) z' (by omega) ex hz'
    have a142 : c ∈ l.reverse.take (y + 1) → ∀ z' : Int, At (d + 2) 163 142 [some (vR 56), some (vI (l.length : Int)), some (vI x2), some (vI x3), some (vI x4), some (vI x5), some (vI x6), some (vI x7), some (vI (c : Int)), some (vI x), some (vI z'), some (vI (y : Int))] [] G I J Q := fun h z' => by
      refine b_X12_give_142 hG (by omega) (by omega) ?_
      rw [ea]
      refine sp_alike hG (by omega) (by omega) ?_
      rw [ok]
      exact b_X12_give_159 hG (by unfold ok32; omega) (by unfold ok32; omega) (nx 0 (Or.inl ⟨rfl, h⟩))
    refine b_X12_give_115 hG (fun g => absurd g (by omega)) (fun _ => b_X12_give_121 hG (fun g => a142 ?_ _) (fun g => b_X12_give_126 hG (by omega) (by omega) (fun g2 => a142 ?_ _) (fun g2 => b_X12_give_138 hG (by omega) (by omega) ?_)))
    · rcases hz with ⟨_, h⟩ | ⟨h, _⟩
      · exact em.2 (Or.inl h)
      · omega
    · rw [ea] at g2
      exact em.2 (Or.inr (by omega))
    · rw [ea] at g2 ⊢
      refine sp_alike hG (by omega) (by omega) ?_
      rw [ok]
      refine b_X12_give_159 hG (by unfold ok32; omega) (by unfold ok32; omega) (nx 1 (Or.inr ⟨rfl, fun h => ?_⟩))
      rcases em.1 h with h | h
      · rcases hz with ⟨h1, _⟩ | ⟨_, h1⟩
        · exact g h1
        · exact h1 h
      · exact g2 (by omega)
theorem gm_bits {t : Nat} {x1 x4 x5 : Int} {l : List Nat} {R : Nat} {g : Nat → Nat → Nat} (hG : GW b G) (hn : 1 ≤ n ∧ n ≤ 3) (ht : 1 ≤ t ∧ t ≤ n) (put : ∀ (c s : Nat) (I : aI) (u8 u9 u10 u11 : Option aV), c < 2 ^ t → BM I0 m s I → RowN 58 l I → (∀ I' v8 v9 v10 v11, BM I0 m (g (16 * t + c) s) I' → RowN 58 l I' → At d 163 87 [some (vR 56), some (vI x1), some (vI (m : Int)), some (vI (n : Int)), some (vI x4), some (vI x5), some (vI (t : Int)), some (vI ((c : Int) + 1)), v8, v9, v10, v11] [] G I' J Q) → At d 163 96 [some (vR 56), some (vI x1), some (vI (m : Int)), some (vI (n : Int)), some (vI x4), some (vI x5), some (vI (t : Int)), some (vI (c : Int)), u8, u9, u10, u11] [] G I J Q) (K : ∀ s' I' u7 u8 u9 u10 u11, itN g (codF n (16 * (t + 1))) s' = R → BM I0 m s' I' → RowN 58 l I' → At d 163 209 [some (vR 56), some (vI x1), some (vI (m : Int)), some (vI (n : Int)), some (vI x4), some (vI x5), some (vI (t : Int)), some (vI u7), u8, u9, u10, u11] [] G I' J Q) : ∀ (j c s : Nat) (I : aI) (u8 u9 u10 u11 : Option aV), c + j = 2 ^ t → itN g (codF n (16 * t + c)) s = R → BM I0 m s I → RowN 58 l I → At d 163 87 [some (vR 56), some (vI x1), some (vI (m : Int)), some (vI (n : Int)), some (vI x4), some (vI x5), some (vI (t : Int)), some (vI (c : Int)), u8, u9, u10, u11] [] G I J Q
  | 0, c, s, I, u8, u9, u10, u11, hc, he, hs, hr => by
    have es := cg_shl (t := t) (by omega)
    rw [show c = 2 ^ t by omega, cg_gap n (by omega) t (by omega) ht.1 ht.2] at he
    exact b_X12_give_87 hG (fun _ => K s I _ _ _ _ _ he hs hr) (fun g => absurd g (by omega))
  | j + 1, c, s, I, u8, u9, u10, u11, hc, he, hs, hr => by
    have es := cg_shl (t := t) (by omega)
    rw [(cg_in n (by omega) t (by omega) ht.1 ht.2 c (by omega)).1, itN_c] at he
    exact b_X12_give_87 hG (fun g => absurd g (by omega)) (fun _ => put c s I u8 u9 u10 u11 (by omega) hs hr (fun I' v8 v9 v10 v11 hs' hr' => gm_bits hG hn ht put K j (c + 1) _ I' v8 v9 v10 v11 (by omega) he hs' hr'))
theorem gm_lines {x1 x4 x5 : Int} {l : List Nat} {R : Nat} {g : Nat → Nat → Nat} (hG : GW b G) (hn : 1 ≤ n ∧ n ≤ 3) (put : ∀ (t c s : Nat) (I : aI) (u8 u9 u10 u11 : Option aV), 1 ≤ t → t ≤ n → c < 2 ^ t → BM I0 m s I → RowN 58 l I → (∀ I' v8 v9 v10 v11, BM I0 m (g (16 * t + c) s) I' → RowN 58 l I' → At d 163 87 [some (vR 56), some (vI x1), some (vI (m : Int)), some (vI (n : Int)), some (vI x4), some (vI x5), some (vI (t : Int)), some (vI ((c : Int) + 1)), v8, v9, v10, v11] [] G I' J Q) → At d 163 96 [some (vR 56), some (vI x1), some (vI (m : Int)), some (vI (n : Int)), some (vI x4), some (vI x5), some (vI (t : Int)), some (vI (c : Int)), u8, u9, u10, u11] [] G I J Q) (K : ∀ I', BM I0 m R I' → RowN 58 l I' → Q none G I' J) : ∀ (j t s : Nat) (I : aI) (u7 u8 u9 u10 u11 : Option aV), t + j = n + 1 → 1 ≤ t → itN g (codF n (16 * t)) s = R → BM I0 m s I → RowN 58 l I → At d 163 78 [some (vR 56), some (vI x1), some (vI (m : Int)), some (vI (n : Int)), some (vI x4), some (vI x5), some (vI (t : Int)), u7, u8, u9, u10, u11] [] G I J Q
  | 0, t, s, I, u7, u8, u9, u10, u11, ht, t1, he, hs, hr => by
    rw [show t = n + 1 by omega, cg_end n (by omega) hn.1] at he
    have e : s = R := he
    rw [e] at hs
    exact b_X12_give_78 hG (fun _ => b_X12_give_215 hG (K I hs hr)) (fun g => absurd g (by omega))
  | j + 1, t, s, I, u7, u8, u9, u10, u11, ht, t1, he, hs, hr => by
    refine b_X12_give_78 hG (fun g => absurd g (by omega)) (fun _ => b_X12_give_84 hG ?_)
    exact gm_bits hG hn (t := t) (by omega) (fun c s I u8 u9 u10 u11 hc => put t c s I u8 u9 u10 u11 t1 (by omega) hc) (fun s' I' v7 v8 v9 v10 v11 he' hs' hr' => b_X12_give_209 hG (by unfold ok32; omega) (gm_lines hG hn put K j (t + 1) s' I' _ _ _ _ _ (by omega) (by omega) he' hs' hr')) (2 ^ t) 0 s I u8 u9 u10 u11 (by omega) he hs hr
theorem gm_give (hG : GW b G) (hn : 1 ≤ n ∧ n ≤ 3) (hm : m ≤ 5) : ∀ (f d s w q : Nat) (l : List Nat) (I : aI) (Q : Option aV → aG → aI → aI → Prop), l.length + f = m → w ≤ 100 * l.length → q ≤ 3 * l.length → (∀ a ∈ l, a ∈ codN 3) → BM I0 m s I → RowN 58 l I → (∀ I', BM I0 m (gN (codN n) f l.length (pk l) w q s) I' → RowN 58 l I' → Q none G I' J) → At (d + 1 + f) 163 0 [some (vR 56), some (vI (l.length : Int)), some (vI (m : Int)), some (vI (n : Int)), some (vI (w : Int)), some (vI (q : Int)), none, none, none, none, none, none] [] G I J Q
  | 0, d, s, w, q, l, I, Q, hf, w0, q0, hl, hs, hr, K => by
    have le := bm_le hs (w := w) (q := q) (by omega) (by omega)
    rw [gN_z] at K
    have out : (I 56 4 < (w : Int) ∨ ((w : Int) = I 56 4 ∧ I 56 5 ≤ (q : Int))) → Q none G I J := fun h => by
      rw [bif_le (le.1 h)] at K
      exact K I hs hr
    have go : ¬ (I 56 4 < (w : Int) ∨ ((w : Int) = I 56 4 ∧ I 56 5 ≤ (q : Int))) → At (d + 1 + 0) 163 28 [some (vR 56), some (vI (l.length : Int)), some (vI (m : Int)), some (vI (n : Int)), some (vI (w : Int)), some (vI (q : Int)), none, none, none, none, none, none] [] G I J Q := fun h => by
      rw [bif_gt (by have := fun z => h (le.2 z); omega)] at K
      refine b_X12_give_28 hG (fun g => absurd g (by omega)) (fun _ => b_X12_give_33 hG ?_)
      refine gm_copy (I0 := mset (mset I 56 4 (w : Int)) 56 5 (q : Int)) (l := l) hG (by omega) hm (fun i y hy => ?_) (fun I' h1 h2 => K I' ⟨fun a a1 a2 a3 => ?_, fun j j0 j1 => ?_, Or.inr ⟨l, w, q, rfl, by omega, by omega, by omega, hl, ?_, ?_, h2⟩⟩ (fun i y hy => ?_)) m 0 _ (by omega) (fun _ _ => rfl) (fun i x h => absurd h (by omega))
      · rw [mset_o (by decide), mset_o (by decide)]
        exact hr i y hy
      · rw [h1 a a3, mset_o a1, mset_o a1, hs.1 a a1 a2 a3]
      · rw [h1 56 (by decide), mset_n j1, mset_n j0, hs.2.1 j j0 j1]
      · rw [h1 56 (by decide), mset_n (by decide), mset_at]
      · rw [h1 56 (by decide), mset_at]
      · rw [h1 58 (by decide), mset_o (by decide), mset_o (by decide)]
        exact hr i y hy
    exact b_X12_give_0 hG (fun g => b_X12_give_27 hG (out (Or.inl g))) (fun g => b_X12_give_9 hG (fun g1 => go (by omega)) (fun g1 => b_X12_give_18 hG (fun g2 => go (by omega)) (fun g2 => b_X12_give_27 hG (out (Or.inr ⟨g1, g2⟩)))))
  | f + 1, d, s, w, q, l, I, Q, hf, w0, q0, hl, hs, hr, K => by
    have le := bm_le hs (w := w) (q := q) (by omega) (by omega)
    rw [gN_s] at K
    have out : (I 56 4 < (w : Int) ∨ ((w : Int) = I 56 4 ∧ I 56 5 ≤ (q : Int))) → Q none G I J := fun h => by
      rw [bif_le (le.1 h)] at K
      exact K I hs hr
    rw [show d + 1 + (f + 1) = (d + f) + 2 by omega]
    have go : ¬ (I 56 4 < (w : Int) ∨ ((w : Int) = I 56 4 ∧ I 56 5 ≤ (q : Int))) → At ((d + f) + 2) 163 28 [some (vR 56), some (vI (l.length : Int)), some (vI (m : Int)), some (vI (n : Int)), some (vI (w : Int)), some (vI (q : Int)), none, none, none, none, none, none] [] G I J Q := fun h => by
      rw [bif_gt (by have := fun z => h (le.2 z); omega)] at K
      refine b_X12_give_28 hG (fun _ => b_X12_give_75 hG ?_) (fun g => absurd g (by omega))
      refine gm_lines (g := fun c s => bif hasN c l.length (pk l) then s else gN (codN n) f (l.length + 1) (64 * pk l + c) (w + sumA c l.length (pk l)) (q + c / 16) s) hG hn ?_ K n 1 s I _ _ _ _ _ (by omega) (by decide) (by rw [show 16 * 1 = 16 from rfl, cf_16 n (by omega) hn.1]) hs hr
      intro t c s I u8 u9 u10 u11 t1 t2 hc hs hr K
      have ec := cg_in n (by omega) t (by omega) t1 t2 c hc
      have es := cg_shl (t := t) (by omega)
      have e16 : (16 * (t : Int)) + (c : Int) = ((16 * t + c : Nat) : Int) := by omega
      have hh := hasN_pk (c := 16 * t + c) l (cod64 hl)
      have bs := sL_b (c := 16 * t + c) l
      refine b_X12_give_96 hG (by unfold ok32; omega) (by unfold ok32; omega) ?_
      rw [e16]
      refine gm_sum hG hr (by omega) hl ec.2 (fun hi => b_X12_give_173 hG (by unfold ok32; omega) (K I _ _ _ _ ?_ hr)) (fun hi => ?_) l.length 0 0 1 (by omega) rfl (Or.inr ⟨rfl, fun h => by cases h⟩)
      · rw [hh.2 hi]
        exact hs
      · have hb : hasN (16 * t + c) l.length (pk l) = false := Bool.eq_false_iff.2 (fun e => hi (hh.1 e))
        rw [hb, sumA_pk l (cod64 hl), show (16 * t + c) / 16 = t by omega] at K
        refine b_X12_give_176 hG (by omega) (by omega) (by unfold ok32; omega) (by unfold ok32; omega) (by unfold ok32; omega) ?_
        rw [show (l.length : Int) + 1 = (((16 * t + c) :: l).length : Int) from rfl, show (w : Int) + ((sL (16 * t + c) l : Nat) : Int) = ((w + sL (16 * t + c) l : Nat) : Int) from rfl, show (q : Int) + (t : Int) = ((q + t : Nat) : Int) from rfl, show d + f + 1 = d + 1 + f by omega]
        refine gm_give hG hn hm f d s (w + sL (16 * t + c) l) (q + t) ((16 * t + c) :: l) _ _ (by rw [List.length_cons]; omega) (by rw [List.length_cons]; omega) (by rw [List.length_cons]; omega) ?_ ?_ (rown_add hr) (fun I' hs' hr' => ?_)
        · intro a ha
          rcases List.mem_cons.1 ha with h | h
          · rw [h]
            exact ec.2
          · exact hl a h
        · refine ⟨fun a h1 h2 h3 => by rw [mset_o h2, hs.1 a h1 h2 h3], fun j j0 j1 => by rw [mset_o (by decide), hs.2.1 j j0 j1], ?_⟩
          rw [mset_o (by decide)]
          rcases hs.2.2 with h | ⟨l', w', q', h1, h2, h3, h4, h5, h6, h7, h8⟩
          · exact Or.inl h
          · exact Or.inr ⟨l', w', q', h1, h2, h3, h4, h5, h6, h7, fun i y hy => by rw [mset_o (by decide)]; exact h8 i y hy⟩
        · rw [show d + 1 + f + 1 = d + f + 2 by omega]
          exact b_X12_give_203 hG (by unfold ok32; omega) (K I' _ _ _ _ hs' (rown_sub hr'))
    exact b_X12_give_0 hG (fun g => b_X12_give_27 hG (out (Or.inl g))) (fun g => b_X12_give_9 hG (fun g1 => go (by omega)) (fun g1 => b_X12_give_18 hG (fun g2 => go (by omega)) (fun g2 => b_X12_give_27 hG (out (Or.inr ⟨g1, g2⟩)))))
end SM
