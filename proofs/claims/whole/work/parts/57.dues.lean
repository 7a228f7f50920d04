/-! dues: the calls behind and since -/
theorem sumI_bd {f : Int → Int} {B n : Int} (hn : 0 ≤ n) (h : ∀ k, 0 ≤ k → k < n → 0 ≤ f k ∧ f k ≤ B) : 0 ≤ sumI f n ∧ sumI f n ≤ B * n := by
  obtain ⟨m, rfl⟩ := Int.eq_ofNat_of_zero_le hn
  show 0 ≤ sumN f m ∧ sumN f m ≤ _
  clear hn
  induction m with
  | zero =>
    refine ⟨Int.le_refl 0, ?_⟩
    show (0 : Int) ≤ B * 0
    omega
  | succ m ih =>
    have h1 := ih (fun k k0 k1 => h k k0 (by omega))
    have h2 := h m (by omega) (by omega)
    unfold sumN
    rw [Int.natCast_add, Int.mul_add]
    omega
theorem sumI_lin {f g h : Int → Int} {c n : Int} (hh : ∀ k, 0 ≤ k → k < n → f k = g k + c * h k) : sumI f n = sumI g n + c * sumI h n := by
  have : ∀ m : Nat, (∀ k : Int, 0 ≤ k → k < m → f k = g k + c * h k) → sumN f m = sumN g m + c * sumN h m := by
    intro m
    induction m with
    | zero =>
      intro _
      show (0 : Int) = 0 + c * 0
      omega
    | succ m ih =>
      intro hk
      unfold sumN
      rw [ih (fun k k0 k1 => hk k k0 (by omega)), hk m (by omega) (by omega), Int.mul_add]
      omega
  exact this n.toNat (fun k k0 k1 => hh k k0 (by omega))
theorem ruleF_b {A : aI} {S V : Int → Int} {w on : Int} (hw : 0 ≤ w ∧ w ≤ 6) (hR : RelR A S) : 0 ≤ ruleF S V w on ∧ ruleF S V w on ≤ 999 := by
  rcases rul_ch (V := V) (w := w) (on := on) hR with ⟨e1, e2, e3⟩ | ⟨r, i, cl, e, e1, e2, e3, e4, e5, e6, e7, e8, e9⟩
  · rw [e3]
    unfold plainF
    (repeat' split) <;> omega
  · rw [e9]
    have := (e6.2.2.2.2 V e (List.mem_of_getElem? e7)).2.1
    unfold valE
    split
    · split <;> omega
    · exact this
def dueF (S : Int → Int) (d : Int) : Int := ruleF S (VM S (-1)) 1 (d - 1) + 3 * ruleF S (VM S (-1)) 2 (d - 1)
def dueOnF (S : Int → Int) (came d : Int) : Int := if 0 < d - came ∧ (d - came) % 30 = 0 then dueF S d else 0
def owed (S : Int → Int) (came d : Int) : Int := sumI (fun i => dueF S (came + 30 + 30 * i)) (((d - came) / 30).toNat : Nat)
def wF (A : aI) (f a z k : Int) : Int := if A 36 k = f ∧ a ≤ A 39 k ∧ A 39 k ≤ z then (if A 37 k = 0 then A 38 k else 3 * A 38 k) else 0
def BOF (A : aI) (S : Int → Int) (f came d : Int) : Int := owed S came d - sumI (wF A f 0 d) (A 35 0)
theorem owed_s {S : Int → Int} {came d : Int} (h : 1 ≤ d) (hc : 0 ≤ came) : owed S came (d - 1) = owed S came d - dueOnF S came d := by
  unfold owed dueOnF
  by_cases hh : 0 < d - came ∧ (d - came) % 30 = 0
  · rw [if_pos hh, show (((d - came) / 30).toNat : Nat) = ((d - 1 - came) / 30).toNat + 1 by omega, Int.natCast_add]
    show _ = sumI _ ((((d - 1 - came) / 30).toNat : Int) + 1) - _
    rw [sumI_s (by omega)]
    rw [show came + 30 + 30 * ((((d - 1 - came) / 30).toNat : Nat) : Int) = d by omega]
    omega
  · rw [if_neg hh, show (((d - 1 - came) / 30).toNat : Nat) = ((d - came) / 30).toNat by omega]
    omega
theorem worth_s {A : aI} {S : Int → Int} {f d : Int} (hL : RelL A S) (hF : RelF A S) (h : 1 ≤ d) : sumI (wF A f 0 d) (A 35 0) = sumI (wF A f 0 (d - 1)) (A 35 0) + 1 * sumI (wF A f d d) (A 35 0) := by
  refine sumI_lin fun k k0 k1 => ?_
  rw [hL.1.2.2] at k1
  obtain ⟨_, e1, e2, e3, e4, e5⟩ := hL.2 k k0 k1
  have h7 := (hF.2.1 (A 36 k) e1.1 e1.2).2
  unfold wF
  generalize (if A 37 k = 0 then A 38 k else 3 * A 38 k) = v
  (repeat' split) <;> omega
theorem worth_p {A : aI} {S : Int → Int} {f d : Int} (hL : RelL A S) (hF : RelF A S) : sumI (wF A f 0 d) (A 35 0) = sumI (payM S f 0 d) (S 6) + 3 * sumI (payM S f 1 d) (S 6) := by
  rw [hL.1.2.2]
  refine sumI_lin fun k k0 k1 => ?_
  obtain ⟨⟨c0, c1, c2, c3⟩, e1, e2, e3, e4, e5⟩ := hL.2 k k0 k1
  have h7 := (hF.2.1 (A 36 k) e1.1 e1.2).2
  unfold wF payM
  rw [← c0, ← c1, ← c2, ← c3]
  by_cases h1 : A 36 k = f ∧ A 39 k ≤ d
  · rw [if_pos ⟨h1.1, by omega, h1.2⟩]
    rcases e2 with h2 | h2
    · rw [if_pos h2, if_pos ⟨h1.1, h2, h1.2⟩, if_neg (by omega)]
      omega
    · rw [if_neg (by omega), if_neg (by omega), if_pos ⟨h1.1, h2, h1.2⟩]
      omega
  · rw [if_neg (fun q => h1 ⟨q.1, q.2.2⟩), if_neg (fun q => h1 ⟨q.1, q.2.2⟩), if_neg (fun q => h1 ⟨q.1, q.2.2⟩)]
    rfl
theorem worth_0 {A : aI} {S : Int → Int} {f d : Int} (hL : RelL A S) (h : d < A 7 f) : sumI (wF A f 0 d) (A 35 0) = 0 := by
  have : sumI (wF A f 0 d) (A 35 0) = sumI (fun _ => 0) (A 35 0) + 1 * sumI (fun _ => 0) (A 35 0) := sumI_lin fun k k0 k1 => by
    rw [hL.1.2.2] at k1
    obtain ⟨_, e1, e2, e3, e4, e5⟩ := hL.2 k k0 k1
    unfold wF
    rw [if_neg (fun q => ?_)]
    · rfl
    · rw [q.1] at e4
      omega
  have z : ∀ m : Nat, sumN (fun _ => (0 : Int)) m = 0 := fun m => by
    induction m with
    | zero => rfl
    | succ m ih => unfold sumN; rw [ih]; rfl
  rw [this]
  show sumN _ _ + 1 * sumN _ _ = 0
  rw [z]
  rfl
theorem BOF_0 {A : aI} {S : Int → Int} {f d : Int} (hL : RelL A S) (h : d < A 7 f) : BOF A S f (A 7 f) d = 0 := by
  unfold BOF owed
  rw [worth_0 hL h, show (((d - A 7 f) / 30).toNat : Nat) = 0 by omega]
  rfl
section SM
variable {d : Nat} {b : Bool} {G : aG} {I J : aI} {Q : Option aV → aG → aI → aI → Prop} {S : Int → Int} {f : Int}
theorem ru {w x cM on : Int} (hV : LV b G I J) (hS : I 57 = S) (hw : 0 ≤ w ∧ w ≤ 6) (hc : (w = 0 ∨ w = 5) → (0 ≤ x ∧ x < S 2) ∧ cM = x) (k : ∀ I', LV b G I' J → Kp I I' → I' 57 = S → Q (some (vI (ruleF S (VM S cM) w on))) G I' J) : At (d + 3) 101 0 [some (vR 1), some (vI w), some (vI x), some (vI on), none] [] G I J Q := by
  obtain ⟨hG, ⟨hN, hF, hR, hT, hC, hW, hL, hM⟩, _⟩ := id hV
  subst hS
  exact sp_ruledC hG hF hC hR hw hc (fun I' k' => k I' (hV.kp k') k' (k'.c (sc 57 (by decide))))
theorem sa {w c on : Int} (hV : LV b G I J) (hS : I 57 = S) (hc : CallV S c) (k : ∀ I', LV b G I' J → Kp I I' → I' 57 = S → Q (some (vI (ruleF S (VM S c) w on))) G I' J) : At (d + 24) 182 0 [some (vR 56), some (vI w), some (vI c), some (vI on), none] [] G I J Q := by
  obtain ⟨hG, ⟨hN, hF, hR, hT, hC, hW, hL, hM⟩, _⟩ := id hV
  subst hS
  exact sp_saysM hG ⟨hR.1.1, hR.1.2.1⟩ hR.mr hc (fun I' k' => k I' (hV.kp k') k' (k'.c (sc 57 (by decide))))
theorem lp_worth {a z : Int} (hG : GW b G) (hr : 0 ≤ I 35 0 ∧ I 35 0 ≤ 60) (hm : ∀ k, 0 ≤ k → k < I 35 0 → 1 ≤ I 38 k ∧ I 38 k ≤ 999) (k : Q (some (vI (sumI (wF I f a z) (I 35 0)))) G I J) : ∀ (j : Nat) (x y : Int), 0 ≤ y → y + j = I 35 0 → x = sumI (wF I f a z) y → 0 ≤ x → x ≤ 2997 * y → At d 55 6 [some (vR 35), some (vI f), some (vI a), some (vI z), some (vI x), some (vI y)] [] G I J Q
  | 0, x, y, h0, h1, hx, _, _ => by
    refine b_X5_worth_6 hG (fun _ => b_X5_worth_88 hG ?_) (fun h => ?_)
    · rw [hx, show y = I 35 0 by omega]
      exact k
    · omega
  | j + 1, x, y, h0, h1, hx, hx0, hx1 => by
    have hs := sumI_s (f := wF I f a z) h0
    have h9 := hm y h0 (by omega)
    refine b_X5_worth_6 hG (fun h => ?_) (fun _ => ?_)
    · omega
    have go : ∀ x', x' = x + wF I f a z y → At d 55 6 [some (vR 35), some (vI f), some (vI a), some (vI z), some (vI x'), some (vI (y + 1))] [] G I J Q := by
      intro x' hx'
      have : 0 ≤ wF I f a z y ∧ wF I f a z y ≤ 2997 := by
        unfold wF
        split
        · split <;> omega
        · omega
      exact lp_worth hG hr hm k j x' (y + 1) (by omega) (by omega) (by omega) (by omega) (by omega)
    unfold wF at go
    repeat' first
      | intro _
      | refine go _ ?_
      | refine b_X5_worth_0 hG ?_
      | refine b_X5_worth_88 hG ?_
      | refine b_X5_worth_15 hG ?_ ?_ ?_ ?_
      | refine b_X5_worth_82 hG ?_ ?_
      | refine b_X5_worth_26 hG ?_ ?_ ?_ ?_
      | refine b_X5_worth_37 hG ?_ ?_ ?_ ?_
      | refine b_X5_worth_48 hG ?_ ?_ ?_ ?_
      | refine b_X5_worth_70 hG ?_ ?_ ?_ ?_ ?_ ?_
      | refine b_X5_worth_60 hG ?_ ?_ ?_ ?_ ?_
    all_goals first
      | omega
      | (unfold ok32; omega)
      | (split <;> first | omega | (split <;> omega))
theorem sp_worth {a z : Int} (hG : GW b G) (hr : 0 ≤ I 35 0 ∧ I 35 0 ≤ 60) (hm : ∀ k, 0 ≤ k → k < I 35 0 → 1 ≤ I 38 k ∧ I 38 k ≤ 999) (k : Q (some (vI (sumI (wF I f a z) (I 35 0)))) G I J) : At d 55 0 [some (vR 35), some (vI f), some (vI a), some (vI z), none, none] [] G I J Q :=
  b_X5_worth_0 hG (lp_worth hG hr hm k (I 35 0).toNat 0 0 (by omega) (by omega) rfl (by omega) (by omega))
theorem wF_b {A : aI} {a z : Int} (hL : RelL A S) : 0 ≤ sumI (wF A f a z) (A 35 0) ∧ sumI (wF A f a z) (A 35 0) ≤ 179820 := by
  have h0 := hL.1
  have := sumI_bd (f := wF A f a z) (B := 2997) (n := A 35 0) (by omega) (fun k k0 k1 => by
    have := payC_max hL k0 k1
    unfold wF
    split
    · split <;> omega
    · omega)
  omega
theorem dueF_b {A : aI} {x : Int} (hR : RelR A S) : 0 ≤ dueF S x ∧ dueF S x ≤ 3996 := by
  have h1 := ruleF_b (V := VM S (-1)) (w := 1) (on := x - 1) (by decide) hR
  have h2 := ruleF_b (V := VM S (-1)) (w := 2) (on := x - 1) (by decide) hR
  unfold dueF
  omega
theorem wF_kp {A A' : aI} {a z : Int} (h : Kp A A') : wF A' f a z = wF A f a z := by
  funext k
  unfold wF
  rw [h.c (sc 36 (by decide)), h.c (sc 37 (by decide)), h.c (sc 38 (by decide)), h.c (sc 39 (by decide))]
theorem sp_dueOn {x : Int} (hV : LV b G I J) (hS : I 57 = S) (hf : 0 ≤ f ∧ f < S 0) (hx : -1000 ≤ x ∧ x ≤ 1000) (k : ∀ I', LV b G I' J → Kp I I' → I' 57 = S → Q (some (vI (dueOnF S (I 7 f) x))) G I' J) : At (d + 4) 105 0 [some (vR 1), some (vI f), some (vI x), none] [] G I J Q := by
  obtain ⟨hG, ⟨hN, hF, hR, hT, hC, hW, hL, hM⟩, _⟩ := id hV
  subst hS
  have f0 := hF.1
  have f3 : I 1 0 = I 57 3 ∧ 0 ≤ I 57 3 ∧ I 57 3 ≤ 40099 := hN
  have h7 := (hF.2.1 f hf.1 hf.2).2
  unfold dueOnF at k
  refine b_X10_dueOn_0 hG hf.1 (by omega) (by unfold ok32; omega) (fun q => b_X10_dueOn_23 hG ?_) (fun q => b_X10_dueOn_16 hG (by omega) (fun q2 => b_X10_dueOn_25 hG (by unfold ok32; omega) (ru (cM := -1) hV rfl (by decide) (fun q => by omega) (fun I1 hV1 k1 e1 => b_X10_dueOn_34 hV1.1 (by unfold ok32; omega) (ru (cM := -1) hV1 e1 (by decide) (fun q => by omega) (fun I2 hV2 k2 e2 => ?_))))) (fun q2 => b_X10_dueOn_23 hG ?_))
  · have := k I hV Kp.rfl' rfl
    rw [if_neg (by omega)] at this
    exact this
  · have h1 := ruleF_b (V := VM (I 57) (-1)) (w := 1) (on := x - 1) (by decide) hR
    have h2 := ruleF_b (V := VM (I 57) (-1)) (w := 2) (on := x - 1) (by decide) hR
    have := k I2 hV2 (k1.tr k2) e2
    rw [if_pos ⟨q, q2⟩] at this
    exact b_X10_dueOn_44 hG (by unfold ok32; omega) (by unfold ok32; omega) this
  · have := k I hV Kp.rfl' rfl
    rw [if_neg (fun q3 => q2 q3.2)] at this
    exact this
theorem lp_boC {x c : Int} (hf : 0 ≤ f ∧ f < S 0) (hx : 0 ≤ x ∧ x ≤ 400) : ∀ (j i : Nat) (I : aI), LV b G I J → I 57 = S → I 7 f = c → i + j = ((x - c) / 30).toNat → (∀ I', LV b G I' J → Kp I I' → I' 57 = S → Q (some (vI (BOF I' S f c x))) G I' J) → At (d + 5) 106 16 [some (vR 1), some (vI f), some (vI x), some (vI (sumI (fun i => dueF S (c + 30 + 30 * i)) (i : Int))), some (vI (c + 30 + 30 * (i : Int)))] [] G I J Q
  | 0, i, I, hV, hS, h7, hi, k => by
    obtain ⟨hG, ⟨hN, hF, hR, hT, hC, hW, hL, hM⟩, _⟩ := id hV
    rw [hS] at hL hR hF
    have f35 := hL.1
    have h7c := (hF.2.1 f hf.1 hf.2).2
    have hb := sumI_bd (f := fun i => dueF S (c + 30 + 30 * i)) (B := 3996) (n := (i : Int)) (by omega) (fun k _ _ => dueF_b hR)
    have hw := wF_b (f := f) (a := 0) (z := x) hL
    refine b_X10_behindOn_16 hG (fun _ => b_X10_behindOn_38 hG (sp_worth hG (by omega) (fun k k0 k1 => payC_max hL k0 k1) (b_X10_behindOn_49 hG (by unfold ok32; omega) ?_))) (fun q => ?_)
    · have := k I hV Kp.rfl' hS
      unfold BOF owed at this
      rw [← hi, Nat.add_zero] at this
      exact this
    · omega
  | j + 1, i, I, hV, hS, h7, hi, k => by
    obtain ⟨hG, ⟨hN, hF, hR, hT, hC, hW, hL, hM⟩, _⟩ := id hV
    have f3 : I 1 0 = I 57 3 ∧ 0 ≤ I 57 3 ∧ I 57 3 ≤ 40099 := hN
    rw [hS] at hL hR hF f3
    have h7c := (hF.2.1 f hf.1 hf.2).2
    have hb := sumI_bd (f := fun i => dueF S (c + 30 + 30 * i)) (B := 3996) (n := (i : Int)) (by omega) (fun k _ _ => dueF_b hR)
    have hd := dueF_b (x := c + 30 + 30 * (i : Int)) hR
    have hs := sumI_s (f := fun i => dueF S (c + 30 + 30 * i)) (n := (i : Int)) (by omega)
    refine b_X10_behindOn_16 hG (fun q => ?_) (fun _ => b_X10_behindOn_22 hG (sp_dueOn (d := d) hV hS hf (by omega) (fun I1 hV1 k1 e1 => ?_)))
    · omega
    · rw [h7]
      unfold dueOnF
      rw [if_pos (by omega)]
      refine b_X10_behindOn_30 hG (by unfold ok32; omega) (by unfold ok32; omega) ?_
      have e7 : I1 7 f = c := by rw [k1.c (sc 7 (by decide)), h7]
      have := lp_boC hf hx j (i + 1) I1 hV1 e1 e7 (by omega) (fun I' hV' k' e' => k I' hV' (k1.tr k') e')
      rw [Int.natCast_add] at this
      have hs' : sumI (fun i => dueF S (c + 30 + 30 * i)) ((i : Int) + ((1 : Nat) : Int)) = sumI (fun i => dueF S (c + 30 + 30 * i)) (i : Int) + dueF S (c + 30 + 30 * (i : Int)) := hs
      rw [hs', show c + 30 + 30 * ((i : Int) + ((1 : Nat) : Int)) = c + 30 + 30 * (i : Int) + 30 by omega] at this
      exact this
theorem sp_boC {x : Int} (hV : LV b G I J) (hS : I 57 = S) (hf : 0 ≤ f ∧ f < S 0) (hx : 0 ≤ x ∧ x ≤ 400) (k : ∀ I', LV b G I' J → Kp I I' → I' 57 = S → Q (some (vI (BOF I' S f (I 7 f) x))) G I' J) : At (d + 5) 106 0 [some (vR 1), some (vI f), some (vI x), none, none] [] G I J Q := by
  obtain ⟨hG, ⟨hN, hF, hR, hT, hC, hW, hL, hM⟩, _⟩ := id hV
  have f3 : I 1 0 = I 57 3 ∧ 0 ≤ I 57 3 ∧ I 57 3 ≤ 40099 := hN
  have h7c := (hF.2.1 f hf.1 (by rw [hS]; exact hf.2)).2
  have f0 := hF.1
  have hf2 := hf.2
  rw [← hS] at hf2
  have := lp_boC (d := d) hf hx ((x - I 7 f) / 30).toNat 0 I hV hS rfl (by omega) k
  rw [show I 7 f + 30 + 30 * ((0 : Nat) : Int) = I 7 f + 30 by omega] at this
  exact b_X10_behindOn_0 hG hf.1 (by omega) (by unfold ok32; omega) this
def BOM (S : Int → Int) (f c x : Int) : Int := owed S c x - sumI (payM S f 0 x) (S 6) - 3 * sumI (payM S f 1 x) (S 6)
theorem lp_boM {x c : Int} (hf : 0 ≤ f ∧ f < S 0) (hx : 0 ≤ x ∧ x ≤ 400) : ∀ (j i : Nat) (I : aI), LV b G I J → I 57 = S → I 7 f = c → i + j = ((x - c) / 30).toNat → (∀ I', LV b G I' J → Kp I I' → I' 57 = S → Q (some (vI (BOM S f c x))) G I' J) → At (d + 25) 224 13 [some (vR 56), some (vI f), some (vI x), some (vI (sumI (fun i => dueF S (c + 30 + 30 * i)) (i : Int))), some (vI (c + 30 + 30 * (i : Int)))] [] G I J Q
  | 0, i, I, hV, hS, h7, hi, k => by
    obtain ⟨hG, ⟨hN, hF, hR, hT, hC, hW, hL, hM⟩, _⟩ := id hV
    have f6 := hL.1
    have hm : ∀ k, 0 ≤ k → k < I 57 6 → 1 ≤ I 57 ((1902 + (4 * k)) + 2) ∧ I 57 ((1902 + (4 * k)) + 2) ≤ 999 := fun k k0 k1 => payM_max hL k0 k1
    have h7c := (hF.2.1 f hf.1 (by rw [hS]; exact hf.2)).2
    have hb := sumI_bd (f := fun i => dueF S (c + 30 + 30 * i)) (B := 3996) (n := (i : Int)) (by omega) (fun k _ _ => dueF_b (by rw [hS] at hR; exact hR))
    have pb : ∀ w, 0 ≤ sumI (payM (I 57) f w x) (I 57 6) ∧ sumI (payM (I 57) f w x) (I 57 6) ≤ 59940 := fun w => by
      have := sumI_bd (f := payM (I 57) f w x) (B := 999) (n := I 57 6) (by omega) (fun k k0 k1 => by
        have := hm k k0 k1
        unfold payM
        split <;> omega)
      omega
    have p0 := pb 0
    have p1 := pb 1
    have f3 : I 1 0 = I 57 3 ∧ 0 ≤ I 57 3 ∧ I 57 3 ≤ 40099 := hN
    refine b_X12_behindOn_13 hG (fun _ => b_X12_behindOn_51 hG (sp_paidM hG (by omega) hm (b_X12_behindOn_59 hG (by unfold ok32; omega) (sp_paidM hG (by omega) hm (b_X12_behindOn_68 hG (by unfold ok32; omega) (by unfold ok32; omega) ?_))))) (fun q => ?_)
    · have := k I hV Kp.rfl' hS
      unfold BOM owed at this
      rw [← hi, Nat.add_zero, ← hS] at this
      rw [← hS]
      exact this
    · omega
  | j + 1, i, I, hV, hS, h7, hi, k => by
    obtain ⟨hG, ⟨hN, hF, hR, hT, hC, hW, hL, hM⟩, _⟩ := id hV
    have f3 : I 1 0 = I 57 3 ∧ 0 ≤ I 57 3 ∧ I 57 3 ≤ 40099 := hN
    rw [hS] at hL hR hF f3
    have h7c := (hF.2.1 f hf.1 hf.2).2
    have hb := sumI_bd (f := fun i => dueF S (c + 30 + 30 * i)) (B := 3996) (n := (i : Int)) (by omega) (fun k _ _ => dueF_b hR)
    have h1 := ruleF_b (V := VM S (-1)) (w := 1) (on := c + 30 + 30 * (i : Int) - 1) (by decide) hR
    have h2 := ruleF_b (V := VM S (-1)) (w := 2) (on := c + 30 + 30 * (i : Int) - 1) (by decide) hR
    have hs := sumI_s (f := fun i => dueF S (c + 30 + 30 * i)) (n := (i : Int)) (by omega)
    refine b_X12_behindOn_13 hG (fun q => ?_) (fun _ => b_X12_behindOn_19 hG (by unfold ok32; omega) (sa (d := d) hV hS (Or.inl rfl) (fun I1 hV1 k1 e1 => b_X12_behindOn_30 hG (by unfold ok32; omega) (sa (d := d) hV1 e1 (Or.inl rfl) (fun I2 hV2 k2 e2 => b_X12_behindOn_41 hG (by unfold ok32; omega) (by unfold ok32; omega) (by unfold ok32; omega) (by unfold ok32; omega) ?_)))))
    · omega
    · have e7 : I2 7 f = c := by rw [k2.c (sc 7 (by decide)), k1.c (sc 7 (by decide)), h7]
      have := lp_boM hf hx j (i + 1) I2 hV2 e2 e7 (by omega) (fun I' hV' k' e' => k I' hV' ((k1.tr k2).tr k') e')
      rw [Int.natCast_add] at this
      have hs' : sumI (fun i => dueF S (c + 30 + 30 * i)) ((i : Int) + ((1 : Nat) : Int)) = sumI (fun i => dueF S (c + 30 + 30 * i)) (i : Int) + dueF S (c + 30 + 30 * (i : Int)) := hs
      rw [hs', show c + 30 + 30 * ((i : Int) + ((1 : Nat) : Int)) = c + 30 + 30 * (i : Int) + 30 by omega] at this
      exact this
theorem sp_boM {x : Int} (hV : LV b G I J) (hS : I 57 = S) (hf : 0 ≤ f ∧ f < S 0) (hx : 0 ≤ x ∧ x ≤ 400) (k : ∀ I', LV b G I' J → Kp I I' → I' 57 = S → Q (some (vI (BOF I' S f (I 7 f) x))) G I' J) : At (d + 25) 224 0 [some (vR 56), some (vI f), some (vI x), none, none] [] G I J Q := by
  obtain ⟨hG, ⟨hN, hF, hR, hT, hC, hW, hL, hM⟩, _⟩ := id hV
  have f3 : I 1 0 = I 57 3 ∧ 0 ≤ I 57 3 ∧ I 57 3 ≤ 40099 := hN
  rw [hS] at hF f3 hL
  have h7c := hF.2.1 f hf.1 hf.2
  have f0 := hF.1
  have e4 : I 57 (32 + 5 * f + 4) = I 7 f := by rw [hS]; exact h7c.1.2.2.2.2.symm
  refine b_X12_behindOn_0 hG (b_X12_f_0 hG (by unfold ok32; omega) (by unfold ok32; omega) (by unfold ok32; omega) (by omega) (by omega) (b_X12_behindOn_8 hG (by rw [e4]; unfold ok32; omega) ?_))
  rw [e4]
  have fin := lp_boM (d := d) (Q := Q) hf hx ((x - I 7 f) / 30).toNat 0 I hV hS rfl (by omega) (fun I' hV' k' e' => ?_)
  · rw [show I 7 f + 30 + 30 * ((0 : Nat) : Int) = I 7 f + 30 by omega] at fin
    exact fin
  obtain ⟨_, ⟨_, hF', _, _, _, _, hL', _⟩, _⟩ := id hV'
  rw [e'] at hL' hF'
  have := k I' hV' k' e'
  unfold BOF at this
  rw [worth_p hL' hF'] at this
  unfold BOM
  rw [show owed S (I 7 f) x - sumI (payM S f 0 x) (S 6) - 3 * sumI (payM S f 1 x) (S 6) = owed S (I 7 f) x - (sumI (payM S f 0 x) (S 6) + 3 * sumI (payM S f 1 x) (S 6)) by omega]
  exact this
theorem BOF_kp {A A' : aI} {c x : Int} (h : Kp A A') : BOF A' S f c x = BOF A S f c x := by
  unfold BOF
  rw [wF_kp h, h.c (sc 35 (by decide))]
theorem cs_23 {x y : Int} (hV : LV b G I J) : Cl (d + 40) 132 225 [some (vR 0), some (vI x), some (vI y)] [some (vR 56), some (vI x), some (vI y)] G I J := by
  obtain ⟨hG, hRW, hc, hi, hk⟩ := id hV
  obtain ⟨hN, hF, hR, hT, hC, hW, hL, hM⟩ := id hRW
  have f0 := hF.1
  have f3 : I 1 0 = I 57 3 ∧ 0 ≤ I 57 3 ∧ I 57 3 ≤ 40099 := hN
  have m0 : 0 ≤ I 57 0 ∧ I 57 0 ≤ 12 := ⟨f0.1, f0.2.1⟩
  unfold Cl
  refine b_X11_behind_0 hG (sp_X4_has hG (fun a0 a1 => b_X11_behind_11 hG (fun _ => b_X11_behind_16 hG (b_X10_today_0 hG (by omega) (b_X11_behind_25 hG (sp_within hG (fun z0 z1 => b_X11_behind_28 hG (fun _ => b_X11_behind_34 hG (sp_boC (d := d + 34) hV rfl (by omega) (by omega) (fun I1 hV1 k1 e1 => b_X11_behind_43 hG ⟨_, b, rfl, hG, Sc.kp k1, ?_⟩))) (fun q => absurd q (by decide))) (fun z => b_X11_behind_28 hG (fun q => absurd rfl q) (fun _ => b_X11_behind_31 hG ⟨_, b, rfl, hG, ⟨rfl, rfl⟩, ?_⟩)))))) (fun q => absurd q (by decide))) (fun a => b_X11_behind_11 hG (fun q => absurd rfl q) (fun _ => b_X11_behind_14 hG ⟨_, b, rfl, hG, ⟨rfl, rfl⟩, ?_⟩)))
  · unfold Md
    have u0 : I1 57 0 = I 57 0 := by rw [e1]
    have u3 : I1 57 3 = I 57 3 := by rw [e1]
    have h7c := hF.2.1 x (by omega) (by omega)
    have e7 : I1 7 x = I 7 x := by rw [k1.c (sc 7 (by decide))]
    have e4 : I1 57 (32 + 5 * x + 4) = I 7 x := by rw [e1]; exact h7c.1.2.2.2.2.symm
    refine b_X12_behind_0 hG (sp_isFarm hG (by omega) (fun _ _ => b_X12_behind_5 hG (fun _ => b_X12_behind_10 hG (b_X12_day_0 hG (by omega) (b_X12_behind_16 hG (sp_in hG (fun _ _ => b_X12_behind_19 hG (fun _ => b_X12_behind_25 hG (b_X12_f_0 hG (by unfold ok32; omega) (by unfold ok32; omega) (by unfold ok32; omega) (by omega) (by omega) (b_X12_behind_32 hG (fun q => b_X12_behind_39 hG (sp_boM (d := d + 14) hV1 e1 (by omega) (by omega) (fun I2 hV2 k2 e2 => b_X12_behind_45 hG ⟨?_, b, hV2, Sc.kp k2⟩))) (fun q => b_X12_behind_35 hG ⟨?_, b, hV1, rfl, rfl⟩)))) (fun q => absurd q (by decide))) (fun q => ?_))))) (fun q => absurd q (by decide))) (fun q => ?_))
    · rw [e7, BOF_kp k2]
    · rw [e4] at q
      rw [BOF_kp k1, BOF_0 hL q]
    · omega
    · omega
  · unfold Md
    repeat' first
      | intro _
      | refine sp_isFarm hG m0 ?_ ?_
      | refine sp_in hG ?_ ?_
      | refine b_X12_day_0 hG ?_ ?_
      | refine b_X12_behind_0 hG ?_
      | refine b_X12_behind_5 hG ?_ ?_
      | refine b_X12_behind_10 hG ?_
      | refine b_X12_behind_8 hG ?_
      | refine b_X12_behind_16 hG ?_
      | refine b_X12_behind_19 hG ?_ ?_
      | refine b_X12_behind_25 hG ?_
      | refine b_X12_behind_22 hG ?_
      | refine b_X12_behind_32 hG ?_ ?_
      | refine b_X12_behind_39 hG ?_
      | refine b_X12_behind_35 hG ?_
      | refine b_X12_behind_45 hG ?_
    all_goals first
      | omega
      | exact ⟨rfl, b, hV, rfl, rfl⟩
  · unfold Md
    repeat' first
      | intro _
      | refine sp_isFarm hG m0 ?_ ?_
      | refine b_X12_behind_0 hG ?_
      | refine b_X12_behind_5 hG ?_ ?_
      | refine b_X12_behind_10 hG ?_
      | refine b_X12_behind_8 hG ?_
      | refine b_X12_behind_16 hG ?_
      | refine b_X12_behind_19 hG ?_ ?_
      | refine b_X12_behind_25 hG ?_
      | refine b_X12_behind_22 hG ?_
      | refine b_X12_behind_32 hG ?_ ?_
      | refine b_X12_behind_39 hG ?_
      | refine b_X12_behind_35 hG ?_
      | refine b_X12_behind_45 hG ?_
    all_goals first
      | omega
      | exact ⟨rfl, b, hV, rfl, rfl⟩
/-- from which day on: the days from the last one back -/
def sF (B : Int → Int) : Nat → Int → Int
  | 0, w => if 0 < B 0 then 0 else w
  | n + 1, w => if 0 < B ((n : Int) + 1) then sF B n ((n : Int) + 1) else w
theorem lp_sinC {c : Int} {B : Int → Int} (hf : 0 ≤ f ∧ f < S 0) : ∀ (n : Nat) (I : aI), LV b G I J → I 57 = S → I 7 f = c → (∀ x, BOF I S f c x = B x) → n ≤ 400 → 0 < B n → (∀ I', LV b G I' J → Kp I I' → I' 57 = S → Q (some (vI (if n = 0 then 0 else sF B (n - 1) n))) G I' J) → At (d + 6) 107 22 [some (vR 1), some (vI f), some (vI (B n)), some (vI (n : Int))] [] G I J Q
  | 0, I, hV, hS, h7, hB, hn, h0, k => b_X10_behindFrom_22 hV.1 (fun _ => b_X10_behindFrom_58 hV.1 (k I hV Kp.rfl' hS)) (fun q => by omega)
  | n + 1, I, hV, hS, h7, hB, hn, h0, k => by
    obtain ⟨hG, ⟨hN, hF, hR, hT, hC, hW, hL, hM⟩, _⟩ := id hV
    rw [hS] at hL hR hF
    have f35 := hL.1
    have h7c := (hF.2.1 f hf.1 hf.2).2
    rw [Int.natCast_add] at h0 ⊢
    have hb1 := hB ((n : Int) + 1)
    have hb0 := hB (n : Int)
    have ho := owed_s (S := S) (came := c) (d := (n : Int) + 1) (by omega) (by omega)
    have hw := worth_s (f := f) (d := (n : Int) + 1) hL hF (by omega)
    rw [show (n : Int) + 1 - 1 = n by omega] at ho hw
    unfold BOF at hb1 hb0
    have wb := wF_b (f := f) (a := (n : Int) + 1) (z := (n : Int) + 1) hL
    have wb0 := wF_b (f := f) (a := 0) (z := (n : Int) + 1) hL
    have db := dueF_b (x := (n : Int) + 1) hR
    have ob : 0 ≤ owed S c ((n : Int) + 1) ∧ owed S c ((n : Int) + 1) ≤ 60000 := by
      unfold owed
      have := sumI_bd (f := fun i => dueF S (c + 30 + 30 * i)) (B := 3996) (n := ((((n : Int) + 1 - c) / 30).toNat : Nat)) (by omega) (fun k _ _ => dueF_b hR)
      omega
    have dob : 0 ≤ dueOnF S c ((n : Int) + 1) ∧ dueOnF S c ((n : Int) + 1) ≤ 3996 := by
      unfold dueOnF
      split <;> omega
    have fin : ∀ I1, LV b G I1 J → Kp I I1 → I1 57 = S → At (d + 6) 107 43 [some (vR 1), some (vI f), some (vI (B ((n : Int) + 1))), some (vI ((n : Int) + 1))] [vI (dueOnF S c ((n : Int) + 1)), vI (sumI (wF I f ((n : Int) + 1) ((n : Int) + 1)) (I 35 0)), vI (B ((n : Int) + 1))] G I1 J Q := by
      intro I1 hV1 k1 e1
      have eB : B ((n : Int) + 1) + (sumI (wF I f ((n : Int) + 1) ((n : Int) + 1)) (I 35 0) - dueOnF S c ((n : Int) + 1)) = B n := by omega
      refine b_X10_behindFrom_43 hV1.1 (by unfold ok32; omega) (by unfold ok32; omega) (fun q => ?_) (fun q => b_X10_behindFrom_50 hV1.1 ?_)
      · rw [eB] at q ⊢
        refine b_X10_behindFrom_52 hV1.1 (by unfold ok32; omega) ?_
        rw [show (n : Int) + 1 + -1 = n by omega]
        refine lp_sinC hf n I1 hV1 e1 (by rw [k1.c (sc 7 (by decide)), h7]) (fun x => by rw [BOF_kp k1, hB]) (by omega) q (fun I' hV' k' e' => ?_)
        have := k I' hV' (k1.tr k') e'
        rw [if_neg (by omega), Nat.add_sub_cancel] at this
        by_cases hz : n = 0
        · subst hz
          unfold sF at this
          rw [if_pos (show 0 < B 0 from q)] at this
          rw [if_pos rfl]
          exact this
        · obtain ⟨m, rfl⟩ : ∃ m, n = m + 1 := ⟨n - 1, by omega⟩
          unfold sF at this
          have q' : 0 < B ((m : Int) + 1) := by rw [Int.natCast_add] at q; exact q
          rw [if_pos q'] at this
          rw [if_neg (by omega), Nat.add_sub_cancel, Int.natCast_add]
          exact this
      · rw [eB] at q
        have := k I1 hV1 k1 e1
        rw [if_neg (by omega), Nat.add_sub_cancel, Int.natCast_add] at this
        by_cases hz : n = 0
        · subst hz
          unfold sF at this
          rw [if_neg (show ¬ 0 < B 0 by exact Int.not_lt.2 q)] at this
          exact this
        · obtain ⟨m, rfl⟩ : ∃ m, n = m + 1 := ⟨n - 1, by omega⟩
          unfold sF at this
          have q' : ¬ 0 < B ((m : Int) + 1) := by rw [Int.natCast_add] at q; exact Int.not_lt.2 q
          rw [if_neg q'] at this
          exact this
    refine b_X10_behindFrom_22 hG (fun q => ?_) (fun _ => b_X10_behindFrom_26 hG (sp_worth hG (by omega) (fun k k0 k1 => payC_max hL k0 k1) (b_X10_behindFrom_37 hG (sp_dueOn (d := d + 1) hV hS hf (by omega) (fun I1 hV1 k1 e1 => ?_)))))
    · omega
    · rw [h7]
      exact fin I1 hV1 k1 e1
theorem lp_sinM {c : Int} {B : Int → Int} (hf : 0 ≤ f ∧ f < S 0) (h0 : ∀ x, x < c → B x = 0) : ∀ (m : Nat) (n w : Int) (I : aI), LV b G I J → I 57 = S → I 7 f = c → (∀ x, BOF I S f c x = B x) → n + 1 = m → n ≤ 400 → (∀ I', LV b G I' J → Kp I I' → I' 57 = S → Q (some (vI (if n = -1 then w else sF B n.toNat w))) G I' J) → At (d + 26) 226 18 [some (vR 56), some (vI f), some (vI w), some (vI n)] [] G I J Q
  | m, n, w, I, hV, hS, h7, hB, hm, hn, k => by
    obtain ⟨hG, ⟨hN, hF, hR, hT, hC, hW, hL, hM⟩, _⟩ := id hV
    rw [hS] at hF
    have f0 := hF.1
    have h7c := hF.2.1 f hf.1 hf.2
    have e4 : I 57 (32 + 5 * f + 4) = c := by rw [hS, ← h7]; exact h7c.1.2.2.2.2.symm
    have out : (n = -1 ∨ ¬ 0 < B n) → ∀ I', LV b G I' J → Kp I I' → I' 57 = S → Q (some (vI w)) G I' J := by
      intro hq I' hV' k' e'
      have := k I' hV' k' e'
      by_cases hz : n = -1
      · rw [if_pos hz] at this
        exact this
      · rw [if_neg hz] at this
        have hq := hq.resolve_left hz
        obtain ⟨p, rfl⟩ := Int.eq_ofNat_of_zero_le (show 0 ≤ n by omega)
        rw [Int.toNat_natCast] at this
        cases p with
        | zero =>
          unfold sF at this
          rw [if_neg (show ¬ 0 < B 0 from hq)] at this
          exact this
        | succ p =>
          unfold sF at this
          rw [if_neg (show ¬ 0 < B ((p : Int) + 1) from hq)] at this
          exact this
    refine b_X12_since_18 hG (b_X12_f_0 hG (by unfold ok32; omega) (by unfold ok32; omega) (by unfold ok32; omega) (by omega) (by omega) (b_X12_since_25 hG (fun q => b_X12_since_45 hG (out ?_ I hV Kp.rfl' hS)) (fun q => b_X12_since_28 hG (sp_boM (d := d) hV hS hf (by rw [e4] at q; omega) (fun I1 hV1 k1 e1 => ?_)))))
    · by_cases hz : n = -1
      · exact Or.inl hz
      · refine Or.inr ?_
        rw [h0 n (by rw [e4] at q; exact q)]
        decide
    · rw [e4] at q
      rw [h7, BOF_kp k1, hB]
      refine b_X12_since_34 hG (fun q2 => b_X12_since_45 hG (out (Or.inr (Int.not_lt.2 q2)) I1 hV1 k1 e1)) (fun q2 => b_X12_since_37 hG (by unfold ok32; omega) ?_)
      obtain ⟨m, rfl⟩ : ∃ m', m = m' + 1 := ⟨m - 1, by omega⟩
      refine lp_sinM hf h0 m (n + -1) n I1 hV1 e1 (by rw [k1.c (sc 7 (by decide)), h7]) (fun x => by rw [BOF_kp k1, hB]) (by omega) (by omega) (fun I' hV' k' e' => ?_)
      have := k I' hV' (k1.tr k') e'
      rw [if_neg (by omega)] at this
      obtain ⟨p, rfl⟩ := Int.eq_ofNat_of_zero_le (show 0 ≤ n by omega)
      rw [Int.toNat_natCast] at this
      cases p with
      | zero =>
        unfold sF at this
        rw [if_pos (show 0 < B 0 from q2)] at this
        rw [if_pos (by decide)]
        exact this
      | succ p =>
        unfold sF at this
        rw [if_pos (show 0 < B ((p : Int) + 1) from q2)] at this
        rw [if_neg (by omega), show (((p + 1 : Nat) : Int) + -1).toNat = p by omega]
        exact this
theorem cs_24 {x : Int} (hV : LV b G I J) : Cl (d + 40) 133 226 [some (vR 0), some (vI x)] [some (vR 56), some (vI x), none, none] G I J := by
  obtain ⟨hG, hRW, hc, hi, hk⟩ := id hV
  obtain ⟨hN, hF, hR, hT, hC, hW, hL, hM⟩ := id hRW
  have f0 := hF.1
  have f3 : I 1 0 = I 57 3 ∧ 0 ≤ I 57 3 ∧ I 57 3 ≤ 40099 := hN
  have m0 : 0 ≤ I 57 0 ∧ I 57 0 ≤ 12 := ⟨f0.1, f0.2.1⟩
  have hday : (((I 57 3 / 100).toNat : Nat) : Int) = I 57 3 / 100 := by omega
  unfold Cl
  -- what the model answers
  have fin : ∀ I1, LV b G I1 J → Kp I I1 → I1 57 = I 57 → (0 ≤ x ∧ x < I 57 0) → Md (d + 40) 226 [some (vR 56), some (vI x), none, none] (sF (BOF I (I 57) x (I 7 x)) (I 57 3 / 100).toNat (-5)) G I1 J := by
    intro I1 hV1 k1 e1 hx
    unfold Md
    have u0 : I1 57 0 = I 57 0 := by rw [e1]
    have u3 : I1 57 3 = I 57 3 := by rw [e1]
    refine b_X12_since_0 hG (sp_isFarm hG (by omega) (fun _ _ => b_X12_since_5 hG (fun _ => b_X12_since_10 hG (b_X12_day_0 hG (by omega) (b_X12_since_17 hG ?_))) (fun q => absurd q (by decide))) (fun q => ?_))
    · rw [u3]
      refine lp_sinM (d := d + 14) (S := I 57) (c := I 7 x) (B := BOF I (I 57) x (I 7 x)) hx (fun y hy => BOF_0 hL hy) (I 57 3 / 100 + 1).toNat (I 57 3 / 100) (-5) I1 hV1 e1 (by rw [k1.c (sc 7 (by decide))]) (fun y => BOF_kp k1) (by omega) (by omega) (fun I' hV' k' e' => ⟨?_, b, hV', Sc.kp k'⟩)
      rw [if_neg (by omega)]
    · omega
  refine b_X11_since_0 hG (sp_X4_has hG (fun a0 a1 => b_X11_since_11 hG (fun _ => b_X11_since_16 hG (b_X10_behindFrom_0 hG (b_X10_today_0 hG (by omega) (b_X10_behindFrom_6 hG (sp_boC (d := d + 33) hV rfl (by omega) (by omega) (fun I1 hV1 k1 e1 => b_X10_behindFrom_9 hG (fun q => b_X10_behindFrom_17 hG (b_X10_today_0 hG ?_ (b_X10_behindFrom_21 hG ?_))) (fun q => b_X10_behindFrom_14 hG (b_X11_since_24 hG ⟨_, b, rfl, hG, Sc.kp k1, ?_⟩)))))))) (fun q => absurd q (by decide))) (fun a => b_X11_since_11 hG (fun q => absurd rfl q) (fun _ => b_X11_since_14 hG ⟨_, b, rfl, hG, ⟨rfl, rfl⟩, ?_⟩)))
  · rw [k1.c (sc 1 (by decide))]
    omega
  · rw [k1.c (sc 1 (by decide))]
    rw [f3.1, BOF_kp k1] at q ⊢
    rw [← hday] at q ⊢
    refine lp_sinC (d := d + 33) (S := I 57) (c := I 7 x) (B := BOF I (I 57) x (I 7 x)) (by omega) (I 57 3 / 100).toNat I1 hV1 e1 (by rw [k1.c (sc 7 (by decide))]) (fun y => BOF_kp k1) (by omega) q (fun I2 hV2 k2 e2 => b_X11_since_24 hG ⟨_, b, rfl, hG, Sc.kp (k1.tr k2), ?_⟩)
    have := fin I2 hV2 (k1.tr k2) e2 (by omega)
    generalize (I 57 3 / 100).toNat = n at *
    cases n with
    | zero =>
      unfold sF at this
      rw [if_pos (show 0 < BOF I (I 57) x (I 7 x) 0 from q)] at this
      exact this
    | succ n =>
      unfold sF at this
      rw [if_pos (show 0 < BOF I (I 57) x (I 7 x) ((n : Int) + 1) from q)] at this
      rw [if_neg (by omega)]
      exact this
  · have := fin I1 hV1 k1 e1 (by omega)
    rw [f3.1, BOF_kp k1, ← hday] at q
    generalize (I 57 3 / 100).toNat = n at *
    cases n with
    | zero =>
      unfold sF at this
      rw [if_neg (show ¬ 0 < BOF I (I 57) x (I 7 x) 0 from Int.not_lt.2 q)] at this
      exact this
    | succ n =>
      unfold sF at this
      rw [if_neg (show ¬ 0 < BOF I (I 57) x (I 7 x) ((n : Int) + 1) from Int.not_lt.2 q)] at this
      exact this
  · unfold Md
    repeat' first
      | intro _
      | refine sp_isFarm hG m0 ?_ ?_
      | refine b_X12_since_0 hG ?_
      | refine b_X12_since_5 hG ?_ ?_
      | refine b_X12_since_10 hG ?_
      | refine b_X12_since_8 hG ?_
      | refine b_X12_since_17 hG ?_
      | refine b_X12_since_25 hG ?_ ?_
      | refine b_X12_since_45 hG ?_
      | refine b_X12_since_28 hG ?_
      | refine b_X12_since_34 hG ?_ ?_
      | refine b_X12_since_37 hG ?_ ?_
    all_goals first
      | omega
      | exact ⟨rfl, b, hV, rfl, rfl⟩
end SM
