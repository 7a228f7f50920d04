/-! the class reads a whole rule -/
def ClOk (A : aI) (r : Int) (cl : List (Int × Int × List Int)) : Prop := A 15 r = cl.length ∧ ∀ c : Nat, ∀ e : Int × Int × List Int, cl[c]? = some e →
  A 16 ((8 * r) + c) = e.1 ∧ A 13 ((8 * r) + c) = e.2.1 ∧ 120 * r ≤ A 17 ((8 * r) + c) ∧ A 18 ((8 * r) + c) = A 17 ((8 * r) + c) + (e.2.2.length : Int) ∧ A 18 ((8 * r) + c) ≤ 120 * r + 120 ∧ ∀ j : Nat, ∀ x : Int, e.2.2[j]? = some x → A 11 (A 17 ((8 * r) + c) + j) = x
def RF (sz : Int) (Io I : aI) : Prop := (∀ a, a ≠ 10 → a ≠ 11 → a ≠ 13 → a ≠ 15 → a ≠ 16 → a ≠ 17 → a ≠ 18 → I a = Io a) ∧ (∀ k, k < 8 * sz → I 13 k = Io 13 k ∧ I 16 k = Io 16 k ∧ I 17 k = Io 17 k ∧ I 18 k = Io 18 k) ∧ (∀ k, k ≠ sz → I 15 k = Io 15 k) ∧ (∀ k, k < 120 * sz → I 11 k = Io 11 k)
theorem ClOk.o {A : aI} {r k v : Int} {a : Nat} {cl : List (Int × Int × List Int)} (h : ClOk A r cl) (ha : a < 11) : ClOk (mset A a k v) r cl := by
  unfold ClOk
  rw [mset_o (by omega), mset_o (by omega), mset_o (by omega), mset_o (by omega), mset_o (by omega), mset_o (by omega)]
  exact h
theorem mset_nn {I : aI} {a c : Nat} {k j v : Int} (h : ¬ (c = a ∧ j = k)) : mset I a k v c j = I c j := by
  unfold mset
  rw [if_neg h]
section RP
variable {sz n w0 e p : Int} {Io I0 I : aI} {fl : Bool} {ts : List Int} {bs : Int → Int}
theorem RF.set {a : Nat} {k v : Int} (h : RF sz Io I) (ha : ((a = 13 ∨ a = 16 ∨ a = 17 ∨ a = 18) ∧ 8 * sz ≤ k) ∨ (a = 15 ∧ k = sz) ∨ a = 10) : RF sz Io (mset I a k v) := by
  obtain ⟨h1, h2, h3, h4⟩ := h
  refine ⟨fun c q1 q2 q3 q4 q5 q6 q7 => (mset_o (by omega)).trans (h1 c q1 q2 q3 q4 q5 q6 q7), fun j hj => ?_, fun j hj => ?_, fun j hj => ?_⟩
  · rw [mset_nn (by omega), mset_nn (by omega), mset_nn (by omega), mset_nn (by omega)]
    exact h2 j hj
  · rw [mset_nn (by omega)]
    exact h3 j hj
  · rw [mset_nn (by omega)]
    exact h4 j hj
theorem RF.tc (h : RF sz Io I0) (hT : TC I0 n w0 e I fl p ts) (hw : w0 = 120 * sz) : RF sz Io I := by
  obtain ⟨h1, h2, h3, h4⟩ := h
  have t := hT.1
  refine ⟨fun c q1 q2 q3 q4 q5 q6 q7 => (t c q1 q2).trans (h1 c q1 q2 q3 q4 q5 q6 q7), fun j hj => ?_, fun j hj => ?_, fun j hj => ?_⟩
  · rw [t 13 (by decide) (by decide), t 16 (by decide) (by decide), t 17 (by decide) (by decide), t 18 (by decide) (by decide)]
    exact h2 j hj
  · rw [t 15 (by decide) (by decide)]
    exact h3 j hj
  · rw [hT.2.2.2.2.2.1 j (by omega)]
    exact h4 j hj
def CP (A : aI) (sz w0 : Int) (cl : List (Int × Int × List Int)) (ts : List Int) : Prop := ∀ c : Nat, ∀ e : Int × Int × List Int, cl[c]? = some e →
  A 16 ((8 * sz) + c) = e.1 ∧ A 13 ((8 * sz) + c) = e.2.1 ∧ w0 ≤ A 17 ((8 * sz) + c) ∧ A 18 ((8 * sz) + c) = A 17 ((8 * sz) + c) + (e.2.2.length : Int) ∧ A 18 ((8 * sz) + c) ≤ w0 + (ts.length : Int) ∧ ∀ j : Nat, ∀ x : Int, e.2.2[j]? = some x → ts[(A 17 ((8 * sz) + c) - w0).toNat + j]? = some x
theorem at_app {α : Type} {l : List α} {x y : α} {c : Nat} (h : (l ++ [x])[c]? = some y) : (c < l.length ∧ l[c]? = some y) ∨ (c = l.length ∧ y = x) := by
  rw [List.getElem?_append] at h
  split at h
  · exact Or.inl ⟨‹_›, h⟩
  · by_cases q : c - l.length = 0
    · rw [q] at h
      cases h
      exact Or.inr ⟨by omega, rfl⟩
    · rw [List.getElem?_eq_none (by rw [List.length_singleton]; omega)] at h
      cases h
theorem CP.add {cl : List (Int × Int × List Int)} {x w a s t u v : Int} {tk : List Int} (h : CP I0 sz w0 cl ts) (hx : x = (cl.length : Int)) (hs : s = w0 + (ts.length : Int)) (ht : t = w0 + (ts.length : Int) + (tk.length : Int)) : CP (mset (mset (mset (mset (mset I0 16 (8 * sz + x) w) 13 (8 * sz + x) a) 17 (8 * sz + x) s) 18 (8 * sz + x) t) 15 u v) sz w0 (cl ++ [(w, a, tk)]) (ts ++ tk) := by
  intro c e he
  rw [mset_o (show 16 ≠ 15 by decide), mset_o (show 13 ≠ 15 by decide), mset_o (show 17 ≠ 15 by decide), mset_o (show 18 ≠ 15 by decide)]
  rw [mset_o (show 16 ≠ 18 by decide), mset_o (show 13 ≠ 18 by decide), mset_o (show 17 ≠ 18 by decide)]
  rw [mset_o (show 16 ≠ 17 by decide), mset_o (show 13 ≠ 17 by decide), mset_o (show 16 ≠ 13 by decide)]
  rcases at_app he with ⟨hc, he⟩ | ⟨hc, rfl⟩
  · rw [mset_n (by omega), mset_n (by omega), mset_n (by omega), mset_n (by omega), mset_o (show 13 ≠ 16 by decide), mset_o (show 17 ≠ 13 by decide), mset_o (show 17 ≠ 16 by decide), mset_o (show 18 ≠ 17 by decide), mset_o (show 18 ≠ 13 by decide), mset_o (show 18 ≠ 16 by decide)]
    obtain ⟨h1, h2, h3, h4, h5, h6⟩ := h c e he
    refine ⟨h1, h2, h3, h4, ?_, fun j y hj => ?_⟩
    · rw [List.length_append]
      omega
    · have h7 := h6 j y hj
      rw [List.getElem?_append_left]
      · exact h7
      · exact (List.getElem?_eq_some_iff.1 h7).1
  · have e : 8 * sz + (c : Int) = 8 * sz + x := by omega
    rw [e, mset_at, mset_at, mset_at, mset_at]
    refine ⟨rfl, rfl, by omega, by dsimp only; omega, ?_, fun j y hj => ?_⟩
    · rw [List.length_append]
      omega
    · rw [List.getElem?_append_right (by omega), show (s - w0).toNat + j - ts.length = j by omega]
      exact hj
theorem CP.ok {cl : List (Int × Int × List Int)} (h : CP I0 sz w0 cl ts) (hT : TC I0 n w0 e I false p ts) (he : 0 ≤ e) (hn : n ≤ 120) (hw : w0 = 120 * sz) (h15 : I0 15 sz = cl.length) : ClOk I sz cl := by
  have t := hT.1
  have t5 := hT.2.2.2.2.1
  have t7 := hT.2.2.2.2.2.2.1
  obtain ⟨t8, t9⟩ := hT.2.2.2.2.2.2.2 rfl
  unfold ClOk
  rw [t 13 (by decide) (by decide), t 15 (by decide) (by decide), t 16 (by decide) (by decide), t 17 (by decide) (by decide), t 18 (by decide) (by decide)]
  refine ⟨h15, fun c e he => ?_⟩
  obtain ⟨h1, h2, h3, h4, h5, h6⟩ := h c e he
  refine ⟨h1, h2, by omega, h4, by omega, fun j x hj => ?_⟩
  have := t9 _ _ (h6 j x hj)
  rw [← this]
  congr 1
  omega
end RP
section TS
variable {d : Nat} {b : Bool} {G : aG} {I J I0 Io : aI} {Q : Option aV → aG → aI → aI → Prop} {n w0 e p sz : Int} {fl : Bool} {ts : List Int} {bs : Int → Int}
theorem sp_isRead (hG : GW b G) (h : TC I0 n w0 e I fl p ts) (k1 : fl = false → n ≤ p → Q (some (vI 1)) G I J) (k0 : fl = true ∨ p < n → Q (some (vI 0)) G I J) : At d 77 0 [some (vR 10)] [] G I J Q := by
  obtain ⟨h1, h2, h3, h4, h5, h6, h7, h8⟩ := id h
  cases fl
  · have h4 : I 10 3 = 0 := h4
    repeat' first
      | intro _
      | refine b_X8_isRead_0 hG ?_ ?_
      | refine b_X8_isRead_22 hG ?_
      | refine b_X8_isRead_7 hG ?_ ?_
      | refine b_X8_isRead_18 hG ?_
    · exact absurd h4 ‹_›
    · exact k0 (Or.inr (by omega))
    · exact k1 rfl (by omega)
  · have h4 : I 10 3 = 1 := h4
    refine b_X8_isRead_0 hG (fun _ => b_X8_isRead_22 hG (k0 (Or.inl rfl))) (fun q => ?_)
    omega
theorem lp_readF {x : Int} (hG : GW b G) (hsz : 0 ≤ sz ∧ sz ≤ 10) (hw : w0 = 120 * sz) (hp : Tp I0 bs n w0) (h9 : I0 9 0 = sz) (hx : 0 ≤ x ∧ x < 8) (hR : RF sz Io I0) (h : TC I0 n w0 0 I true p ts) (K : ∀ I', RF sz Io I' → I' 10 0 = 0 → Q (some (vI p)) G I' J) : At (d + 22) 65 43 [some (vR 9), some (vI x)] [] G I J Q := by
  have e9 : I 9 0 = sz := by rw [h.1 9 (by decide) (by decide), h9]
  refine b_X7_readTape_43 hG (by unfold ok32; omega) (by unfold ok32; omega) ?_
  rw [show (I 9 0) * 8 + x = 8 * sz + x by omega]
  refine sp_readClauseF hG hp h (by omega) (fun w a s t I1 h1 => ?_)
  have f9 : I1 9 0 = sz := by rw [h1.1 9 (by decide) (by decide), mset_o (by decide), mset_o (by decide), mset_o (by decide), mset_o (by decide), h9]
  have h2 := h1.base (a := 15) (k := I1 9 0) (v := x + 1) (by decide) (by decide)
  have hR2 : RF sz Io (mset (mset (mset (mset (mset I0 16 (8 * sz + x) w) 13 (8 * sz + x) a) 17 (8 * sz + x) s) 18 (8 * sz + x) t) 15 (I1 9 0) (x + 1)) := ((((hR.set (by omega)).set (by omega)).set (by omega)).set (by omega)).set (by omega)
  refine b_X7_readTape_56 hG (by unfold ok32; omega) (by omega) (by omega) (sp_isRead hG h2 (fun q => by cases q) (fun _ => b_X7_readTape_75 hG (fun q => absurd rfl q) (fun _ => b_X7_readTape_78 hG (fun q => ?_) (fun _ => b_X7_readTape_88 hG (sp_isRead hG h2 (fun q => by cases q) (fun _ => b_X7_readTape_119 hG (fun _ => b_X7_readTape_126 hG ?_) (fun q => absurd rfl q)))))))
  · rw [h2.2.2.2.1] at q
    cases q
  · rw [h2.2.2.1]
    exact K _ ((hR2.tc h2 hw).set (by omega)) mset_at
theorem lp_read (hG : GW b G) (hsz : 0 ≤ sz ∧ sz ≤ 10) (hw : w0 = 120 * sz) : ∀ (f : Nat) (x p : Int) (ts : List Int) (cl : List (Int × Int × List Int)) (I I0 : aI), x + (f + 1 : Nat) = 8 → x = (cl.length : Int) → Tp I0 bs n w0 → I0 9 0 = sz → RF sz Io I0 → TC I0 n w0 0 I false p ts → CP I0 sz w0 cl ts →
    (∀ I' q, (pRule bs n (f + 1) p).1 = true → q = (pRule bs n (f + 1) p).2.1 → RF sz Io I' → I' 10 0 = 0 → Q (some (vI q)) G I' J) →
    (∀ I', (pRule bs n (f + 1) p).1 = false → RF sz Io I' → I' 10 0 = 0 → ClOk I' sz (cl ++ (pRule bs n (f + 1) p).2.2) → Q (some (vI (-1))) G I' J) → At (d + 22) 65 43 [some (vR 9), some (vI x)] [] G I J Q
  | f, x, p, ts, cl, I, I0, hf, hcl, hp, h9, hR, h, hCP, K1, K0 => by
    have hp1 := hp.1
    have e9 : I 9 0 = sz := by rw [h.1 9 (by decide) (by decide), h9]
    refine b_X7_readTape_43 hG (by unfold ok32; omega) (by unfold ok32; omega) ?_
    rw [show (I 9 0) * 8 + x = 8 * sz + x by omega]
    refine sp_readClause hG hp h (by omega) (fun w a s t I1 r hr h1 hw1 => ?_)
    have f9 : I1 9 0 = sz := by rw [h1.1 9 (by decide) (by decide), mset_o (by decide), mset_o (by decide), mset_o (by decide), mset_o (by decide), h9]
    have hR2 : RF sz Io (mset (mset (mset (mset (mset I0 16 (8 * sz + x) w) 13 (8 * sz + x) a) 17 (8 * sz + x) s) 18 (8 * sz + x) t) 15 (I1 9 0) (x + 1)) := ((((hR.set (by omega)).set (by omega)).set (by omega)).set (by omega)).set (by omega)
    have h2 := h1.base (a := 15) (k := I1 9 0) (v := x + 1) (by decide) (by decide)
    have hp2 : Tp (mset (mset (mset (mset (mset I0 16 (8 * sz + x) w) 13 (8 * sz + x) a) 17 (8 * sz + x) s) 18 (8 * sz + x) t) 15 (I1 9 0) (x + 1)) bs n w0 := ((((hp.base (by decide)).base (by decide)).base (by decide)).base (by decide)).base (by decide)
    unfold pRule at K1 K0
    rw [hr] at K1 K0
    obtain ⟨f1, p1, w1, a1, t1⟩ := r
    dsimp only at K1 K0 h2 hw1
    refine b_X7_readTape_56 hG (by unfold ok32; omega) (by omega) (by omega) ?_
    cases f1
    · obtain ⟨rfl, rfl, hs, ht⟩ := hw1 rfl
      have hC2 := hCP.add (w := w) (a := a) (u := I1 9 0) (v := x + 1) hcl hs ht
      by_cases hn : n ≤ p1
      · rw [if_neg (by decide), if_pos hn] at K0
        refine sp_isRead hG h2 (fun _ _ => b_X7_readTape_75 hG (fun _ => b_X7_readTape_112 hG (sp_isRead hG h2 (fun _ _ => b_X7_readTape_119 hG (fun q => by cases q) (fun _ => b_X7_readTape_122 hG ?_)) (fun q => ?_))) (fun q => by cases q)) (fun q => ?_)
        · have hok := hC2.ok h2 (Int.le_refl 0) hp1.2 hw (by rw [f9, mset_at, hcl, List.length_append]; rfl)
          exact K0 _ rfl ((hR2.tc h2 hw).set (by omega)) mset_at (hok.o (by decide))
        · rcases q with q | q
          · cases q
          · omega
        · rcases q with q | q
          · cases q
          · omega
      · rw [if_neg (by decide), if_neg hn] at K0 K1
        refine sp_isRead hG h2 (fun _ q => absurd q hn) (fun _ => b_X7_readTape_75 hG (fun q => absurd rfl q) (fun _ => b_X7_readTape_78 hG (fun _ => b_X7_readTape_91 hG (fun q7 => b_X7_readTape_106 hG (by unfold ok32; omega) (b_X7_readTape_37 hG (fun _ => b_X7_readTape_112 hG (sp_isRead hG h2 (fun _ q => absurd q hn) (fun _ => b_X7_readTape_119 hG (fun _ => b_X7_readTape_126 hG ?_) (fun q => absurd rfl q)))) (fun q => ?_))) (fun q7 => b_X7_readTape_97 hG (sp_expect hG hp2 h2 (by decide) (fun I3 h3 => b_X7_readTape_106 hG (by unfold ok32; omega) (b_X7_readTape_37 hG (fun q => ?_) (fun _ => ?_)))))) (fun q => ?_)))
        · rw [if_pos (Or.inl (by omega))] at K1
          exact K1 _ _ rfl h2.2.2.1 ((hR2.tc h2 hw).set (by omega)) mset_at
        · omega
        · omega
        · obtain ⟨f, rfl⟩ : ∃ f', f = f' + 1 := ⟨f - 1, by omega⟩
          have g9 : (mset (mset (mset (mset (mset I0 16 (8 * sz + x) w) 13 (8 * sz + x) a) 17 (8 * sz + x) s) 18 (8 * sz + x) t) 15 (I1 9 0) (x + 1)) 9 0 = sz := by rw [mset_o (by decide), mset_o (by decide), mset_o (by decide), mset_o (by decide), mset_o (by decide), h9]
          by_cases h59 : byt bs n p1 = 59
          · rw [if_neg (by omega)] at K0 K1
            rw [pEx_y h59] at h3
            refine lp_read hG hsz hw f (x + 1) (p1 + 1) _ _ I3 _ (by omega) (by rw [List.length_append, hcl]; rfl) hp2 g9 hR2 h3 hC2 (fun I' q q1 q2 => K1 I' q q1 q2) (fun I' q q1 q2 q3 => K0 I' q q1 q2 ?_)
            rw [List.append_assoc] at q3
            exact q3
          · rw [if_pos (Or.inr h59)] at K1
            rw [pEx_n h59] at h3
            exact lp_readF hG hsz hw hp2 g9 (by omega) hR2 h3 (fun I' => K1 I' _ rfl rfl)
        · exact absurd h2.2.2.2.1 q
    · rw [if_pos rfl] at K1
      refine sp_isRead hG h2 (fun q => by cases q) (fun _ => b_X7_readTape_75 hG (fun q => absurd rfl q) (fun _ => b_X7_readTape_78 hG (fun q => ?_) (fun _ => b_X7_readTape_88 hG (sp_isRead hG h2 (fun q => by cases q) (fun _ => b_X7_readTape_119 hG (fun _ => b_X7_readTape_126 hG ?_) (fun q => absurd rfl q))))))
      · rw [h2.2.2.2.1] at q
        cases q
      · exact K1 _ _ rfl h2.2.2.1 ((hR2.tc h2 hw).set (by omega)) mset_at
theorem sp_readTape (hG : GW b G) (hsz : 0 ≤ sz ∧ sz ≤ 10) (h9 : I 9 0 = sz) (hn : I 10 0 = n) (hp : Tp I bs n (120 * sz))
    (K1 : ∀ I', (pRule bs n 8 0).1 = true → RF sz I I' → I' 10 0 = 0 → Q (some (vI (pRule bs n 8 0).2.1)) G I' J)
    (K0 : ∀ I', (pRule bs n 8 0).1 = false → RF sz I I' → I' 10 0 = 0 → ClOk I' sz (pRule bs n 8 0).2.2 → Q (some (vI (-1))) G I' J) : At (d + 22) 65 0 [some (vR 9), none] [] G I J Q := by
  refine b_X7_readTape_0 hG (fun _ => b_X7_readTape_11 hG (by omega) (by omega) (by unfold ok32; omega) (b_X8_begin_0 hG (b_X7_readTape_35 hG (b_X7_readTape_37 hG (fun q => ?_) (fun _ => ?_))))) (fun q => ?_)
  · omega
  · have hR : RF sz I (mset I 15 (I 9 0) 0) := RF.set (I := I) ⟨fun _ _ _ _ _ _ _ _ => rfl, fun _ _ => ⟨rfl, rfl, rfl, rfl⟩, fun _ _ => rfl, fun _ _ => rfl⟩ (by omega)
    refine lp_read (w0 := 120 * sz) hG hsz rfl 7 0 0 [] [] _ (mset I 15 (I 9 0) 0) (by decide) rfl (hp.base (by decide)) (by rw [mset_o (by decide), h9]) hR ?_ (fun c e he => by cases he) (fun I' q q1 q2 q3 q4 => ?_) (fun I' q1 q2 q3 q4 => K0 I' q1 q2 q3 q4)
    · unfold TC
      rw [mset_at, mset_n (show (2 : Int) ≠ 3 by decide), mset_at, mset_n (show (0 : Int) ≠ 3 by decide), mset_n (show (0 : Int) ≠ 2 by decide), mset_n (show (0 : Int) ≠ 1 by decide), mset_n (show (1 : Int) ≠ 3 by decide), mset_n (show (1 : Int) ≠ 2 by decide), mset_at, mset_o (show 10 ≠ 15 by decide)]
      have hp1 := hp.1
      refine ⟨fun a h1 h2 => by rw [mset_o h1, mset_o h1, mset_o h1], hn, rfl, rfl, by omega, fun k hk => by rw [mset_o (by decide), mset_o (by decide), mset_o (by decide)], by omega, fun _ => ⟨?_, fun j x hj => by cases hj⟩⟩
      show (I 9 0) * 120 = 120 * sz + 0
      omega
    · rw [q2]
      exact K1 I' q1 q3 q4
  · omega
end TS
