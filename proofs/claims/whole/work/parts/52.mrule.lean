/-! the model goes through a rule -/
def hitsE (V : Int → Int) (w : Int) (e : Int × Int × List Int) : Bool := decide (e.1 = w) && (!decide (w = 0) || evT V e.2.2)
def valE (V : Int → Int) (w : Int) (e : Int × Int × List Int) : Int := if w = 5 then (if evT V e.2.2 = true then 1 else 0) else e.2.1
def lastH (V : Int → Int) (w : Int) : List (Int × Int × List Int) → Int → Option (Int × Int × Int × List Int) → Option (Int × Int × Int × List Int)
  | [], _, r => r
  | e :: es, i, r => lastH V w es (i + 1) (if hitsE V w e = true then some (i, e) else r)
def FV (V : Int → Int) (w : Int) (I : aI) : Option (Int × Int × Int × List Int) → Prop
  | none => I 56 12 = 0
  | some (i, e) => I 56 12 = 1 ∧ I 56 13 = valE V w e ∧ I 56 14 = i
section MP
variable {I0 I : aI} {n p op base c : Int} {bad : Bool} {bs : Int → Int}
theorem MC.rb {k v : Int} (h : MC I0 n I bad p op) (h8 : k ≠ 8) (h9 : k ≠ 9) (h10 : k ≠ 10) : MC (mset I0 56 k v) n (mset I 56 k v) bad p op := by
  obtain ⟨q1, q2, q3, q4, q5, q6⟩ := h
  unfold MC
  rw [mset_n (Ne.symm h8), mset_n (Ne.symm h9), mset_n (Ne.symm h10)]
  refine ⟨fun a ha => by rw [mset_o ha, mset_o ha, q1 a ha], fun j j8 j9 j10 => ?_, q3, q4, q5, q6⟩
  by_cases hj : j = k
  · subst hj
    rw [mset_at, mset_at]
  · rw [mset_n hj, mset_n hj, q2 j j8 j9 j10]
theorem Mp.rb {k v : Int} (h : Mp I0 bs n base c) (h6 : k ≠ 6) (h7 : k ≠ 7) (h11 : k ≠ 11) : Mp (mset I0 56 k v) bs n base c := by
  unfold Mp
  rw [mset_n (Ne.symm h6), mset_n (Ne.symm h7), mset_n (Ne.symm h11), mset_o (show 57 ≠ 56 by decide)]
  exact h
end MP
section MS
variable {d : Nat} {b : Bool} {G : aG} {I J I0 : aI} {Q : Option aV → aG → aI → aI → Prop} {n p op base c x1 x2 w kk : Int} {bad : Bool} {bs : Int → Int}
def KK (d : Nat) (G : aG) (J : aI) (Q : Option aV → aG → aI → aI → Prop) (x1 x2 w c kk w1 x8 x9 : Int) (I : aI) : Prop := (¬ w1 = w → At (d + 22) 176 164 [some (vR 56), some (vI x1), some (vI x2), some (vI w), some (vI c), some (vI 1), some (vI kk), some (vI w1), some (vI x8), some (vI x9)] [] G I J Q) ∧ (w1 = w → At (d + 22) 176 117 [some (vR 56), some (vI x1), some (vI x2), some (vI w), some (vI c), some (vI 1), some (vI kk), some (vI w1), some (vI x8), some (vI x9)] [] G I J Q)
def OkE (V : Int → Int) (w1 x8 x9 : Int) (r : Bool × Int × Int × Int × List Int) : Prop := r.1 = false → w1 = r.2.2.1 ∧ x8 = r.2.2.2.1 ∧ ((w1 = 0 ∨ w1 = 5) → evT V r.2.2.2.2 = decide (x9 = 1)) ∧ (¬ (w1 = 0 ∨ w1 = 5) → x9 = 1)
theorem gc86 {w1 a p4 : Int} {f : Bool} {u9 : Option aV} (hG : GW b G) (hp : Mp I0 bs n base c) (h : MC I0 n I f p4 0)
    (K : ∀ I' x9, MC I0 n I' (pClE bs n w1 a (f, p4)).1 (pClE bs n w1 a (f, p4)).2.1 0 → (x9 = 0 ∨ x9 = 1) → OkE (VM (I0 57) c) w1 a x9 (pClE bs n w1 a (f, p4)) → KK d G J Q x1 x2 w c kk w1 a x9 I') : At (d + 22) 176 86 [some (vR 56), some (vI x1), some (vI x2), some (vI w), some (vI c), some (vI 1), some (vI kk), some (vI w1), some (vI a), u9] [] G I J Q := by
  have g104 : ∀ I', KK d G J Q x1 x2 w c kk w1 a 1 I' → At (d + 22) 176 104 [some (vR 56), some (vI x1), some (vI x2), some (vI w), some (vI c), some (vI 1), some (vI kk), some (vI w1), some (vI a), u9] [] G I' J Q := fun I' k => b_X12_goesThrough_104 hG k.1 k.2
  have g108 : ∀ I', KK d G J Q x1 x2 w c kk w1 a 0 I' → At (d + 22) 176 108 [some (vR 56), some (vI x1), some (vI x2), some (vI w), some (vI c), some (vI 1), some (vI kk), some (vI w1), some (vI a), u9] [] G I' J Q := fun I' k => b_X12_goesThrough_108 hG k.1 k.2
  have g97 : (w1 = 0 ∨ w1 = 5) → At (d + 22) 176 97 [some (vR 56), some (vI x1), some (vI x2), some (vI w), some (vI c), some (vI 1), some (vI kk), some (vI w1), some (vI a), u9] [] G I J Q := by
    intro hw
    cases f
    · unfold pClE at K
      rw [if_neg (by simp), if_pos hw] at K
      refine b_X12_goesThrough_97 hG (sp_Meither (by omega) hG hp h (fun I1 v h1 hv hev => b_X12_goesThrough_101 hG (fun q => g108 _ (K I1 0 h1 (Or.inl rfl) (fun q2 => ⟨rfl, rfl, fun _ => ?_, fun q3 => absurd hw q3⟩))) (fun q => g104 _ (K I1 1 h1 (Or.inr rfl) (fun q2 => ⟨rfl, rfl, fun _ => ?_, fun q3 => absurd hw q3⟩)))))
      · exact (hev q2).trans (by rw [q])
      · exact (hev q2).trans (by rw [hv.resolve_left q])
    · unfold pClE at K
      rw [if_pos rfl] at K
      exact b_X12_goesThrough_97 hG (sp_MeitherF (d := d + 19) hG h (b_X12_goesThrough_101 hG (fun _ => g108 _ (K I 0 h (Or.inl rfl) (fun q => by cases q))) (fun q => absurd rfl q)))
  refine b_X12_goesThrough_86 hG (fun q => g97 (Or.inl q)) (fun q => b_X12_goesThrough_91 hG (fun q2 => g104 _ (K I 1 ?_ (Or.inr rfl) (fun q3 => ?_))) (fun q2 => g97 (Or.inr q2)))
  · unfold pClE
    cases f
    · rw [if_neg (by simp), if_neg (by omega)]
      exact h
    · rw [if_pos rfl]
      exact h
  · unfold pClE at q3 ⊢
    cases f
    · rw [if_neg (by simp), if_neg (by omega)]
      exact ⟨rfl, rfl, fun q4 => absurd q4 (by omega), fun _ => rfl⟩
    · cases q3
theorem gc59 {w1 p2 : Int} {f : Bool} {u8 u9 : Option aV} (hG : GW b G) (hp : Mp I0 bs n base c) (h : MC I0 n I f p2 0)
    (K : ∀ I' x8 x9, MC I0 n I' (pClW bs n w1 (f, p2)).1 (pClW bs n w1 (f, p2)).2.1 0 → (x9 = 0 ∨ x9 = 1) → OkE (VM (I0 57) c) w1 x8 x9 (pClW bs n w1 (f, p2)) → KK d G J Q x1 x2 w c kk w1 x8 x9 I') : At (d + 22) 176 59 [some (vR 56), some (vI x1), some (vI x2), some (vI w), some (vI c), some (vI 1), some (vI kk), some (vI w1), u8, u9] [] G I J Q := by
  cases f
  · by_cases h5 : w1 = 5
    · have e : pClW bs n w1 (false, p2) = pClE bs n w1 0 (false, p2) := by
        unfold pClW pClN
        rw [if_neg (by simp), if_pos h5, if_neg (by simp), if_neg (by omega)]
      rw [e] at K
      exact b_X12_goesThrough_59 hG (fun q => absurd h5 q) (fun _ => b_X12_goesThrough_65 hG (fun _ => gc86 hG hp h (fun I' x9 => K I' 0 x9)) (fun q => by omega))
    · refine b_X12_goesThrough_59 hG (fun _ => b_X12_goesThrough_69 hG (sp_Mnumber (d := d + 19) hG hp h (fun I1 r hr h1 => ?_))) (fun q => absurd q h5)
      have e : pClW bs n w1 (false, p2) = pClN bs n w1 r := by
        unfold pClW
        rw [if_neg (by simp), if_neg h5, hr]
      rw [e] at K
      obtain ⟨f4, p4, a⟩ := r
      unfold pClN at K
      cases f4
      · rw [if_neg (by simp)] at K
        dsimp only at K h1
        refine b_X12_goesThrough_73 hG (fun q => gc86 hG hp h1 ?_) (fun q => b_X12_goesThrough_80 hG (sp_Msign hG hp h1 (by decide) (fun I2 h2 => gc86 hG hp h2 ?_)))
        · rw [if_neg q] at K
          exact fun I' x9 => K I' a x9
        · rw [if_pos q] at K
          exact fun I' x9 => K I' a x9
      · rw [if_pos rfl] at K
        dsimp only at K h1
        refine b_X12_goesThrough_73 hG (fun q => gc86 hG hp h1 (fun I' x9 m1 m2 m3 => K I' a x9 m1 m2 (fun q => by cases q))) (fun q => b_X12_goesThrough_80 hG (sp_Msign hG hp h1 (by decide) (fun I2 h2 => gc86 hG hp h2 (fun I' x9 m1 m2 m3 => K I' a x9 m1 m2 (fun q => by cases q)))))
  · have K2 : ∀ I' x8 x9, MC I0 n I' true p2 0 → (x9 = 0 ∨ x9 = 1) → KK d G J Q x1 x2 w c kk w1 x8 x9 I' := fun I' x8 x9 m1 m2 => K I' x8 x9 m1 m2 (fun q => by cases q)
    refine b_X12_goesThrough_59 hG (fun _ => b_X12_goesThrough_69 hG (sp_MnumberF hG h (b_X12_goesThrough_73 hG (fun _ => gc86 hG hp h (fun I' x9 m1 m2 _ => K2 I' 0 x9 m1 m2)) (fun _ => b_X12_goesThrough_80 hG (sp_Msign hG hp h (by decide) (fun I2 h2 => gc86 hG hp h2 (fun I' x9 m1 m2 _ => K2 I' 0 x9 m1 m2))))))) (fun _ => b_X12_goesThrough_65 hG (fun _ => gc86 hG hp h (fun I' x9 m1 m2 _ => K2 I' 0 x9 m1 m2)) (fun _ => b_X12_goesThrough_80 hG (sp_Msign hG hp h (by decide) (fun I2 h2 => gc86 hG hp h2 (fun I' x9 m1 m2 _ => K2 I' 0 x9 m1 m2)))))
def FR (Io I : aI) : Prop := (∀ a, a ≠ 56 → I a = Io a) ∧ I 56 19 = Io 56 19
theorem FR.mc {Io : aI} (h : FR Io I0) (m : MC I0 n I bad p op) : FR Io I := ⟨fun a ha => (m.1 a ha).trans (h.1 a ha), (m.2.1 19 (by decide) (by decide) (by decide)).trans h.2⟩
theorem FR.set {Io : aI} {k v : Int} (h : FR Io I) (hk : k ≠ 19) : FR Io (mset I 56 k v) := ⟨fun a ha => (mset_o ha).trans (h.1 a ha), (mset_n (Ne.symm hk)).trans h.2⟩
theorem FV.mc {V : Int → Int} {r : Option (Int × Int × Int × List Int)} (h : FV V w I0 r) (m : MC I0 n I bad p op) : FV V w I r := by
  have e12 := m.2.1 12 (by decide) (by decide) (by decide)
  have e13 := m.2.1 13 (by decide) (by decide) (by decide)
  have e14 := m.2.1 14 (by decide) (by decide) (by decide)
  cases r with
  | none => exact e12.trans h
  | some r =>
    obtain ⟨h1, h2, h3⟩ := h
    exact ⟨e12.trans h1, e13.trans h2, e14.trans h3⟩
theorem lp_goes {V : Int → Int} {Io : aI} (hG : GW b G) : ∀ (f : Nat) (k p : Int) (r : Option (Int × Int × Int × List Int)) (I I0 : aI) (u7 u8 u9 : Option aV), 0 ≤ k → k + (f + 1 : Nat) = 8 → Mp I0 bs n base c → VM (I0 57) c = V → FR Io I0 → MC I0 n I false p 0 → FV V w I0 r →
    (∀ I' q, (pRule bs n (f + 1) p).1 = true → q = (pRule bs n (f + 1) p).2.1 → FR Io I' → I' 56 8 = q → I' 56 10 = 1 → Q none G I' J) →
    (∀ I', (pRule bs n (f + 1) p).1 = false → (pRule bs n (f + 1) p).2.1 = n → FR Io I' → I' 56 10 = 0 → FV V w I' (lastH V w (pRule bs n (f + 1) p).2.2 k r) → Q none G I' J) → At (d + 22) 176 42 [some (vR 56), some (vI x1), some (vI x2), some (vI w), some (vI c), some (vI 1), some (vI k), u7, u8, u9] [] G I J Q
  | f, k, p, r, I, I0, u7, u8, u9, hk, hf, hp, hV, hR, h, hF, K1, K0 => by
    have hp1 := hp.1
    have ex : ∀ (I : aI) (k : Int) (u7 u8 u9 : Option aV), Q none G I J → At (d + 22) 176 42 [some (vR 56), some (vI x1), some (vI x2), some (vI w), some (vI c), some (vI 0), some (vI k), u7, u8, u9] [] G I J Q := fun I k u7 u8 u9 q => b_X12_goesThrough_42 hG (fun _ => b_X12_goesThrough_241 hG q) (fun q => absurd rfl q)
    unfold pRule at K1 K0
    have hP : pClause bs n p = pClW bs n (pWord bs n p).1 (pEx bs n 32 ((pWord bs n p).2.1, (pWord bs n p).2.2)) := rfl
    generalize hr : pClause bs n p = rc at K1 K0 hP
    -- behind a clause: the cells hold what was found
    have tl : ∀ (I I0 : aI) (x7 x8 x9 : Int) (r' : Option (Int × Int × Int × List Int)), Mp I0 bs n base c → VM (I0 57) c = V → FR Io I0 → MC I0 n I rc.1 rc.2.1 0 → (rc.1 = false → FV V w I0 r' ∧ ∀ es, lastH V w (rc.2.2 :: es) k r = lastH V w es (k + 1) r') →
        (¬ I 56 10 = 0 → At (d + 22) 176 186 [some (vR 56), some (vI x1), some (vI x2), some (vI w), some (vI c), some (vI 1), some (vI k), some (vI x7), some (vI x8), some (vI x9)] [] G I J Q) ∧ (I 56 10 = 0 → At (d + 22) 176 171 [some (vR 56), some (vI x1), some (vI x2), some (vI w), some (vI c), some (vI 1), some (vI k), some (vI x7), some (vI x8), some (vI x9)] [] G I J Q) := by
      intro I I0 x7 x8 x9 r' hp hV hR h hr'
      have h3 := h.2.2.1
      have h5 := h.2.2.2.2.1
      have h6 := h.2.2.2.2.2
      have e7 : I 56 7 = n := by rw [h.2.1 7 (by decide) (by decide) (by decide), hp.2.2.2.1]
      obtain ⟨rb, rp, re⟩ := rc
      dsimp only at *
      cases rb
      · have h5 : I 56 10 = 0 := h5
        rw [if_neg (by simp)] at K1 K0
        obtain ⟨hFV, hl⟩ := hr' rfl
        refine ⟨fun q => absurd h5 q, fun _ => b_X12_goesThrough_171 hG (fun q => b_X12_goesThrough_186 hG (by unfold ok32; omega) (ex _ _ _ _ _ ?_)) (fun q => b_X12_goesThrough_182 hG (by unfold ok32; omega) (fun q2 => b_X12_goesThrough_212 hG (by unfold ok32; omega) (ex _ _ _ _ _ ?_)) (fun q2 => b_X12_goesThrough_203 hG (sp_Mbyte hG hp h (b_X12_goesThrough_207 hG (fun q3 => b_X12_goesThrough_220 hG (fun q4 => absurd q4 (by decide)) (fun _ => b_X12_goesThrough_225 hG (by unfold ok32; omega) (by unfold ok32; omega) ?_)) (fun q3 => b_X12_goesThrough_212 hG (by unfold ok32; omega) (ex _ _ _ _ _ ?_))))))⟩
        · rw [if_pos (by omega)] at K0
          refine K0 I rfl (show rp = n by omega) (hR.mc h) h5 ?_
          rw [hl []]
          exact hFV.mc h
        · rw [if_neg (by omega), if_pos (Or.inl (by omega))] at K1
          exact K1 _ _ rfl rfl ((hR.mc h).set (by decide)) (by rw [mset_n (by decide), h3]) mset_at
        · obtain ⟨f, rfl⟩ : ∃ f', f = f' + 1 := ⟨f - 1, by omega⟩
          rw [if_neg (by omega), if_neg (by omega)] at K1 K0
          refine lp_goes hG f (k + 1) (rp + 1) r' _ I0 _ _ _ (by omega) (by omega) hp hV hR (h.adv (by omega)) hFV (fun I' q m1 m2 => K1 I' q m1 m2) (fun I' m1 mn m2 m3 m4 => K0 I' m1 mn m2 m3 ?_)
          rw [hl]
          exact m4
        · rw [if_neg (by omega), if_pos (Or.inr q3)] at K1
          exact K1 _ _ rfl rfl ((hR.mc h).set (by decide)) (by rw [mset_n (by decide), h3]) mset_at
      · have h5 : I 56 10 = 1 := h5
        rw [if_pos rfl] at K1
        refine ⟨fun _ => b_X12_goesThrough_186 hG (by unfold ok32; omega) (ex _ _ _ _ _ (K1 _ _ rfl rfl (hR.mc h) h3 h5)), fun q => ?_⟩
        omega
    refine b_X12_goesThrough_42 hG (fun q => absurd q (by decide)) (fun _ => b_X12_goesThrough_47 hG (sp_Mword (d := d + 18) hG hp h (fun I1 h1 => b_X12_goesThrough_51 hG (sp_Msign hG hp h1 (by decide) (fun I2 h2 => gc59 hG hp h2 (fun I3 x8 x9 h3 hx9 hok => ?_))))))
    rw [show ((pEx bs n 32 ((pWord bs n p).2.1, (pWord bs n p).2.2)).1, (pEx bs n 32 ((pWord bs n p).2.1, (pWord bs n p).2.2)).2) = pEx bs n 32 ((pWord bs n p).2.1, (pWord bs n p).2.2) from rfl, ← hP] at h3 hok
    rw [hV] at hok
    generalize (pWord bs n p).1 = w1 at *
    have no : ∀ x7 x8 x9, (rc.1 = false → hitsE V w rc.2.2 = false) → At (d + 22) 176 164 [some (vR 56), some (vI x1), some (vI x2), some (vI w), some (vI c), some (vI 1), some (vI k), some (vI x7), some (vI x8), some (vI x9)] [] G I3 J Q := by
      intro x7 x8 x9 hn
      have := tl I3 I0 x7 x8 x9 r hp hV hR h3 (fun q => ⟨hF, fun es => by
        show lastH V w es (k + 1) (if hitsE V w rc.2.2 = true then some (k, rc.2.2) else r) = _
        rw [hn q]
        rfl⟩)
      exact b_X12_goesThrough_164 hG this.1 this.2
    have yes : ∀ x7 x8 x9 (y : Int), (rc.1 = false → hitsE V w rc.2.2 = true ∧ y = valE V w rc.2.2) → (¬ (mset (mset (mset I3 56 12 1) 56 13 y) 56 14 k) 56 10 = 0 → At (d + 22) 176 186 [some (vR 56), some (vI x1), some (vI x2), some (vI w), some (vI c), some (vI 1), some (vI k), some (vI x7), some (vI x8), some (vI x9)] [] G (mset (mset (mset I3 56 12 1) 56 13 y) 56 14 k) J Q) ∧ ((mset (mset (mset I3 56 12 1) 56 13 y) 56 14 k) 56 10 = 0 → At (d + 22) 176 171 [some (vR 56), some (vI x1), some (vI x2), some (vI w), some (vI c), some (vI 1), some (vI k), some (vI x7), some (vI x8), some (vI x9)] [] G (mset (mset (mset I3 56 12 1) 56 13 y) 56 14 k) J Q) := by
      intro x7 x8 x9 y hy
      refine tl _ (mset (mset (mset I0 56 12 1) 56 13 y) 56 14 k) x7 x8 x9 (some (k, rc.2.2)) (((hp.rb (by decide) (by decide) (by decide)).rb (by decide) (by decide) (by decide)).rb (by decide) (by decide) (by decide)) hV (((hR.set (by decide)).set (by decide)).set (by decide)) (((h3.rb (by decide) (by decide) (by decide)).rb (by decide) (by decide) (by decide)).rb (by decide) (by decide) (by decide)) (fun q => ⟨⟨?_, ?_, ?_⟩, fun es => ?_⟩)
      · rw [mset_n (by decide), mset_n (by decide), mset_at]
      · rw [mset_n (by decide), mset_at]
        exact (hy q).2
      · rw [mset_at]
      · show lastH V w es (k + 1) (if hitsE V w rc.2.2 = true then some (k, rc.2.2) else r) = _
        rw [(hy q).1]
        rfl
    have c128 : w1 = w → (rc.1 = false → hitsE V w rc.2.2 = true) → At (d + 22) 176 128 [some (vR 56), some (vI x1), some (vI x2), some (vI w), some (vI c), some (vI 1), some (vI k), some (vI w1), some (vI x8), some (vI x9)] [] G I3 J Q := by
      intro hw hh
      refine b_X12_goesThrough_128 hG (fun q5 => ?_) (fun q5 => b_X12_goesThrough_140 hG (fun q => ?_) (fun q => ?_))
      · have := yes w1 x8 x9 x8 (fun q => ⟨hh q, by unfold valE; rw [if_neg (by omega)]; exact (hok q).2.1⟩)
        exact b_X12_goesThrough_153 hG this.1 this.2
      · have := yes w1 x8 x9 0 (fun q' => ⟨hh q', by
          unfold valE
          rw [if_pos (by omega), (hok q').2.2.1 (Or.inr q5), q]
          rfl⟩)
        exact b_X12_goesThrough_149 hG this.1 this.2
      · have := yes w1 x8 x9 1 (fun q' => ⟨hh q', by
          unfold valE
          rw [if_pos (by omega), (hok q').2.2.1 (Or.inr q5), hx9.resolve_left q]
          rfl⟩)
        exact b_X12_goesThrough_145 hG this.1 this.2
    refine ⟨fun q => no _ _ _ (fun q2 => ?_), fun q => b_X12_goesThrough_117 hG (fun q9 => c128 q (fun q2 => ?_)) (fun q9 => b_X12_goesThrough_122 hG (fun q5 => no _ _ _ (fun q2 => ?_)) (fun q5 => c128 q (fun q2 => ?_)))⟩
    · unfold hitsE
      rw [← (hok q2).1, decide_eq_false q]
      rfl
    · unfold hitsE
      rw [← (hok q2).1, decide_eq_true q]
      by_cases h0 : w = 0
      · rw [(hok q2).2.2.1 (Or.inl (by omega)), hx9.resolve_left q9]
        simp
      · simp [h0]
    · unfold hitsE
      by_cases h0 : w = 0
      · rw [(hok q2).2.2.1 (Or.inl (by omega)), q9, h0]
        simp
      · have := (hok q2).2.2.2 (by omega)
        omega
    · unfold hitsE
      rw [← (hok q2).1, decide_eq_true q, decide_eq_false (by omega)]
      rfl
theorem sp_goes (hG : GW b G) (hn : 0 ≤ n ∧ n ≤ 120) (hb : 0 ≤ base ∧ base ≤ 2336) (hbs : ∀ k, 0 ≤ k → k < n → I 57 (base + k) = bs k ∧ 0 ≤ bs k ∧ bs k ≤ 255) (hc : c = -1 ∨ (0 ≤ c ∧ c < 60 ∧ 0 ≤ I 57 ((1312 + (8 * c)) + 1) ∧ I 57 ((1312 + (8 * c)) + 1) < 12 ∧ 0 ≤ I 57 ((1312 + (8 * c)) + 4)))
    (K1 : ∀ I' q, (pRule bs n 8 0).1 = true → q = (pRule bs n 8 0).2.1 → FR I I' → I' 56 8 = q → I' 56 10 = 1 → Q none G I' J)
    (K0 : ∀ I', (pRule bs n 8 0).1 = false → (pRule bs n 8 0).2.1 = n → FR I I' → I' 56 10 = 0 → FV (VM (I 57) c) w I' (lastH (VM (I 57) c) w (pRule bs n 8 0).2.2 0 none) → Q none G I' J) : At (d + 22) 176 0 [some (vR 56), some (vI base), some (vI n), some (vI w), some (vI c), none, none, none, none, none] [] G I J Q := by
  refine b_X12_goesThrough_0 hG ?_
  generalize hX : mset (mset (mset (mset (mset (mset (mset I 56 6 base) 56 7 n) 56 8 0) 56 9 0) 56 10 0) 56 11 c) 56 12 0 = I0
  have e57 : I0 57 = I 57 := by rw [← hX]; rfl
  have hR : FR I I0 := by
    rw [← hX]
    exact ((((((FR.set ⟨fun _ _ => rfl, rfl⟩ (by decide)).set (by decide)).set (by decide)).set (by decide)).set (by decide)).set (by decide)).set (by decide)
  have z6 : I0 56 6 = base := by rw [← hX]; (repeat rw [mset_n (by decide)]); rw [mset_at]
  have z7 : I0 56 7 = n := by rw [← hX]; (repeat rw [mset_n (by decide)]); rw [mset_at]
  have z8 : I0 56 8 = 0 := by rw [← hX]; (repeat rw [mset_n (by decide)]); rw [mset_at]
  have z9 : I0 56 9 = 0 := by rw [← hX]; (repeat rw [mset_n (by decide)]); rw [mset_at]
  have z10 : I0 56 10 = 0 := by rw [← hX]; (repeat rw [mset_n (by decide)]); rw [mset_at]
  have z11 : I0 56 11 = c := by rw [← hX]; (repeat rw [mset_n (by decide)]); rw [mset_at]
  have z12 : I0 56 12 = 0 := by rw [← hX, mset_at]
  refine lp_goes (V := VM (I 57) c) (Io := I) (base := base) hG 7 0 0 none I0 I0 _ _ _ (by decide) (by decide) ⟨hn, hb, z6, z7, z11, ?_, ?_⟩ (by rw [e57]) hR ⟨fun _ _ => rfl, fun _ _ _ _ => rfl, z8, ⟨by omega, by omega, fun _ => z9⟩, z10, by omega⟩ z12 K1 K0
  · rw [e57]
    exact hbs
  · rw [e57]
    exact hc
end MS
