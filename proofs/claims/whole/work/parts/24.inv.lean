/-! what holds between the calls of the law -/
def RW (A B : aI) (S : Int → Int) : Prop := RelN A S ∧ RelF A S ∧ RelR A S ∧ RelT A S ∧ RelC A B S ∧ RelW A B S ∧ RelL A S ∧ RelM A S
/-- the best codes: for so many farms and up to so many signs -/
def bestL : List ((Int × Int) × Int × List Int) := [((0, 1), 0, []), ((1, 1), 0, [16]), ((2, 1), 2, [16, 17]), ((0, 2), 0, []), ((1, 2), 0, [16]), ((2, 2), 0, [16, 35]), ((3, 2), 3, [16, 32, 35]), ((4, 2), 7, [16, 17, 32, 35]), ((5, 2), 15, [16, 17, 32, 33, 35]), ((0, 3), 0, []), ((1, 3), 0, [16]), ((2, 3), 0, [16, 35]), ((3, 3), 0, [16, 35, 48]), ((4, 3), 1, [16, 35, 49, 50]), ((5, 3), 3, [16, 35, 49, 50, 52])]
def bestU (n : Int) : Int := if n = 1 then 17 else if n = 2 then 35 else 55
def Cache (I : aI) : Prop := I 48 4 = 0 ∨ ∃ f n v : Int, ∃ l : List Int, bestL.lookup (f, n) = some (v, l) ∧ I 48 3 = f ∧ I 48 4 = bestU n ∧ I 48 0 = v ∧ ∀ i : Nat, ∀ x : Int, l[i]? = some x → I 49 i = x
def sh (I : aI) : aI := fun a => I (a + 63)
def LV (b : Bool) (G : aG) (I J : aI) : Prop := GW b G ∧ RW I J (I 57) ∧ Cache I ∧ I 56 19 = (if b = true then 1 else 0) ∧ (b = true → RW (sh I) (sh J) (I 63))
/-- a place that is no part of the state -/
def scr (a : Nat) (k : Int) : Bool := a == 19 || a == 34 || (decide (45 ≤ a ∧ a ≤ 62 ∧ a ≠ 57 ∧ a ≠ 48 ∧ a ≠ 49) && !(decide (a = 56 ∧ k = 19))) || decide (a = 10 ∧ k ≠ 0) || decide (a = 31 ∧ (k = 3 ∨ k = 4))
def Kp (I I' : aI) : Prop := ∀ a k, scr a k = false → I' a k = I a k
theorem Kp.rfl' {I : aI} : Kp I I := fun _ _ _ => rfl
theorem Kp.tr {I I' I2 : aI} (h : Kp I I') (h2 : Kp I' I2) : Kp I I2 := fun a k h0 => (h2 a k h0).trans (h a k h0)
theorem Kp.set {I I' : aI} {a : Nat} {k v : Int} (h : Kp I I') (hs : scr a k = true) : Kp I (mset I' a k v) := fun b j h0 => by
  by_cases e : b = a ∧ j = k
  · rw [e.1, e.2, hs] at h0
    cases h0
  · rw [mset, if_neg e]
    exact h b j h0
theorem Kp.c {I I' : aI} {a : Nat} (h : Kp I I') (hs : ∀ k, scr a k = false) : I' a = I a := funext fun k => h a k (hs k)
theorem sc (a : Nat) (h : a ≠ 19 ∧ a ≠ 34 ∧ (a < 45 ∨ 62 < a ∨ a = 57 ∨ a = 48 ∨ a = 49) ∧ a ≠ 10 ∧ a ≠ 31) (k : Int) : scr a k = false := by
  unfold scr
  simp [h]
  omega
theorem RW.kp {A A' B : aI} {S : Int → Int} (h : RW A B S) (hK : ∀ a k, a < 45 → scr a k = false → A' a k = A a k) : RW A' B S := by
  obtain ⟨h1, h2, h3, h4, h5, h6, h7, h8⟩ := h
  have hc : ∀ a : Nat, (a < 45 ∧ a ≠ 19 ∧ a ≠ 34 ∧ a ≠ 10 ∧ a ≠ 31) → A' a = A a := fun a ha => funext fun k => hK a k ha.1 (sc a (by omega) k)
  exact ⟨h1.fr (congrFun (hc 1 (by decide)) 0) rfl,
    h2.fr (congrFun (hc 2 (by decide)) 0) (hc 3 (by decide)) (hc 4 (by decide)) (hc 5 (by decide)) (hc 6 (by decide)) (hc 7 (by decide)) (hc 8 (by decide)) (fun _ _ => rfl) (Int.le_refl _),
    h3.fr (congrFun (hc 9 (by decide)) 0) (hc 11 (by decide)) (hc 13 (by decide)) (hc 14 (by decide)) (hc 15 (by decide)) (hc 16 (by decide)) (hc 17 (by decide)) (hc 18 (by decide)) (fun _ _ => rfl),
    h4.fr (hK 10 0 (by decide) (by decide)) (hc 12 (by decide)) (fun _ _ => rfl),
    h5.fr (congrFun (hc 2 (by decide)) 0) (hc 3 (by decide)) (hc 4 (by decide)) (congrFun (hc 20 (by decide)) 0) (hc 21 (by decide)) (hc 22 (by decide)) (hc 23 (by decide)) (hc 24 (by decide)) rfl (hc 26 (by decide)) (hc 27 (by decide)) (hc 28 (by decide)) (hc 29 (by decide)) (hc 30 (by decide)) (fun _ _ => rfl) (Int.le_refl _),
    h6.fr (congrFun (hc 2 (by decide)) 0) (hc 3 (by decide)) (hc 4 (by decide)) (hK 31 1 (by decide) (by decide)) (hK 31 2 (by decide) (by decide)) (hK 31 5 (by decide) (by decide)) rfl rfl (hc 33 (by decide)) (fun _ _ => rfl),
    h7.fr (congrFun (hc 35 (by decide)) 0) (hc 36 (by decide)) (hc 37 (by decide)) (hc 38 (by decide)) (hc 39 (by decide)) (hc 7 (by decide)) (fun _ _ => rfl) (Int.le_refl _),
    h8.fr (congrFun (hc 40 (by decide)) 0) (congrFun (hc 40 (by decide)) 1) (hc 41 (by decide)) (hc 42 (by decide)) (hc 43 (by decide)) (hc 44 (by decide)) (fun _ _ => rfl)⟩
theorem Cache.fr {I I' : aI} (h : Cache I) (h1 : I' 48 = I 48) (h2 : I' 49 = I 49) : Cache I' := by
  unfold Cache
  rw [h1, h2]
  exact h
theorem LV.kp {b : Bool} {G : aG} {I I' J : aI} (h : LV b G I J) (hK : Kp I I') : LV b G I' J := by
  obtain ⟨h1, h2, h3, h4, h5⟩ := h
  have e57 : I' 57 = I 57 := hK.c (sc 57 (by decide))
  have e63 : I' 63 = I 63 := hK.c (sc 63 (by decide))
  refine ⟨h1, e57 ▸ h2.kp fun a k _ hs => hK a k hs, h3.fr (hK.c (sc 48 (by decide))) (hK.c (sc 49 (by decide))), (hK 56 19 (by decide)).trans h4, fun hb => ?_⟩
  rw [e63]
  refine (h5 hb).kp fun a k ha _ => hK (a + 63) k (sc (a + 63) (by omega) k)
/-- the script stays -/
def Sc (I I' : aI) : Prop := I' 1060 = I 1060 ∧ I' 1061 = I 1061
theorem Sc.kp {I I' : aI} (hK : Kp I I') : Sc I I' := ⟨hK.c (sc 1060 (by decide)), hK.c (sc 1061 (by decide))⟩
