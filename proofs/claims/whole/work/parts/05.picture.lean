/-! the picture: what the heap holds when the small machine's memory is G, I, J -/
def cv (zv : Value) (ρ : Nat → Nat) : aV → Value
  | .inl x => .int (Int32.ofInt x)
  | .inr (.inl x) => .long (Int64.ofInt x)
  | .inr (.inr none) => .null
  | .inr (.inr (some a)) => if a = 1050 then zv else .ref (ρ a)
def zF (ρ : Nat → Nat) (G : aG) (I J : aI) (a kd : Nat) (k : Nat) : Value := if kd = 1 then .long (Int64.ofInt (J a k)) else if kd = 2 then va_rf ((G.2 a k).map ρ) else .int (Int32.ofInt (I a k))
def zE (cA : Nat → ClassId) (ρ : Nat → Nat) (G : aG) (I J : aI) (a : Nat) : va_E :=
  if (SH a).1 = 0 then .inr ((SH a).2, (List.range (nfd (SH a).2)).map (fun k => zF ρ G I J a (fkd (SH a).2 k).1 k))
  else if (SH a).1 = 2 then .inl (cA 2, ((SH a).2, .inr (.inl (fun j => Int64.ofInt (J a (j : Int))))))
  else .inl (cA (SH a).1, ((SH a).2, .inl (fun j => Int32.ofInt (I a (j : Int)))))
def zW (cA : Nat → ClassId) (ρ : Nat → Nat) (G : aG) (I J : aI) : va_W := (List.range G.1).map (fun a => (ρ a, zE cA ρ G I J a))
theorem zW_at {cA : Nat → ClassId} {ρ : Nat → Nat} {G : aG} {I J : aI} {a : Nat} (h : a < G.1) : (zW cA ρ G I J)[a]? = some (ρ a, zE cA ρ G I J a) := by
  unfold zW
  rw [List.getElem?_map, List.getElem?_range h]
  rfl
theorem zW_len {cA : Nat → ClassId} {ρ : Nat → Nat} {G : aG} {I J : aI} : (zW cA ρ G I J).length = G.1 := by simp [zW]
theorem zW_set {cA : Nat → ClassId} {ρ : Nat → Nat} {G G' : aG} {I J I' J' : aI} {a : Nat} {e : va_E} (hG : G'.1 = G.1) (he : a < G.1 → zE cA ρ G' I' J' a = e) (ho : ∀ b, b ≠ a → zE cA ρ G' I' J' b = zE cA ρ G I J b) : (zW cA ρ G I J).set a (ρ a, e) = zW cA ρ G' I' J' := by
  apply List.ext_getElem?
  intro k
  rw [List.getElem?_set]
  by_cases hk : k < G.1
  · rw [zW_at (G := G') (by rw [hG]; exact hk)]
    by_cases hak : a = k
    · subst hak
      rw [if_pos rfl, if_pos (by rw [zW_len]; exact hk), he hk]
    · rw [if_neg hak, zW_at hk, ho k (fun h => hak h.symm)]
  · have h1 : (zW cA ρ G' I' J')[k]? = none := by rw [List.getElem?_eq_none_iff, zW_len, hG]; omega
    have h2 : (zW cA ρ G I J)[k]? = none := by rw [List.getElem?_eq_none_iff, zW_len]; omega
    rw [h1, h2, zW_len]
    by_cases hak : a = k
    · rw [if_pos hak, if_neg (by omega)]
    · rw [if_neg hak]
theorem mset_same {I : aI} {a : Nat} {k v : Int} : mset I a k v a k = v := by simp [mset]
theorem mset_ne {I : aI} {a b : Nat} {k j v : Int} (h : b ≠ a ∨ j ≠ k) : mset I a k v b j = I b j := by
  unfold mset
  rw [if_neg (fun q => by rcases h with h | h; exact h q.1; exact h q.2)]
theorem zE_otherI {cA : Nat → ClassId} {ρ : Nat → Nat} {G : aG} {I I' J : aI} {b : Nat} (h : ∀ j, I' b j = I b j) : zE cA ρ G I' J b = zE cA ρ G I J b := by
  unfold zE zF
  simp only [h]
theorem zE_otherJ {cA : Nat → ClassId} {ρ : Nat → Nat} {G : aG} {I J J' : aI} {b : Nat} (h : ∀ j, J' b j = J b j) : zE cA ρ G I J' b = zE cA ρ G I J b := by
  unfold zE zF
  simp only [h]
theorem zE_otherG {cA : Nat → ClassId} {ρ : Nat → Nat} {G G' : aG} {I J : aI} {b : Nat} (h : ∀ j, G'.2 b j = G.2 b j) : zE cA ρ G' I J b = zE cA ρ G I J b := by
  unfold zE zF
  simp only [h]
/-- an object's cell, a field changed -/
theorem zE_fld {cA : Nat → ClassId} {ρ : Nat → Nat} {G G' : aG} {I J I' J' : aI} {a k : Nat} {v : Value} (h0 : (SH a).1 = 0) (hk : k < nfd (SH a).2) (hv : zF ρ G' I' J' a (fkd (SH a).2 k).1 k = v) (ho : ∀ j, j ≠ k → zF ρ G' I' J' a (fkd (SH a).2 j).1 j = zF ρ G I J a (fkd (SH a).2 j).1 j) :
    zE cA ρ G' I' J' a = .inr ((SH a).2, ((List.range (nfd (SH a).2)).map (fun k => zF ρ G I J a (fkd (SH a).2 k).1 k)).set k v) := by
  unfold zE
  rw [if_pos h0]
  congr 2
  apply List.ext_getElem?
  intro j
  rw [List.getElem?_set, List.getElem?_map]
  by_cases hj : j < nfd (SH a).2
  · rw [List.getElem?_range hj]
    by_cases hkj : k = j
    · subst hkj
      rw [if_pos rfl, if_pos (by simpa using hj)]
      simp only [Option.map_some, hv]
    · rw [if_neg hkj, List.getElem?_map, List.getElem?_range hj]
      simp only [Option.map_some, ho j (fun h => hkj h.symm)]
  · have e : (List.range (nfd (SH a).2))[j]? = none := by rw [List.getElem?_eq_none_iff]; simp; omega
    rw [e, if_neg (by omega), List.getElem?_map, e]
    rfl
def lH (zv : Value) (ρ : Nat → Nat) (ls : Array Slot) (nL : Nat) (L : List (Option aV)) : Prop := ls.size = nL ∧ lv_wf ls ∧ ∀ k v, lG L k = some v → ls[k]? = some (.val (cv zv ρ v))
def lvL (zv : Value) (ρ : Nat → Nat) (L : List (Option aV)) : List (Nat × Value) := (List.range L.length).filterMap (fun k => (lG L k).map (fun v => (k, cv zv ρ v)))
theorem lG_lt {L : List (Option aV)} {k : Nat} {v : aV} (h : lG L k = some v) : k < L.length := by
  unfold lG at h
  rcases Nat.lt_or_ge k L.length with q | q
  · exact q
  · rw [List.getElem?_eq_none_iff.mpr q] at h
    cases h
theorem lvL_mem {zv : Value} {ρ : Nat → Nat} {L : List (Option aV)} {q : Nat × Value} : q ∈ lvL zv ρ L ↔ ∃ v, lG L q.1 = some v ∧ q.2 = cv zv ρ v := by
  unfold lvL
  rw [List.mem_filterMap]
  constructor
  · rintro ⟨k, -, h⟩
    cases hv : lG L k with
    | none => rw [hv] at h; cases h
    | some v => rw [hv] at h; cases h; exact ⟨v, hv, rfl⟩
  · rintro ⟨v, h1, h2⟩
    refine ⟨q.1, List.mem_range.mpr (lG_lt h1), ?_⟩
    rw [h1]
    show some (q.1, cv zv ρ v) = some q
    rw [← h2]
theorem lH.has {zv : Value} {ρ : Nat → Nat} {ls : Array Slot} {nL : Nat} {L : List (Option aV)} (h : lH zv ρ ls nL L) : lv_has ls nL (lvL zv ρ L) := ⟨h.1, h.2.1, fun q hq => by
  obtain ⟨v, h1, h2⟩ := lvL_mem.mp hq
  rw [h2]
  exact h.2.2 _ _ h1⟩
theorem lG_set {L : List (Option aV)} {k j : Nat} {o : Option aV} (hk : k < L.length) : lG (L.set k o) j = if j = k then o else lG L j := by
  unfold lG
  rw [List.getElem?_set]
  by_cases h : k = j
  · subst h
    rw [if_pos rfl, if_pos hk, if_pos rfl]
    rfl
  · rw [if_neg h, if_neg (fun q => h q.symm)]
theorem cv_cat {zv : Value} {ρ : Nat → Nat} {v : aV} (hz : zv.category = 1) : (cv zv ρ v).category = if cat1 v then 1 else 2 := by
  match v with
  | .inl x => rfl
  | .inr (.inl x) => rfl
  | .inr (.inr none) => rfl
  | .inr (.inr (some a)) =>
    show (if a = 1050 then zv else Value.ref (ρ a)).category = 1
    by_cases h : a = 1050
    · rw [if_pos h]; exact hz
    · rw [if_neg h]; rfl
/-- behind a store of one word -/
theorem lH.put {zv : Value} {ρ : Nat → Nat} {ls' : Array Slot} {nL m : Nat} {L : List (Option aV)} {i : Nat} {v : aV} {w : Value} (hz : zv.category = 1) (hlng : ∀ k x, lG L k = some (.inr (.inl x)) → lngT m k = true) (hs : stK m L i = true) (hw : w = cv zv ρ v)
    (h : lv_has ls' nL ((i, w) :: (lvL zv ρ L).filter (fun q => !(q.1 == i) && !(q.1 + 1 == i && q.2.category == 2)))) : lH zv ρ ls' nL (L.set i (some v)) := by
  unfold stK at hs
  simp only [Bool.and_eq_true, decide_eq_true_eq, Bool.or_eq_true, beq_iff_eq, Bool.not_eq_true'] at hs
  obtain ⟨⟨hi, hp⟩, -⟩ := hs
  refine ⟨h.1, h.2.1, fun k u hk => ?_⟩
  rw [lG_set hi] at hk
  by_cases hki : k = i
  · subst hki
    rw [if_pos rfl] at hk
    cases hk
    rw [← hw]
    exact h.2.2 (k, w) List.mem_cons_self
  · rw [if_neg hki] at hk
    refine h.2.2 (k, cv zv ρ u) (List.mem_cons_of_mem _ (List.mem_filter.mpr ⟨lvL_mem.mpr ⟨u, hk, rfl⟩, ?_⟩))
    have h1 : (k == i) = false := beq_false_of_ne hki
    rw [h1]
    by_cases hk1 : k + 1 = i
    · have hc : cat1 u = true := by
        match u, hk with
        | .inl x, _ => rfl
        | .inr (.inr r), _ => rfl
        | .inr (.inl x), hk =>
          have h2 := hlng k x hk
          rcases hp with h3 | h3
          · omega
          · rw [show i - 1 = k by omega, h2] at h3
            cases h3
      show (!false && !(k + 1 == i && (cv zv ρ u).category == 2)) = true
      rw [cv_cat hz, hc]
      simp
    · have h2 : (k + 1 == i) = false := beq_false_of_ne hk1
      show (!false && !(k + 1 == i && _)) = true
      rw [h2]
      rfl
/-- behind a store of a long -/
theorem lH.putL {zv : Value} {ρ : Nat → Nat} {ls' : Array Slot} {nL m : Nat} {L : List (Option aV)} {i : Nat} {x : Int} (hz : zv.category = 1) (hlng : ∀ k x, lG L k = some (.inr (.inl x)) → lngT m k = true) (hi : i + 1 < L.length) (hp : i = 0 ∨ lngT m (i - 1) = false)
    (h : lv_has ls' nL ((i, Value.long (Int64.ofInt x)) :: (lvL zv ρ L).filter (fun q => !(q.1 == i) && (!(q.1 == i + 1) && !(q.1 + 1 == i && q.2.category == 2))))) : lH zv ρ ls' nL ((L.set i (some (.inr (.inl x)))).set (i + 1) none) := by
  refine ⟨h.1, h.2.1, fun k u hk => ?_⟩
  rw [lG_set (by simpa using hi), lG_set (by omega)] at hk
  by_cases hki1 : k = i + 1
  · rw [if_pos hki1] at hk; cases hk
  · rw [if_neg hki1] at hk
    by_cases hki : k = i
    · subst hki
      rw [if_pos rfl] at hk
      cases hk
      exact h.2.2 (k, _) List.mem_cons_self
    · rw [if_neg hki] at hk
      refine h.2.2 (k, cv zv ρ u) (List.mem_cons_of_mem _ (List.mem_filter.mpr ⟨lvL_mem.mpr ⟨u, hk, rfl⟩, ?_⟩))
      have h1 : (k == i) = false := beq_false_of_ne hki
      have h2 : (k == i + 1) = false := beq_false_of_ne hki1
      show (!(k == i) && (!(k == i + 1) && !(k + 1 == i && (cv zv ρ u).category == 2))) = true
      rw [h1, h2]
      by_cases hk1 : k + 1 = i
      · have hc : cat1 u = true := by
          match u, hk with
          | .inl x, _ => rfl
          | .inr (.inr r), _ => rfl
          | .inr (.inl x), hk =>
            have h2 := hlng k x hk
            rcases hp with h3 | h3
            · omega
            · rw [show i - 1 = k by omega, h2] at h3
              cases h3
        rw [cv_cat hz, hc]
        simp
      · have h3 : (k + 1 == i) = false := beq_false_of_ne hk1
        rw [h3]
        rfl
/-- values that the machine may have -/
def vOk (n : Nat) : aV → Prop
  | .inl x => ok32 x
  | .inr (.inl x) => ok64 x
  | .inr (.inr none) => True
  | .inr (.inr (some a)) => a < n ∨ 1000 ≤ a
def mOk (G : aG) (I J : aI) : Prop := G.1 ≤ 1000 ∧ (∀ a k, ok32 (I a k)) ∧ (∀ a k, ok64 (J a k)) ∧ (∀ a k b, G.2 a k = some b → b < G.1 ∨ (1000 ≤ b ∧ b ≠ 1050)) ∧ (∀ a, G.1 ≤ a → a < 1000 → ∀ k, I a k = 0 ∧ J a k = 0 ∧ G.2 a k = none) ∧ ∀ a k, (SH a).1 = 3 → -128 ≤ I a k ∧ I a k ≤ 127
def sOk (m : Nat) (L : List (Option aV)) (st : List aV) (G : aG) (I J : aI) : Prop := (∀ k v, lG L k = some v → vOk G.1 v) ∧ (∀ v ∈ st, vOk G.1 v) ∧ mOk G I J ∧ (∀ k x, lG L k = some (.inr (.inl x)) → lngT m k = true) ∧ L.length = mxl m
def zExt (ρ ρ' : Nat → Nat) (n : Nat) : Prop := ∀ a, a < n ∨ 1000 ≤ a → ρ' a = ρ a
theorem zExt.rf {ρ : Nat → Nat} {n : Nat} : zExt ρ ρ n := fun _ _ => rfl
theorem cv_ext {zv : Value} {ρ ρ' : Nat → Nat} {n : Nat} {v : aV} (h : zExt ρ ρ' n) (hv : vOk n v) : cv zv ρ' v = cv zv ρ v := by
  match v, hv with
  | .inl x, _ => rfl
  | .inr (.inl x), _ => rfl
  | .inr (.inr none), _ => rfl
  | .inr (.inr (some a)), hv => show (if a = 1050 then zv else Value.ref (ρ' a)) = (if a = 1050 then zv else Value.ref (ρ a)); rw [h a hv]
theorem zE_ext {cA : Nat → ClassId} {ρ ρ' : Nat → Nat} {G : aG} {I J : aI} {a : Nat} (h : zExt ρ ρ' G.1) (hm : mOk G I J) : zE cA ρ' G I J a = zE cA ρ G I J a := by
  have e : ∀ k : Int, (G.2 a k).map ρ' = (G.2 a k).map ρ := by
    intro k
    cases hb : G.2 a k with
    | none => rfl
    | some b =>
      have := hm.2.2.2.1 a k b hb
      rw [Option.map_some, Option.map_some, h b (by omega)]
  unfold zE zF
  simp only [e]
theorem lH.ext {zv : Value} {ρ ρ' : Nat → Nat} {ls : Array Slot} {nL n : Nat} {L : List (Option aV)} (hx : zExt ρ ρ' n) (h : lH zv ρ ls nL L) (hv : ∀ k v, lG L k = some v → vOk n v) : lH zv ρ' ls nL L := ⟨h.1, h.2.1, fun k v hk => by rw [cv_ext hx (hv k v hk)]; exact h.2.2 k v hk⟩
def SZ (n : Nat) : Nat := ((List.range n).map (fun a => if (SH a).1 = 0 then nfd (SH a).2 else (SH a).2)).sum
theorem SZ_succ (n : Nat) : SZ (n + 1) = SZ n + (if (SH n).1 = 0 then nfd (SH n).2 else (SH n).2) := by simp [SZ, List.range_succ, List.sum_append]
theorem SZ_mono {a b : Nat} (h : a ≤ b) : SZ a ≤ SZ b := by
  induction h with
  | refl => exact Nat.le_refl _
  | step _ ih => rw [SZ_succ]; omega
