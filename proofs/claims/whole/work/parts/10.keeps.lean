/-! what a step keeps, and the whole step -/
section OK
variable {m pc pc' : Nat} {L L' : List (Option aV)} {st st' : List aV} {G G' : aG} {I J I' J' : aI}
def pK (m : Nat) (G : aG) (I : aI) (L' : List (Option aV)) (st' : List aV) (G' : aG) (I' J' : aI) : Prop := sOk m L' st' G' I' J' ∧ G.1 ≤ G'.1 ∧ ∀ a, 1000 ≤ a → ∀ k, I' a k = I a k
theorem k_push {v : aV} (hs : sOk m L st G I J) (hv : vOk G.1 v) : sOk m L (v :: st) G I J := ⟨hs.1, fun u hu => by
  rcases List.mem_cons.mp hu with rfl | hu
  · exact hv
  · exact hs.2.1 u hu, hs.2.2⟩
theorem k_tail {v : aV} (hs : sOk m L (v :: st) G I J) : sOk m L st G I J := ⟨hs.1, fun u hu => hs.2.1 u (List.mem_cons_of_mem _ hu), hs.2.2⟩
theorem k_id (hs : sOk m L st G I J) : pK m G I L st G I J := ⟨hs, Nat.le_refl _, fun _ _ _ => rfl⟩
theorem k_set {v : aV} {k : Nat} (hs : sOk m L st G I J) (hk : stK m L k = true) (hv : vOk G.1 v) (hc : cat1 v = true) : sOk m (L.set k (some v)) st G I J := by
  refine ⟨fun j u hj => ?_, hs.2.1, hs.2.2.1, fun j x hj => ?_, by rw [List.length_set]; exact hs.2.2.2.2⟩
  · rw [lG_set (stK_lt hk)] at hj
    by_cases h : j = k
    · rw [if_pos h] at hj; cases hj; exact hv
    · rw [if_neg h] at hj; exact hs.1 j u hj
  · rw [lG_set (stK_lt hk)] at hj
    by_cases h : j = k
    · rw [if_pos h] at hj; cases hj; cases hc
    · rw [if_neg h] at hj; exact hs.2.2.2.1 j x hj
theorem k_memI {a : Nat} {k x : Int} (hm : mOk G I J) (ha : a < G.1) (hx : ok32 x) (h3 : (SH a).1 = 3 → -128 ≤ x ∧ x ≤ 127) : mOk G (mset I a k x) J := by
  obtain ⟨m1, m2, m3, m4, m5, m6⟩ := hm
  refine ⟨m1, fun b j => ?_, m3, m4, fun b hb hb2 j => ?_, fun b j hb => ?_⟩
  · unfold mset
    split
    · exact hx
    · exact m2 b j
  · rw [mset_ne (Or.inl (by omega))]
    exact m5 b hb hb2 j
  · unfold mset
    split
    · rename_i h; rw [h.1] at hb; exact h3 hb
    · exact m6 b j hb
theorem k_memJ {a : Nat} {k x : Int} (hm : mOk G I J) (ha : a < G.1) (hx : ok64 x) : mOk G I (mset J a k x) := by
  obtain ⟨m1, m2, m3, m4, m5, m6⟩ := hm
  refine ⟨m1, m2, fun b j => ?_, m4, fun b hb hb2 j => ?_, m6⟩
  · unfold mset
    split
    · exact hx
    · exact m3 b j
  · rw [mset_ne (Or.inl (by omega))]
    exact m5 b hb hb2 j
theorem k_memG {a : Nat} {k : Int} {r : Option Nat} (hm : mOk G I J) (ha : a < G.1) (hr : ∀ b, r = some b → b < G.1 ∨ (1000 ≤ b ∧ b ≠ 1050)) : mOk (gset G a k r) I J := by
  obtain ⟨m1, m2, m3, m4, m5, m6⟩ := hm
  refine ⟨m1, m2, m3, fun b j q hq => ?_, fun b hb hb2 j => ?_, m6⟩
  · unfold gset at hq
    dsimp only at hq
    split at hq
    · exact hr q hq
    · exact m4 b j q hq
  · refine ⟨(m5 b hb hb2 j).1, (m5 b hb hb2 j).2.1, ?_⟩
    unfold gset
    dsimp only
    rw [if_neg (fun z => by have h1 : G.1 ≤ b := hb; omega)]
    exact (m5 b hb hb2 j).2.2
theorem k_mem {G' : aG} {I' J' : aI} (hs : sOk m L st G I J) (hg : G'.1 = G.1) (hm : mOk G' I' J') : sOk m L st G' I' J' := ⟨fun k v h => by rw [hg]; exact hs.1 k v h, fun v h => by rw [hg]; exact hs.2.1 v h, hm, hs.2.2.2⟩
theorem k_cI {a : Nat} {k x : Int} (ha : a < 1000) : ∀ b, 1000 ≤ b → ∀ j, mset I a k x b j = I b j := fun b hb j => mset_ne (Or.inl (by omega))
theorem k_fval {kd a k : Nat} (hm : mOk G I J) : vOk G.1 (fval kd a k G I J) := by
  unfold fval
  split
  · exact hm.2.2.1 _ _
  · split
    · cases hb : G.2 a k with
      | none => trivial
      | some b => have := hm.2.2.2.1 a k b hb; show b < G.1 ∨ 1000 ≤ b; omega
    · exact hm.2.1 _ _
theorem k_getD : ∀ (l : List Int), l.all (fun x => decide (ok32 x)) = true → ∀ n, ok32 (l.getD n 0) := by
  intro l h n
  rw [List.getD_eq_getElem?_getD]
  cases hn : l[n]? with
  | none => exact n_ok0
  | some x => exact of_decide_eq_true (List.all_eq_true.mp h x (List.mem_of_getElem? hn))
theorem k_KI (a : Nat) (j : Int) : ok32 (KI a j) := by
  unfold KI
  split
  · exact k_getD _ (by decide) _
  · split
    · exact k_getD _ (by decide) _
    · refine k_getD _ ?_ _
      rw [List.getD_eq_getElem?_getD]
      have h : strB.all (fun l => l.all (fun x => decide (ok32 x))) = true := by decide +kernel
      cases hn : strB[a - 1012]? with
      | none => rfl
      | some l => exact List.all_eq_true.mp h l (List.mem_of_getElem? hn)
theorem k_sh2 (a : Nat) : (SH a).2 < 100000 := by
  unfold SH
  split
  · have h : shpL.all (fun e => decide (e.2 < 100000)) = true := by decide +kernel
    rw [List.getD_eq_getElem?_getD]
    cases hn : shpL[a]? with
    | none => decide
    | some l => exact of_decide_eq_true (List.all_eq_true.mp h l (List.mem_of_getElem? hn))
  · (repeat' split) <;> first | decide | (dsimp only; omega) | skip
    dsimp only
    have h : strB.all (fun l => decide (l.length < 100000)) = true := by decide +kernel
    rw [List.getD_eq_getElem?_getD]
    cases hn : strB[a - 1012]? with
    | none => decide
    | some l => exact of_decide_eq_true (List.all_eq_true.mp h l (List.mem_of_getElem? hn))
theorem k_shI {n : Nat} (a : Nat) : vOk n (vI ((SH a).2 : Int)) := by
  have h2 := k_sh2 a
  exact ⟨by omega, by omega⟩
theorem y_B {f : Int → Int → Int} (hs : sOk m L st G I J) (h : exB f pc L st G I J = some (.inl (pc', L', st', G', I', J'))) : pK m G I L' st' G' I' J' := by
  unfold exB at h
  split at h
  · split at h
    · rename_i hh
      unfold nx at h
      cases h
      exact k_id (k_push (k_tail (k_tail hs)) hh)
    · cases h
  · cases h
theorem y_Bu {f : Int → Int → Int} (hf : ∀ x y, ok32 (f x y)) (hs : sOk m L st G I J) (h : exBu f pc L st G I J = some (.inl (pc', L', st', G', I', J'))) : pK m G I L' st' G' I' J' := by
  unfold exBu at h
  split at h
  · unfold nx at h
    cases h
    exact k_id (k_push (k_tail (k_tail hs)) (hf _ _))
  · cases h
theorem y_D0 (hs : sOk m L st G I J) (h : exD (fun x y => x / y) pc L st G I J = some (.inl (pc', L', st', G', I', J'))) : pK m G I L' st' G' I' J' := by
  unfold exD at h
  split at h
  · split at h
    · rename_i hh
      unfold nx at h
      cases h
      exact k_id (k_push (k_tail (k_tail hs)) (n_dok (v_2 hs) hh.1 hh.2))
    · cases h
  · cases h
theorem y_D1 (hs : sOk m L st G I J) (h : exD (fun x y => x % y) pc L st G I J = some (.inl (pc', L', st', G', I', J'))) : pK m G I L' st' G' I' J' := by
  unfold exD at h
  split at h
  · split at h
    · rename_i hh
      unfold nx at h
      cases h
      exact k_id (k_push (k_tail (k_tail hs)) (n_rok (v_1 hs) hh.2))
    · cases h
  · cases h
theorem y_L {f : Int → Int → Int} (hs : sOk m L st G I J) (h : exL f pc L st G I J = some (.inl (pc', L', st', G', I', J'))) : pK m G I L' st' G' I' J' := by
  unfold exL at h
  split at h
  · split at h
    · rename_i hh
      unfold nx at h
      cases h
      exact k_id (k_push (k_tail (k_tail hs)) hh)
    · cases h
  · cases h
theorem y_Lu {f : Int → Int → Int} (hf : ∀ x y, ok64 (f x y)) (hs : sOk m L st G I J) (h : exLu f pc L st G I J = some (.inl (pc', L', st', G', I', J'))) : pK m G I L' st' G' I' J' := by
  unfold exLu at h
  split at h
  · unfold nx at h
    cases h
    exact k_id (k_push (k_tail (k_tail hs)) (hf _ _))
  · cases h
theorem y_Ls {f : Int → Int → Int} (hf : ∀ x y, ok64 (f x y)) (hs : sOk m L st G I J) (h : exLs f pc L st G I J = some (.inl (pc', L', st', G', I', J'))) : pK m G I L' st' G' I' J' := by
  unfold exLs at h
  split at h
  · unfold nx at h
    cases h
    exact k_id (k_push (k_tail (k_tail hs)) (hf _ _))
  · cases h
theorem y_I1 {f : Int → Int} (hf : ∀ x, ok32 (f x)) (hs : sOk m L st G I J) (h : exI1 f pc L st G I J = some (.inl (pc', L', st', G', I', J'))) : pK m G I L' st' G' I' J' := by
  unfold exI1 at h
  split at h
  · unfold nx at h
    cases h
    exact k_id (k_push (k_tail hs) (hf _))
  · cases h
theorem y_ldI {k q : Nat} (hs : sOk m L st G I J) (h : ldI k q L st G I J = some (.inl (pc', L', st', G', I', J'))) : pK m G I L' st' G' I' J' := by
  unfold ldI at h
  split at h
  · rename_i hg
    unfold nx at h
    cases h
    exact k_id (k_push hs (hs.1 _ _ hg))
  · cases h
theorem y_ldL {k q : Nat} (hs : sOk m L st G I J) (h : ldL k q L st G I J = some (.inl (pc', L', st', G', I', J'))) : pK m G I L' st' G' I' J' := by
  unfold ldL at h
  split at h
  · rename_i hg
    unfold nx at h
    cases h
    exact k_id (k_push hs (hs.1 _ _ hg))
  · cases h
theorem y_ldA {k q : Nat} (hs : sOk m L st G I J) (h : ldA k q L st G I J = some (.inl (pc', L', st', G', I', J'))) : pK m G I L' st' G' I' J' := by
  unfold ldA at h
  split at h
  · rename_i hg
    split at h
    · cases h
    · unfold nx at h
      cases h
      exact k_id (k_push hs (hs.1 _ _ hg))
  · cases h
theorem y_psI {v : Int} {q : Nat} (hs : sOk m L st G I J) (h : psI v q L st G I J = some (.inl (pc', L', st', G', I', J'))) : pK m G I L' st' G' I' J' := by
  unfold psI at h
  split at h
  · rename_i hv
    unfold nx at h
    cases h
    exact k_id (k_push hs hv)
  · cases h
theorem y_stI {k q : Nat} (hs : sOk m L st G I J) (h : stI m k q L st G I J = some (.inl (pc', L', st', G', I', J'))) : pK m G I L' st' G' I' J' := by
  unfold stI at h
  split at h
  · split at h
    · rename_i hk
      unfold nx at h
      cases h
      exact k_id (k_set (k_tail hs) hk (v_1 hs) rfl)
    · cases h
  · cases h
theorem y_stA {k q : Nat} (hs : sOk m L st G I J) (h : stA m k q L st G I J = some (.inl (pc', L', st', G', I', J'))) : pK m G I L' st' G' I' J' := by
  unfold stA at h
  split at h
  · split at h
    · rename_i hk
      unfold nx at h
      cases h
      exact k_id (k_set (k_tail hs) hk.1 (v_1 hs) rfl)
    · cases h
  · cases h
theorem y_stL {k q : Nat} (hs : sOk m L st G I J) (h : stL m k q L st G I J = some (.inl (pc', L', st', G', I', J'))) : pK m G I L' st' G' I' J' := by
  unfold stL at h
  split at h
  · split at h
    · rename_i x st2 hh
      obtain ⟨g1, g2, g3, g4⟩ := hh
      unfold nx at h
      cases h
      have hv := v_1 hs
      have ht := k_tail hs
      have hlt : k < L.length := by omega
      refine k_id ⟨fun j u hj => ?_, ht.2.1, ht.2.2.1, fun j y hj => ?_, by rw [List.length_set, List.length_set]; exact ht.2.2.2.2⟩
      · rw [lG_set (by rw [List.length_set]; exact g1), lG_set hlt] at hj
        split at hj
        · cases hj
        · split at hj
          · cases hj; exact hv
          · exact ht.1 j u hj
      · rw [lG_set (by rw [List.length_set]; exact g1), lG_set hlt] at hj
        split at hj
        · cases hj
        · split at hj
          · rename_i q; rw [q]; exact g3
          · exact ht.2.2.2.1 j y hj
    · cases h
  · cases h
theorem y_get {i : Nat} (hs : sOk m L st G I J) (h : exGet m i pc L st G I J = some (.inl (pc', L', st', G', I', J'))) : pK m G I L' st' G' I' J' := by
  unfold exGet at h
  split at h
  · split at h
    · split at h
      · unfold nx at h
        cases h
        exact k_id (k_push (k_tail hs) (k_fval hs.2.2.1))
      · split at h
        · rename_i hh
          unfold nx at h
          cases h
          refine k_id (k_push (k_tail hs) ?_)
          split
          · show 1012 + _ < _ ∨ 1000 ≤ 1012 + _
            omega
          · exact n_ok0
        · cases h
    · cases h
  · cases h
theorem y_put {i : Nat} (hs : sOk m L st G I J) (h : exPut m i pc L st G I J = some (.inl (pc', L', st', G', I', J'))) : pK m G I L' st' G' I' J' := by
  unfold exPut at h
  split at h
  · split at h
    · split at h
      · rename_i hh
        obtain ⟨h0, h1, ha, hk, hfin⟩ := hh
        have hl := sh_lt (Nat.lt_of_le_of_lt (Nat.le_of_eq h0) (by decide))
        have ht := k_tail (k_tail hs)
        split at h
        · unfold nx at h
          cases h
          exact ⟨k_mem ht rfl (k_memI ht.2.2.1 ha (v_1 hs) (fun q => by omega)), Nat.le_refl _, k_cI hl⟩
        · split at h
          · unfold nx at h
            cases h
            exact ⟨k_mem ht rfl (k_memI ht.2.2.1 ha (v_1 hs) (fun q => by omega)), Nat.le_refl _, k_cI hl⟩
          · cases h
        · unfold nx at h
          cases h
          exact ⟨k_mem ht rfl (k_memJ ht.2.2.1 ha (v_1 hs)), Nat.le_refl _, fun _ _ _ => rfl⟩
        · split at h
          · cases h
          · rename_i hr
            unfold nx at h
            cases h
            refine ⟨k_mem ht rfl (k_memG ht.2.2.1 ha (fun b hb => ?_)), Nat.le_refl _, fun _ _ _ => rfl⟩
            have hv := v_1 hs
            subst hb
            have hb2 : b ≠ 1050 := fun q => hr (by rw [q])
            have hv2 : b < G.1 ∨ 1000 ≤ b := hv
            omega
        · cases h
      · cases h
    · cases h
  · cases h
theorem y_ALoad {kd : List Nat} (hs : sOk m L st G I J) (h : exALoad kd m pc L st G I J = some (.inl (pc', L', st', G', I', J'))) : pK m G I L' st' G' I' J' := by
  unfold exALoad at h
  split at h
  · have ht := k_tail (k_tail hs)
    split at h
    · split at h
      · unfold nx at h
        cases h
        exact k_id (k_push ht (ht.2.2.1.2.1 _ _))
      · cases h
    · split at h
      · split at h
        · unfold nx at h
          cases h
          exact k_id (k_push ht (ht.2.2.1.2.1 _ _))
        · cases h
      · split at h
        · unfold nx at h
          cases h
          exact k_id (k_push ht (k_KI _ _))
        · cases h
  · cases h
theorem y_LLoad (hs : sOk m L st G I J) (h : exLLoad pc L st G I J = some (.inl (pc', L', st', G', I', J'))) : pK m G I L' st' G' I' J' := by
  unfold exLLoad at h
  split at h
  · have ht := k_tail (k_tail hs)
    split at h
    · unfold nx at h
      cases h
      exact k_id (k_push ht (ht.2.2.1.2.2.1 _ _))
    · cases h
  · cases h
theorem y_IStore (hs : sOk m L st G I J) (h : exIStore pc L st G I J = some (.inl (pc', L', st', G', I', J'))) : pK m G I L' st' G' I' J' := by
  unfold exIStore at h
  split at h
  · have ht := k_tail (k_tail (k_tail hs))
    split at h
    · rename_i hh
      unfold nx at h
      cases h
      exact ⟨k_mem ht rfl (k_memI ht.2.2.1 hh.2.1 (v_1 hs) (fun q => by omega)), Nat.le_refl _, k_cI (sh_lt (by omega))⟩
    · cases h
  · cases h
theorem y_BStore (hs : sOk m L st G I J) (h : exBStore pc L st G I J = some (.inl (pc', L', st', G', I', J'))) : pK m G I L' st' G' I' J' := by
  unfold exBStore at h
  split at h
  · have ht := k_tail (k_tail (k_tail hs))
    split at h
    · rename_i hh
      unfold nx at h
      cases h
      exact ⟨k_mem ht rfl (k_memI ht.2.2.1 hh.2.1 (v_1 hs) (fun q => by omega)), Nat.le_refl _, k_cI (sh_lt (by omega))⟩
    · cases h
  · cases h
theorem y_LStore (hs : sOk m L st G I J) (h : exLStore pc L st G I J = some (.inl (pc', L', st', G', I', J'))) : pK m G I L' st' G' I' J' := by
  unfold exLStore at h
  split at h
  · have ht := k_tail (k_tail (k_tail hs))
    split at h
    · rename_i hh
      unfold nx at h
      cases h
      exact ⟨k_mem ht rfl (k_memJ ht.2.2.1 hh.2.1 (v_1 hs)), Nat.le_refl _, fun _ _ _ => rfl⟩
    · cases h
  · cases h
theorem y_Len (hs : sOk m L st G I J) (h : exLen m pc L st G I J = some (.inl (pc', L', st', G', I', J'))) : pK m G I L' st' G' I' J' := by
  unfold exLen at h
  split at h
  · have ht := k_tail hs
    split at h
    · unfold nx at h
      cases h
      exact k_id (k_push ht (k_shI _))
    · split at h
      · unfold nx at h
        cases h
        exact k_id (k_push ht (ht.2.2.1.2.1 _ _))
      · cases h
  · cases h
theorem y_Copy (hs : sOk m L st G I J) (h : exCopy pc L st G I J = some (.inl (pc', L', st', G', I', J'))) : pK m G I L' st' G' I' J' := by
  unfold exCopy at h
  split at h
  · have ht := k_tail (k_tail (k_tail (k_tail (k_tail hs))))
    obtain ⟨m1, m2, m3, m4, m5, m6⟩ := ht.2.2.1
    split at h
    · rename_i hh
      obtain ⟨g1, g2, g3, g4, g5, g6, g7, g8, g9⟩ := hh
      split at h
      · rename_i hk
        unfold nx at h
        cases h
        refine ⟨k_mem ht rfl ⟨m1, fun q j => ?_, m3, m4, fun q hq hq2 j => ?_, fun q j hq => ?_⟩, Nat.le_refl _, fun q hq j => mcpy_ne ?_⟩
        · unfold mcpy
          split
          · exact m2 _ _
          · exact m2 _ _
        · rw [mcpy_ne (by omega)]
          exact m5 q hq hq2 j
        · unfold mcpy
          split
          · rename_i hz
            rw [hz.1, ← g1] at hq
            exact m6 _ _ hq
          · exact m6 _ _ hq
        · omega
      · split at h
        · unfold nx at h
          cases h
          refine ⟨k_mem ht rfl ⟨m1, m2, fun q j => ?_, m4, fun q hq hq2 j => ?_, m6⟩, Nat.le_refl _, fun _ _ _ => rfl⟩
          · unfold mcpy
            split
            · exact m3 _ _
            · exact m3 _ _
          · rw [mcpy_ne (by omega)]
            exact m5 q hq hq2 j
        · cases h
    · cases h
  · cases h
theorem y_Mx {b : Bool} (hs : sOk m L st G I J) (h : exMx b pc L st G I J = some (.inl (pc', L', st', G', I', J'))) : pK m G I L' st' G' I' J' := by
  unfold exMx at h
  split at h
  · split at h
    · unfold nx at h
      cases h
      refine k_id (k_push (k_tail (k_tail hs)) ?_)
      have h1 : ok32 _ := v_1 hs
      have h2 : ok32 _ := v_2 hs
      cases b
      · show ok32 (min _ _)
        exact ⟨by omega, by omega⟩
      · show ok32 (max _ _)
        exact ⟨by omega, by omega⟩
    · cases h
  · cases h
theorem k_new (hs : sOk m L st G I J) (hn : G.1 < 1000) : sOk m L (vR G.1 :: st) (G.1 + 1, G.2) I J := by
  obtain ⟨h1, h2, ⟨m1, m2, m3, m4, m5, m6⟩, h4⟩ := hs
  have up : ∀ v, vOk G.1 v → vOk (G.1 + 1) v := by
    intro v hv
    match v, hv with
    | .inl x, hv => exact hv
    | .inr (.inl x), hv => exact hv
    | .inr (.inr none), hv => trivial
    | .inr (.inr (some a)), hv => exact hv.imp (fun q => by omega) id
  refine ⟨fun k v h => up v (h1 k v h), fun v hv => ?_, ⟨by show G.1 + 1 ≤ 1000; omega, m2, m3, fun a k b hb => ?_, fun a ha ha2 k => m5 a (by have : G.1 + 1 ≤ a := ha; omega) ha2 k, m6⟩, h4⟩
  · rcases List.mem_cons.mp hv with rfl | hv
    · exact Or.inl (by show G.1 < G.1 + 1; omega)
    · exact up v (h2 v hv)
  · have := m4 a k b hb
    show b < G.1 + 1 ∨ _
    omega
theorem y_New {i : Nat} (hs : sOk m L st G I J) (h : exNew m i pc L st G I J = some (.inl (pc', L', st', G', I', J'))) : pK m G I L' st' G' I' J' := by
  unfold exNew at h
  split at h
  · split at h
    · rename_i hh
      unfold nx at h
      cases h
      exact ⟨k_new hs hh.2, Nat.le_succ _, fun _ _ _ => rfl⟩
    · cases h
  · cases h
theorem y_NewA {t : ArrayType} (hs : sOk m L st G I J) (h : exNewA t pc L st G I J = some (.inl (pc', L', st', G', I', J'))) : pK m G I L' st' G' I' J' := by
  unfold exNewA at h
  split at h
  · split at h
    · rename_i hh
      unfold nx at h
      cases h
      exact ⟨k_new (k_tail hs) hh.2.2.2.2, Nat.le_succ _, fun _ _ _ => rfl⟩
    · cases h
  · cases h
theorem y_brn {b : Bool} {off : Int} (hs : sOk m L st G I J) (h : brn b pc off L st G I J = some (.inl (pc', L', st', G', I', J'))) : pK m G I L' st' G' I' J' := by
  unfold brn at h
  split at h
  · split at h
    · unfold nx at h
      cases h
      exact k_id hs
    · unfold nx at h
      cases h
      exact k_id hs
  · cases h
end OK
