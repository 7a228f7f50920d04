/-! rows of the heap: fields, statics, arrays, new cells, the natives -/
theorem lk_mem {β : Type} : ∀ {l : List ((Nat × Nat) × β)} {a : Nat × Nat} {b : β}, l.lookup a = some b → (a, b) ∈ l
  | [], _, _, h => by cases h
  | (x, y) :: l, a, b, h => by
    rw [List.lookup_cons] at h
    by_cases hx : a = x
    · subst hx
      rw [beq_self_eq_true] at h
      cases h
      exact List.mem_cons_self
    · rw [beq_false_of_ne hx] at h
      exact List.mem_cons_of_mem _ (lk_mem h)
theorem zp_all {α β : Type} {l : List α} {q : List β} {f : α × β → Bool} (hlen : l.length = q.length) (h : (l.zip q).all f = true) {x : α} (hx : x ∈ l) : ∃ y, f (x, y) = true := by
  obtain ⟨i, hi⟩ := List.mem_iff_getElem?.mp hx
  have hl : i < l.length := (List.getElem?_eq_some_iff.mp hi).1
  have hq : i < q.length := by omega
  refine ⟨q[i], List.all_eq_true.mp h _ (List.mem_of_getElem? (i := i) ?_)⟩
  rw [List.getElem?_zip_eq_some]
  exact ⟨hi, List.getElem?_eq_getElem hq⟩
theorem in13 {ci : Nat} (h : ci < 13) : ci ∈ List.range 13 := List.mem_range.mpr h
theorem f_uws {ci : Nat} (h : ci < 13) : ∀ w ∈ u_ws (clT ci).1 (clT ci).2.1 (clT ci).2.2, w ∈ WSg := by
  intro w hw
  have h1 := List.all_eq_true.mp tb_uws ci (in13 h)
  simp only [Bool.and_eq_true, decide_eq_true_eq] at h1
  obtain ⟨y, hy⟩ := zp_all (by rw [h1.1]; simp [u_ws]) h1.2 hw
  exact inP_mem hy
theorem f_typ {ci : Nat} (h : ci < 13) : ∀ k, k < (clT ci).2.2 → parseFieldDescriptor ((clT ci).2.1 k).2.2.1 = some (tyC ci k) := fun k hk =>
  of_decide_eq_true (List.all_eq_true.mp (List.all_eq_true.mp tb_typ ci (in13 h)) k (List.mem_range.mpr hk))
theorem f_nam {ci : Nat} (h : ci < 13) : ∀ a, a < (clT ci).2.2 → ∀ b, b < (clT ci).2.2 → a ≠ b → ((clT ci).2.1 a).2.1 ≠ ((clT ci).2.1 b).2.1 := fun a ha b hb =>
  of_decide_eq_true (List.all_eq_true.mp (List.all_eq_true.mp (List.all_eq_true.mp tb_nam ci (in13 h)) a (List.mem_range.mpr ha)) b (List.mem_range.mpr hb))
theorem f_kin {ci : Nat} (h : ci < 13) : nfd ci = (clT ci).2.2 ∧ (clT ci).1 = oNm ci ∧ ∀ k, k < nfd ci → ((clT ci).2.1 k).2.2.2 = (fkd ci k).2 ∧ ((clT ci).2.1 k).1 = oNm ci ∧
    (((fkd ci k).1 = 0 ∧ tyC ci k = .int) ∨ ((fkd ci k).1 = 1 ∧ tyC ci k = .long) ∨ ((fkd ci k).1 = 2 ∧ isRT (some (tyC ci k)) = true) ∨ ((fkd ci k).1 = 3 ∧ tyC ci k = .boolean)) := by
  have h1 := List.all_eq_true.mp tb_kin ci (in13 h)
  simp only [Bool.and_eq_true, decide_eq_true_eq] at h1
  refine ⟨h1.1.1, h1.1.2, fun k hk => ?_⟩
  have h2 := List.all_eq_true.mp h1.2 k (List.mem_range.mpr (by rw [← h1.1.1]; exact hk))
  simp only [Bool.and_eq_true, decide_eq_true_eq] at h2
  refine ⟨h2.1.1, h2.1.2, ?_⟩
  have h3 := h2.2
  split at h3
  · exact Or.inl ⟨by assumption, of_decide_eq_true h3⟩
  · exact Or.inr (Or.inl ⟨by assumption, of_decide_eq_true h3⟩)
  · exact Or.inr (Or.inr (Or.inl ⟨by assumption, h3⟩))
  · exact Or.inr (Or.inr (Or.inr ⟨by assumption, of_decide_eq_true h3⟩))
  · cases h3
theorem f_fld {m i ci k : Nat} (h : fldR m i = some (ci, k)) : (ci < 13 ∧ k < nfd ci ∧ Jvm.Cond.fieldLink (oNm (oNum m)) i (clT ci).1 ((clT ci).2.1 k).2.1 ((clT ci).2.1 k).2.2.1 ∈ WSg) ∨
    (ci = 50 ∧ Jvm.Cond.fieldLink (oNm (oNum m)) i "java/lang/String" (if k = 0 then "value" else "coder") (if k = 0 then "[B" else "B") ∈ WSg) := by
  obtain ⟨y, hy⟩ := zp_all tb_fln tb_fld (lk_mem h)
  unfold fldOk at hy
  rw [Bool.or_eq_true] at hy
  rcases hy with hy | hy
  · simp only [Bool.and_eq_true, decide_eq_true_eq] at hy
    exact Or.inl ⟨hy.1.1, hy.1.2, inP_mem hy.2⟩
  · simp only [Bool.and_eq_true, beq_iff_eq] at hy
    exact Or.inr ⟨hy.1, inP_mem hy.2⟩
theorem sh_lt {a : Nat} (h : (SH a).1 < 10) : a < 1000 := by
  by_cases q : a < 1000
  · exact q
  · exfalso
    unfold SH at h
    rw [if_neg q] at h
    (repeat' split at h) <;> simp at h
theorem sh_10 {a : Nat} (h : (SH a).1 = 10) : a = 1000 ∨ a = 1001 := by
  unfold SH at h
  by_cases q : a < 1000
  · rw [if_pos q] at h
    exfalso
    have h1 : shpL.all (fun e => decide (e.1 ≠ 10)) = true := by decide +kernel
    by_cases q2 : a < shpL.length
    · have := of_decide_eq_true (List.all_eq_true.mp h1 _ (List.getElem_mem q2))
      rw [List.getD_eq_getElem?_getD, List.getElem?_eq_getElem q2] at h
      exact this h
    · rw [List.getD_eq_getElem?_getD, List.getElem?_eq_none_iff.mpr (by omega)] at h
      simp at h
  · rw [if_neg q] at h
    (repeat' split at h) <;> first | exact Or.inl (by assumption) | exact Or.inr (by assumption) | simp at h
theorem sh_11 {a : Nat} (h : (SH a).1 = 11) : 1002 ≤ a ∧ a < 1009 ∧ (SH a).2 = a - 1002 := by
  unfold SH at h ⊢
  by_cases q : a < 1000
  · rw [if_pos q] at h
    exfalso
    have h1 : shpL.all (fun e => decide (e.1 ≠ 11)) = true := by decide +kernel
    by_cases q2 : a < shpL.length
    · have := of_decide_eq_true (List.all_eq_true.mp h1 _ (List.getElem_mem q2))
      rw [List.getD_eq_getElem?_getD, List.getElem?_eq_getElem q2] at h
      exact this h
    · rw [List.getD_eq_getElem?_getD, List.getElem?_eq_none_iff.mpr (by omega)] at h
      simp at h
  · rw [if_neg q] at h ⊢
    by_cases q0 : a = 1000
    · rw [if_pos q0] at h; simp at h
    · rw [if_neg q0] at h ⊢
      by_cases q1 : a = 1001
      · rw [if_pos q1] at h; simp at h
      · rw [if_neg q1] at h ⊢
        by_cases q2 : a < 1009
        · rw [if_pos q2]; exact ⟨by omega, q2, by dsimp only⟩
        · rw [if_neg q2] at h
          (repeat' split at h) <;> simp at h
theorem sh_12 {a : Nat} (h : (SH a).1 = 12) : 1012 ≤ a ∧ a < 1019 ∧ (SH a).2 = (strB.getD (a - 1012) []).length := by
  unfold SH at h ⊢
  by_cases q : a < 1000
  · rw [if_pos q] at h
    exfalso
    have h1 : shpL.all (fun e => decide (e.1 ≠ 12)) = true := by decide +kernel
    by_cases q2 : a < shpL.length
    · have := of_decide_eq_true (List.all_eq_true.mp h1 _ (List.getElem_mem q2))
      rw [List.getD_eq_getElem?_getD, List.getElem?_eq_getElem q2] at h
      exact this h
    · rw [List.getD_eq_getElem?_getD, List.getElem?_eq_none_iff.mpr (by omega)] at h
      simp at h
  · rw [if_neg q] at h ⊢
    by_cases q0 : a = 1000
    · rw [if_pos q0] at h; simp at h
    · rw [if_neg q0] at h ⊢
      by_cases q1 : a = 1001
      · rw [if_pos q1] at h; simp at h
      · rw [if_neg q1] at h ⊢
        by_cases q2 : a < 1009
        · rw [if_pos q2] at h; simp at h
        · rw [if_neg q2] at h ⊢
          by_cases q3 : a < 1012
          · rw [if_pos q3] at h; simp at h
          · rw [if_neg q3] at h ⊢
            by_cases q4 : a < 1019
            · rw [if_pos q4]; exact ⟨by omega, q4, by dsimp only⟩
            · rw [if_neg q4] at h
              (repeat' split at h) <;> simp at h
theorem sh_cls {a : Nat} (h : (SH a).1 = 0) : (SH a).2 < 13 := by
  have hl := sh_lt (a := a) (by omega)
  unfold SH at h ⊢
  rw [if_pos hl] at h ⊢
  have h1 : shpL.all (fun e => decide (e.1 = 0 → e.2 < 13)) = true := by decide +kernel
  by_cases q2 : a < shpL.length
  · have := of_decide_eq_true (List.all_eq_true.mp h1 _ (List.getElem_mem q2))
    rw [List.getD_eq_getElem?_getD, List.getElem?_eq_getElem q2] at h ⊢
    exact this h
  · rw [List.getD_eq_getElem?_getD, List.getElem?_eq_none_iff.mpr (by omega)] at h
    simp at h
theorem zE_obj {cA : Nat → ClassId} {ρ : Nat → Nat} {G : aG} {I J : aI} {a : Nat} (h : (SH a).1 = 0) : zE cA ρ G I J a = .inr ((SH a).2, (List.range (nfd (SH a).2)).map (fun k => zF ρ G I J a (fkd (SH a).2 k).1 k)) := if_pos h
theorem zE_int {cA : Nat → ClassId} {ρ : Nat → Nat} {G : aG} {I J : aI} {a n : Nat} (h : (SH a).1 = n) (h0 : n ≠ 0) (h2 : n ≠ 2) : zE cA ρ G I J a = .inl (cA n, ((SH a).2, .inl (fun j => Int32.ofInt (I a (j : Int))))) := by
  unfold zE
  rw [if_neg (by omega), if_neg (by omega), h]
theorem zE_lng {cA : Nat → ClassId} {ρ : Nat → Nat} {G : aG} {I J : aI} {a : Nat} (h : (SH a).1 = 2) : zE cA ρ G I J a = .inl (cA 2, ((SH a).2, .inr (.inl (fun j => Int64.ofInt (J a (j : Int)))))) := by
  unfold zE
  rw [if_neg (by omega), if_pos h]
theorem cv_fval {zv : Value} {ρ : Nat → Nat} {G : aG} {I J : aI} {a kd k : Nat} (hm : mOk G I J) : cv zv ρ (fval kd a k G I J) = zF ρ G I J a kd k := by
  unfold fval zF
  by_cases h1 : kd = 1
  · rw [if_pos h1, if_pos h1]; rfl
  · rw [if_neg h1, if_neg h1]
    by_cases h2 : kd = 2
    · rw [if_pos h2, if_pos h2]
      cases hb : G.2 a k with
      | none => rfl
      | some b => exact if_neg (by have := hm.2.2.2.1 a k b hb; have := hm.1; omega)
    · rw [if_neg h2, if_neg h2]; rfl
theorem n_tn {j : Int} (h : 0 ≤ j) : ((j.toNat : Nat) : Int) = j := Int.toNat_of_nonneg h
section ST
variable {p : Program} {l : Launch} {e : Env} {R : Room} {s : State} {mi : MethodId} {args : Array Value} {below : List Frame} {meth : Method} {c : Code} {Q : State → Prop} {D : va_G} {cA : Nat → ClassId} {zv : Value} {A : Nat → Prop} {m cells slots : Nat} {ρ : Nat → Nat} {pc : Nat} {L : List (Option aV)} {st : List aV} {G : aG} {I J : aI}
theorem cv_ref {a : Nat} (h : a ≠ 1050) : cv zv ρ (vR a) = .ref (ρ a) := if_neg h
theorem s_get {a ci k i : Nat} (C : cxM m D cA zv ρ A p R s mi args meth c) (hm : mOk G I J) (h0 : (SH a).1 = 0) (h1 : (SH a).2 = ci) (ha : a < G.1) (hk : k < nfd ci) (hf : fldR m i = some (ci, k)) (hd : decode (cod m) pc = .ok (.getfield i, 3)) (kk : wN p l e R s mi args below meth c Q D cA zv A m cells slots ρ (pc + 3) L (fval (fkd ci k).1 a k G I J :: st) G I J) : wN p l e R s mi args below meth c Q D cA zv A m cells slots ρ pc L (vR a :: st) G I J := fun ls H locs hr => by
  subst h1
  have hc := sh_cls h0
  rcases f_fld hf with ⟨-, -, hlk⟩ | ⟨h5, -⟩
  · have k1 := kk ls H locs hr
    rw [List.map_cons, cv_fval hm] at k1
    rw [List.map_cons, cv_ref (by have := hm.1; omega)]
    have he := zW_at (cA := cA) (ρ := ρ) (I := I) (J := J) ha
    rw [zE_obj h0] at he
    exact va_get (Ts := WSg) C.1 C.2.1 C.2.2.2.2.1 (f_uws hc) C.2.2.2.1 C.2.2.2.2.2.1 hr.2.1 a he (clT_at hc) k (by rw [← (f_kin hc).1]; exact hk) (C.2.2.2.2.1 _ hlk) (fun x hx => by rw [((f_kin hc).2.2 k hk).2.1, ← (f_kin hc).2.1] at hx; exact hx) (by rw [List.getElem?_map, List.getElem?_range hk]; rfl) hd k1
  · omega
theorem s_getS {a k i : Nat} (C : cxM m D cA zv ρ A p R s mi args meth c) (h0 : (SH a).1 = 11) (hf : fldR m i = some (50, k)) (hd : decode (cod m) pc = .ok (.getfield i, 3)) (kk : wN p l e R s mi args below meth c Q D cA zv A m cells slots ρ (pc + 3) L ((if k = 0 then vR (1012 + (SH a).2) else vI 0) :: st) G I J) : wN p l e R s mi args below meth c Q D cA zv A m cells slots ρ pc L (vR a :: st) G I J := fun ls H locs hr => by
  obtain ⟨g1, g2, g3⟩ := sh_11 h0
  rcases f_fld hf with ⟨h5, -⟩ | ⟨-, hlk⟩
  · omega
  · have k1 := kk ls H locs hr
    rw [List.map_cons] at k1
    rw [List.map_cons, cv_ref (by omega)]
    have hE := C.2.2.2.2.2.2.2.1.2.2.2.2.2.2.2.1.1 (a - 1002) (by omega)
    simp only [show 1002 + (a - 1002) = a by omega] at hE
    by_cases hk : k = 0
    · rw [if_pos hk, cv_ref (by omega), g3] at k1
      rw [if_pos hk, if_pos hk] at hlk
      exact vk_getf C.1 C.2.1 hE.2.2.1 hr.2.2.2 C.2.2.2.1 (C.2.2.2.2.1 _ hlk) (fun _ h => h) hd k1
    · rw [if_neg hk] at k1
      rw [if_neg hk, if_neg hk] at hlk
      exact vk_getf C.1 C.2.1 hE.2.1 hr.2.2.2 C.2.2.2.1 (C.2.2.2.2.1 _ hlk) (fun _ h => h) hd k1
theorem s_putG {a ci k i : Nat} {v : aV} {G' : aG} {I' J' : aI} (C : cxM m D cA zv ρ A p R s mi args meth c) (hm : mOk G I J) (h0 : (SH a).1 = 0) (h1 : (SH a).2 = ci) (ha : a < G.1) (hk : k < nfd ci) (hf : fldR m i = some (ci, k)) (hfin : finOk m ci k = true)
    (hn : narrow (tyC ci k) (cv zv ρ v) = cv zv ρ v) (hfit : fits (tyC ci k) (cv zv ρ v) = true) (hG : G'.1 = G.1) (hv : zF ρ G' I' J' a (fkd ci k).1 k = cv zv ρ v) (ho1 : ∀ j, j ≠ k → zF ρ G' I' J' a (fkd ci j).1 j = zF ρ G I J a (fkd ci j).1 j) (ho2 : ∀ b, b ≠ a → zE cA ρ G' I' J' b = zE cA ρ G I J b)
    (hd : decode (cod m) pc = .ok (.putfield i, 3)) (kk : wN p l e R s mi args below meth c Q D cA zv A m cells slots ρ (pc + 3) L st G' I' J') : wN p l e R s mi args below meth c Q D cA zv A m cells slots ρ pc L (v :: vR a :: st) G I J := fun ls H locs hr => by
  subst h1
  have hc := sh_cls h0
  rcases f_fld hf with ⟨-, -, hlk⟩ | ⟨h5, -⟩
  · rw [List.map_cons, List.map_cons, cv_ref (a := a) (by have := hm.1; omega)]
    have he := zW_at (cA := cA) (ρ := ρ) (I := I) (J := J) ha
    rw [zE_obj h0] at he
    have hkn := (f_kin hc).2.2 k hk
    have hst : (zW cA ρ G I J).set a (ρ a, .inr ((SH a).2, ((List.range (nfd (SH a).2)).map (fun k => zF ρ G I J a (fkd (SH a).2 k).1 k)).set k (cv zv ρ v))) = zW cA ρ G' I' J' := zW_set hG (fun _ => zE_fld h0 hk hv ho1) ho2
    have hsame : ∀ x, s.fieldFound? ((clT (SH a).2).2.1 k).1 ((clT (SH a).2).2.1 k).2.1 ((clT (SH a).2).2.1 k).2.2.1 = some x → s.fieldFound? (clT (SH a).2).1 ((clT (SH a).2).2.1 k).2.1 ((clT (SH a).2).2.1 k).2.2.1 = some x := fun x hx => by rw [hkn.2.1, ← (f_kin hc).2.1] at hx; exact hx
    have hk2 : k < (clT (SH a).2).2.2 := by rw [← (f_kin hc).1]; exact hk
    have hlen : k < ((List.range (nfd (SH a).2)).map (fun k => zF ρ G I J a (fkd (SH a).2 k).1 k)).length := by simpa using hk
    cases hff : (fkd (SH a).2 k).2 with
    | false =>
      refine va_put (Ts := WSg) C.1 C.2.1 C.2.2.2.2.1 (f_uws hc) (tyC (SH a).2) (f_typ hc) (f_nam hc) C.2.2.2.1 C.2.2.2.2.2.1 hr.2.1 hr.2.2.1 hr.2.2.2 a he (clT_at hc) k hk2 (C.2.2.2.2.1 _ hlk) hsame (by rw [hkn.1, hff]) (f_typ hc k hk2) hn hfit hlen hd (fun H1 locs1 hP hD hS => ?_)
      rw [hst] at hP hD
      exact kk ls H1 locs1 ⟨hr.1, hP, hD, hS⟩
    | true =>
      unfold finOk at hfin
      rw [hff] at hfin
      simp only [Bool.or_eq_true, Bool.and_eq_true, beq_iff_eq] at hfin
      rcases hfin with hfin | ⟨hfin, hfo⟩
      · cases hfin
      · refine va_putF (Ts := WSg) C.1 C.2.1 C.2.2.2.2.1 (f_uws hc) (tyC (SH a).2) (f_typ hc) (f_nam hc) C.2.2.2.1 C.2.2.2.2.2.1 hr.2.1 hr.2.2.1 hr.2.2.2 a he (clT_at hc) k hk2 (C.2.2.2.2.1 _ hlk) hsame (by rw [hkn.1, hff]) (C.2.2.2.2.2.2.2.2.1 (List.contains_iff_mem.mp hfin)) (by rw [hkn.2.1, hfo]) (f_typ hc k hk2) hn hfit hlen hd (fun H1 locs1 hP hD hS => ?_)
        rw [hst] at hP hD
        exact kk ls H1 locs1 ⟨hr.1, hP, hD, hS⟩
  · omega
theorem s_putI {a ci k i : Nat} {x : Int} (C : cxM m D cA zv ρ A p R s mi args meth c) (hm : mOk G I J) (h0 : (SH a).1 = 0) (h1 : (SH a).2 = ci) (ha : a < G.1) (hk : k < nfd ci) (hf : fldR m i = some (ci, k)) (hfin : finOk m ci k = true) (hkd : (fkd ci k).1 = 0 ∨ ((fkd ci k).1 = 3 ∧ (x = 0 ∨ x = 1)))
    (hd : decode (cod m) pc = .ok (.putfield i, 3)) (kk : wN p l e R s mi args below meth c Q D cA zv A m cells slots ρ (pc + 3) L st G (mset I a k x) J) : wN p l e R s mi args below meth c Q D cA zv A m cells slots ρ pc L (.inl x :: vR a :: st) G I J := by
  have hc := sh_cls h0
  rw [h1] at hc
  have hkn := ((f_kin hc).2.2 k hk).2.2
  have hN : narrow (tyC ci k) (cv zv ρ (.inl x)) = cv zv ρ (.inl x) ∧ fits (tyC ci k) (cv zv ρ (.inl x)) = true := by
    rcases hkd with h | ⟨h, hx⟩
    · rcases hkn with ⟨-, q⟩ | ⟨q, -⟩ | ⟨q, -⟩ | ⟨q, -⟩
      · rw [q]; exact ⟨rfl, rfl⟩
      all_goals omega
    · rcases hkn with ⟨q, -⟩ | ⟨q, -⟩ | ⟨q, -⟩ | ⟨-, q⟩
      iterate 3 omega
      rw [q]
      rcases hx with rfl | rfl <;> exact ⟨rfl, rfl⟩
  have hk1 : (fkd ci k).1 ≠ 1 ∧ (fkd ci k).1 ≠ 2 := by omega
  refine s_putG (I' := mset I a k x) (J' := J) (G' := G) C hm h0 h1 ha hk hf hfin hN.1 hN.2 rfl ?_ ?_ ?_ hd kk
  · unfold zF
    rw [if_neg hk1.1, if_neg hk1.2, mset_same]
    rfl
  · intro j hj
    unfold zF
    rw [mset_ne (Or.inr (by omega))]
  · intro b hb
    exact zE_otherI fun j => mset_ne (Or.inl hb)
theorem s_putJ {a ci k i : Nat} {x : Int} (C : cxM m D cA zv ρ A p R s mi args meth c) (hm : mOk G I J) (h0 : (SH a).1 = 0) (h1 : (SH a).2 = ci) (ha : a < G.1) (hk : k < nfd ci) (hf : fldR m i = some (ci, k)) (hfin : finOk m ci k = true) (hkd : (fkd ci k).1 = 1)
    (hd : decode (cod m) pc = .ok (.putfield i, 3)) (kk : wN p l e R s mi args below meth c Q D cA zv A m cells slots ρ (pc + 3) L st G I (mset J a k x)) : wN p l e R s mi args below meth c Q D cA zv A m cells slots ρ pc L (.inr (.inl x) :: vR a :: st) G I J := by
  have hc := sh_cls h0
  rw [h1] at hc
  have hkn := ((f_kin hc).2.2 k hk).2.2
  have hN : narrow (tyC ci k) (cv zv ρ (.inr (.inl x))) = cv zv ρ (.inr (.inl x)) ∧ fits (tyC ci k) (cv zv ρ (.inr (.inl x))) = true := by
    rcases hkn with ⟨q, -⟩ | ⟨-, q⟩ | ⟨q, -⟩ | ⟨q, -⟩
    · omega
    · rw [q]; exact ⟨rfl, rfl⟩
    all_goals omega
  refine s_putG (I' := I) (J' := mset J a k x) (G' := G) C hm h0 h1 ha hk hf hfin hN.1 hN.2 rfl ?_ ?_ ?_ hd kk
  · unfold zF
    rw [if_pos hkd, mset_same]
    rfl
  · intro j hj
    unfold zF
    rw [mset_ne (Or.inr (by omega))]
  · intro b hb
    exact zE_otherJ fun j => mset_ne (Or.inl hb)
theorem s_putR {a ci k i : Nat} {r : Option Nat} (C : cxM m D cA zv ρ A p R s mi args meth c) (hm : mOk G I J) (h0 : (SH a).1 = 0) (h1 : (SH a).2 = ci) (ha : a < G.1) (hk : k < nfd ci) (hf : fldR m i = some (ci, k)) (hfin : finOk m ci k = true) (hkd : (fkd ci k).1 = 2) (hr : r ≠ some 1050)
    (hd : decode (cod m) pc = .ok (.putfield i, 3)) (kk : wN p l e R s mi args below meth c Q D cA zv A m cells slots ρ (pc + 3) L st (gset G a k r) I J) : wN p l e R s mi args below meth c Q D cA zv A m cells slots ρ pc L (.inr (.inr r) :: vR a :: st) G I J := by
  have hc := sh_cls h0
  rw [h1] at hc
  have hkn := ((f_kin hc).2.2 k hk).2.2
  have hcv : cv zv ρ (.inr (.inr r)) = va_rf (r.map ρ) := by
    cases r with
    | none => rfl
    | some b => exact if_neg (fun h => hr (by rw [h]))
  have hN : narrow (tyC ci k) (cv zv ρ (.inr (.inr r))) = cv zv ρ (.inr (.inr r)) ∧ fits (tyC ci k) (cv zv ρ (.inr (.inr r))) = true := by
    rcases hkn with ⟨q, -⟩ | ⟨q, -⟩ | ⟨-, q⟩ | ⟨q, -⟩
    iterate 2 omega
    · rw [hcv]
      cases ht : tyC ci k with
      | object n => cases r <;> exact ⟨rfl, rfl⟩
      | array n => cases r <;> exact ⟨rfl, rfl⟩
      | _ => rw [ht] at q; cases q
    · omega
  refine s_putG (I' := I) (J' := J) (G' := gset G a k r) C hm h0 h1 ha hk hf hfin hN.1 hN.2 rfl ?_ ?_ ?_ hd kk
  · unfold zF
    rw [if_neg (by omega), if_pos hkd, hcv]
    simp [gset]
  · intro j hj
    unfold zF gset
    have : ¬ (j : Int) = k := by omega
    simp [this]
  · intro b hb
    exact zE_otherG fun j => by simp [gset, hb]
theorem s_gets {i : Nat} {v : aV} (C : cxM m D cA zv ρ A p R s mi args meth c) (h : sttR m i = some v) (hd : decode (cod m) pc = .ok (.getstatic i, 3)) (kk : wN p l e R s mi args below meth c Q D cA zv A m cells slots ρ (pc + 3) L (v :: st) G I J) : wN p l e R s mi args below meth c Q D cA zv A m cells slots ρ pc L st G I J := fun ls H locs hr => by
  have h1 := lk_mem h
  have k1 := kk ls H locs hr
  have hst := tb_stt
  simp only [Bool.and_eq_true] at hst
  obtain ⟨⟨⟨t1, t2⟩, t3⟩, t4⟩ := hst
  have hown := C.2.2.2.1
  have hz := C.2.2.2.2.2.2.2.1
  simp only [sttL, List.mem_cons, Prod.mk.injEq, List.not_mem_nil, or_false] at h1
  rcases h1 with ⟨⟨ho, rfl⟩, rfl⟩ | ⟨⟨ho, rfl⟩, rfl⟩ | ⟨⟨ho, rfl⟩, rfl⟩ | ⟨⟨ho, rfl⟩, rfl⟩
  · rw [ho] at hown
    exact va_gets C.1 C.2.1 hz.1 hr.2.2.2 hown (C.2.2.2.2.1 _ (inP_mem t1)) (fun _ h => h) hd k1
  · rw [ho] at hown
    exact va_gets C.1 C.2.1 hz.2.1 hr.2.2.2 hown (C.2.2.2.2.1 _ (inP_mem t2)) (fun _ h => h) hd k1
  · rw [ho] at hown
    exact va_gets C.1 C.2.1 hz.2.2.1 hr.2.2.2 hown (C.2.2.2.2.1 _ (inP_mem t3)) (fun _ h => h) hd k1
  · rw [ho] at hown
    exact va_gets C.1 C.2.1 hz.2.2.2.1 hr.2.2.2 hown (C.2.2.2.2.1 _ (inP_mem (of_decide_eq_true t4))) (fun _ h => h) hd k1
theorem s_iald {a : Nat} {j : Int} (C : cxM m D cA zv ρ A p R s mi args meth c) (hm : mOk G I J) (hj : ok32 j) (h0 : (SH a).1 = 1) (ha : a < G.1) (g0 : 0 ≤ j) (g1 : j < (SH a).2) (hd : decode (cod m) pc = .ok (.iaload, 1)) (kk : wN p l e R s mi args below meth c Q D cA zv A m cells slots ρ (pc + 1) L (.inl (I a j) :: st) G I J) : wN p l e R s mi args below meth c Q D cA zv A m cells slots ρ pc L (.inl j :: vR a :: st) G I J := fun ls H locs hr => by
  have he := zW_at (cA := cA) (ρ := ρ) (I := I) (J := J) ha
  rw [zE_int h0 (by decide) (by decide)] at he
  have k1 := kk ls H locs hr
  rw [List.map_cons, List.map_cons, cv_ref (by have := hm.1; omega)]
  refine va_iald C.1 C.2.1 C.2.2.2.2.2.1 hr.2.1 a 0 he rfl (n_in hj g0 g1) hd ?_
  rw [n_cl hj, n_tn g0]
  exact k1
theorem s_bald {a : Nat} {j : Int} (C : cxM m D cA zv ρ A p R s mi args meth c) (hm : mOk G I J) (hj : ok32 j) (h0 : (SH a).1 = 3 ∨ (SH a).1 = 4) (ha : a < G.1) (g0 : 0 ≤ j) (g1 : j < (SH a).2) (hd : decode (cod m) pc = .ok (.baload, 1)) (kk : wN p l e R s mi args below meth c Q D cA zv A m cells slots ρ (pc + 1) L (.inl (I a j) :: st) G I J) : wN p l e R s mi args below meth c Q D cA zv A m cells slots ρ pc L (.inl j :: vR a :: st) G I J := fun ls H locs hr => by
  have he := zW_at (cA := cA) (ρ := ρ) (I := I) (J := J) ha
  have k1 := kk ls H locs hr
  rw [List.map_cons, List.map_cons, cv_ref (by have := hm.1; omega)]
  rcases h0 with h0 | h0
  · rw [zE_int h0 (by decide) (by decide)] at he
    refine va_bald C.1 C.2.1 C.2.2.2.2.2.1 hr.2.1 a 2 he rfl (n_in hj g0 g1) hd ?_
    rw [n_cl hj, n_tn g0]
    exact k1
  · rw [zE_int h0 (by decide) (by decide)] at he
    refine va_zald C.1 C.2.1 C.2.2.2.2.2.1 hr.2.1 a 3 he rfl (n_in hj g0 g1) hd ?_
    rw [n_cl hj, n_tn g0]
    exact k1
theorem s_lald {a : Nat} {j : Int} (C : cxM m D cA zv ρ A p R s mi args meth c) (hm : mOk G I J) (hj : ok32 j) (h0 : (SH a).1 = 2) (ha : a < G.1) (g0 : 0 ≤ j) (g1 : j < (SH a).2) (hd : decode (cod m) pc = .ok (.laload, 1)) (kk : wN p l e R s mi args below meth c Q D cA zv A m cells slots ρ (pc + 1) L (.inr (.inl (J a j)) :: st) G I J) : wN p l e R s mi args below meth c Q D cA zv A m cells slots ρ pc L (.inl j :: vR a :: st) G I J := fun ls H locs hr => by
  have he := zW_at (cA := cA) (ρ := ρ) (I := I) (J := J) ha
  rw [zE_lng h0] at he
  have k1 := kk ls H locs hr
  rw [List.map_cons, List.map_cons, cv_ref (by have := hm.1; omega)]
  refine va_lald C.1 C.2.1 C.2.2.2.2.2.1 hr.2.1 a 1 he rfl (n_in hj g0 g1) hd ?_
  rw [n_cl hj, n_tn g0]
  exact k1
theorem s_sld {j : Int} (C : cxM m D cA zv ρ A p R s mi args meth c) (hx : zX m ρ A s I) (h0 : m = 0) (hj : ok32 j) (g0 : 0 ≤ j) (g1 : j < I 1061 0) (hd : decode (cod m) pc = .ok (.iaload, 1)) (kk : wN p l e R s mi args below meth c Q D cA zv A m cells slots ρ (pc + 1) L (.inl (I 1060 j) :: st) G I J) : wN p l e R s mi args below meth c Q D cA zv A m cells slots ρ pc L (.inl j :: vR 1060 :: st) G I J := fun ls H locs hr => by
  obtain ⟨n, xs, hX, hlt, hA, hn, -, hxs⟩ := hx h0
  have k1 := kk ls H locs hr
  rw [List.map_cons, List.map_cons, cv_ref (by decide)]
  refine va_sld C.1 C.2.1 hX hlt hA hr.2.2.2 (n_in hj g0 (by omega)) hd ?_
  rw [n_cl hj, hxs _ (by omega), n_tn g0]
  exact k1
theorem s_slen (C : cxM m D cA zv ρ A p R s mi args meth c) (hx : zX m ρ A s I) (h0 : m = 0) (hd : decode (cod m) pc = .ok (.arraylength, 1)) (kk : wN p l e R s mi args below meth c Q D cA zv A m cells slots ρ (pc + 1) L (vI (I 1061 0) :: st) G I J) : wN p l e R s mi args below meth c Q D cA zv A m cells slots ρ pc L (vR 1060 :: st) G I J := fun ls H locs hr => by
  obtain ⟨n, xs, hX, hlt, hA, hn, -, -⟩ := hx h0
  have k1 := kk ls H locs hr
  rw [List.map_cons, cv_ref (by decide)]
  refine va_slen C.1 C.2.1 hX hlt hA hr.2.2.2 hd ?_
  rw [← Int32.ofInt_eq_ofNat, ← hn]
  exact k1
theorem s_kald {a : Nat} {j : Int} (C : cxM m D cA zv ρ A p R s mi args meth c) (hj : ok32 j) (h0 : (SH a).1 = 10) (g0 : 0 ≤ j) (g1 : j < (SH a).2) (hd : decode (cod m) pc = .ok (.iaload, 1)) (kk : wN p l e R s mi args below meth c Q D cA zv A m cells slots ρ (pc + 1) L (.inl (KI a j) :: st) G I J) : wN p l e R s mi args below meth c Q D cA zv A m cells slots ρ pc L (.inl j :: vR a :: st) G I J := fun ls H locs hr => by
  have k1 := kk ls H locs hr
  rw [List.map_cons, List.map_cons]
  have hz := C.2.2.2.2.2.2.2.1
  rcases sh_10 h0 with rfl | rfl
  · rw [cv_ref (by decide)]
    exact va_ti C.1 C.2.1 hz.2.2.2.2.1 hr.2.2.2 (n_in hj g0 g1) (by rw [n_cl hj, n_tn g0]; rfl) hd k1
  · rw [cv_ref (by decide)]
    exact va_ti C.1 C.2.1 hz.2.2.2.2.2.1 hr.2.2.2 (n_in hj g0 g1) (by rw [n_cl hj, n_tn g0]; rfl) hd k1
theorem kb_len : ∀ i, i < 7 → lenS.getD i 0 = (strB.getD i []).length := by decide +kernel
theorem kb_byt : ∀ i, i < 7 → ∀ j, j < (strB.getD i []).length → (bytS.getD i []).getD j 0 = Int32.ofInt ((strB.getD i []).getD j 0) := by decide +kernel
theorem s_kbld {a : Nat} {j : Int} (C : cxM m D cA zv ρ A p R s mi args meth c) (hj : ok32 j) (h0 : (SH a).1 = 12) (g0 : 0 ≤ j) (g1 : j < (SH a).2) (hd : decode (cod m) pc = .ok (.baload, 1)) (kk : wN p l e R s mi args below meth c Q D cA zv A m cells slots ρ (pc + 1) L (.inl (KI a j) :: st) G I J) : wN p l e R s mi args below meth c Q D cA zv A m cells slots ρ pc L (.inl j :: vR a :: st) G I J := fun ls H locs hr => by
  have k1 := kk ls H locs hr
  obtain ⟨q1, q2, q3⟩ := sh_12 h0
  rw [List.map_cons, List.map_cons, cv_ref (by omega)]
  have hE := (C.2.2.2.2.2.2.2.1.2.2.2.2.2.2.2.1.1 (a - 1012) (by omega)).2.2.2
  simp only [show 1012 + (a - 1012) = a by omega] at hE
  rw [kb_len _ (by omega)] at hE
  rw [q3] at g1
  refine va_tb C.1 C.2.1 hE hr.2.2.2 (n_in hj g0 g1) ?_ hd k1
  rw [n_cl hj]
  show Value.int ((bytS.getD (a - 1012) []).getD j.toNat 0) = Value.int (Int32.ofInt (KI a j))
  rw [kb_byt _ (by omega) _ (by omega)]
  unfold KI
  rw [if_neg (by omega), if_neg (by omega)]
theorem s_klen {a : Nat} (C : cxM m D cA zv ρ A p R s mi args meth c) (h0 : (SH a).1 = 12) (hd : decode (cod m) pc = .ok (.arraylength, 1)) (kk : wN p l e R s mi args below meth c Q D cA zv A m cells slots ρ (pc + 1) L (vI (SH a).2 :: st) G I J) : wN p l e R s mi args below meth c Q D cA zv A m cells slots ρ pc L (vR a :: st) G I J := fun ls H locs hr => by
  have k1 := kk ls H locs hr
  obtain ⟨q1, q2, q3⟩ := sh_12 h0
  rw [List.map_cons, cv_ref (by omega)]
  have hE := (C.2.2.2.2.2.2.2.1.2.2.2.2.2.2.2.1.1 (a - 1012) (by omega)).2.2.2
  simp only [show 1012 + (a - 1012) = a by omega] at hE
  refine va_tlen C.1 C.2.1 hE hr.2.2.2 ?_ hd k1
  rw [kb_len _ (by omega), q3, ← Int32.ofInt_eq_ofNat]
end ST
