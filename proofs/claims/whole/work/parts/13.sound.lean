/-! soundness: what the small machine answers, the machine answers -/
def gK (G : aG) (I : aI) (v : Option aV) (G' : aG) (I' J' : aI) : Prop := mOk G' I' J' ∧ (∀ u, v = some u → vOk G'.1 u) ∧ G.1 ≤ G'.1 ∧ ∀ a, 1000 ≤ a → ∀ k, I' a k = I a k
theorem vOk_up {a b : Nat} (h : a ≤ b) {v : aV} (hv : vOk a v) : vOk b v := by
  match v, hv with
  | .inl x, hv => exact hv
  | .inr (.inl x), hv => exact hv
  | .inr (.inr none), hv => trivial
  | .inr (.inr (some q)), hv => exact hv.imp (fun z => by omega) id
theorem ent0_mem : ∀ {as : List aV} {k : Nat} {v : aV}, lG (ent0 as) k = some v → v ∈ as
  | [], k, v, h => by simp [lG, ent0] at h
  | u :: us, k, v, h => by
    unfold ent0 at h
    split at h
    · cases k with
      | zero => simp [lG] at h; subst h; exact List.mem_cons_self
      | succ k => exact List.mem_cons_of_mem _ (ent0_mem (k := k) (by simpa [lG] using h))
    · cases k with
      | zero => simp [lG] at h; subst h; exact List.mem_cons_self
      | succ k =>
        cases k with
        | zero => simp [lG] at h
        | succ k => exact List.mem_cons_of_mem _ (ent0_mem (k := k) (by simpa [lG] using h))
theorem ent_lG {n : Nat} {as : List aV} {k : Nat} {v : aV} (h : lG (ent n as) k = some v) : lG (ent0 as) k = some v := by
  unfold ent at h
  unfold lG at h ⊢
  rcases Nat.lt_or_ge k (ent0 as).length with q | q
  · rwa [List.getElem?_append_left q] at h
  · rw [List.getElem?_append_right q, List.getElem?_replicate] at h
    split at h <;> simp at h
theorem ent_ok {y : Nat} {as : List aV} {G : aG} {I J : aI} (he : entOk y as = true) (hv : ∀ v ∈ as, vOk G.1 v) (hm : mOk G I J) : sOk y (ent (mxl y) as) [] G I J := by
  unfold entOk at he
  rw [Bool.and_eq_true, decide_eq_true_eq] at he
  refine ⟨fun k v h => hv v (ent0_mem (ent_lG h)), fun v h => absurd h List.not_mem_nil, hm, fun k x h => ?_, ?_⟩
  · have h1 := ent_lG h
    have h2 := List.all_eq_true.mp he.2 k (List.mem_range.mpr (lG_lt h1))
    rw [h1] at h2
    exact h2
  · unfold ent
    rw [List.length_append, List.length_replicate]
    omega
theorem ex_cal {kd y0 y pc : Nat} {L : List (Option aV)} {st as rest : List aV} {G : aG} {I J : aI} (h : exCall kd y0 pc L st G I J = some (.inr (.inr (y, as, rest)))) :
    y = y0 ∧ entOk y as = true ∧ cats rest ≤ 8 ∧ npr y ≤ st.length ∧ ((kd = 1 ∧ as = (st.take (npr y)).reverse ∧ rest = st.drop (npr y)) ∨ (kd ≠ 1 ∧ ∃ v, st.drop (npr y) = v :: rest ∧ as = v :: (st.take (npr y)).reverse ∧ rcv y G v = true)) := by
  unfold exCall at h
  split at h
  · rename_i hk
    split at h
    · rename_i hh
      cases h
      exact ⟨rfl, hh.2.2, hh.2.1, hh.1, Or.inl ⟨hk, rfl, rfl⟩⟩
    · cases h
  · rename_i hk
    split at h
    · rename_i v r hdr
      split at h
      · rename_i hh
        cases h
        refine ⟨rfl, hh.2.2, hh.2.1, ?_, Or.inr ⟨hk, v, hdr, rfl, hh.1⟩⟩
        have h1 := congrArg List.length hdr
        rw [List.length_drop, List.length_cons] at h1
        omega
      · cases h
    · cases h
theorem as_mem {st as rest : List aV} {n kd : Nat} {P : aV → Prop} (h : (kd = 1 ∧ as = (st.take n).reverse ∧ rest = st.drop n) ∨ (kd ≠ 1 ∧ ∃ v, st.drop n = v :: rest ∧ as = v :: (st.take n).reverse ∧ P v)) : (∀ v ∈ as, v ∈ st) ∧ (∀ v ∈ rest, v ∈ st) := by
  rcases h with ⟨-, rfl, rfl⟩ | ⟨-, v, h1, rfl, -⟩
  · exact ⟨fun v h => List.mem_of_mem_take (List.mem_reverse.mp h), fun v h => List.mem_of_mem_drop h⟩
  · refine ⟨fun u h => ?_, fun u h => ?_⟩
    · rcases List.mem_cons.mp h with rfl | h
      · exact List.mem_of_mem_drop (by rw [h1]; exact List.mem_cons_self)
      · exact List.mem_of_mem_take (List.mem_reverse.mp h)
    · exact List.mem_of_mem_drop (by rw [h1]; exact List.mem_cons_of_mem _ h)
theorem stp_ex {m pc : Nat} {L : List (Option aV)} {st : List aV} {G : aG} {I J : aI} {r : aS ⊕ (Option aV ⊕ (Nat × List aV × List aV))} (h : stp m pc L st G I J = some r) : ∃ i n, decode (cod m) pc = .ok (i, n) ∧ exI m i n pc L st G I J = some r := by
  unfold stp at h
  cases hd : decode (cod m) pc with
  | error z => rw [hd] at h; cases h
  | ok q => rw [hd] at h; exact ⟨q.1, q.2, rfl, h⟩
theorem go_ok : ∀ (f d m pc : Nat) (L : List (Option aV)) (st : List aV) (G : aG) (I J : aI) (v : Option aV) (G' : aG) (I' J' : aI), sOk m L st G I J → go f d m (pc, L, st, G, I, J) = some (v, G', I', J') → gK G I v G' I' J'
  | 0, _, _, _, _, _, _, _, _, _, _, _, _, _, h => by cases h
  | f + 1, d, m, pc, L, st, G, I, J, v, G', I', J', hs, h => by
    unfold go at h
    split at h
    · cases h
    · rename_i S hst
      obtain ⟨i, n, hd, he⟩ := stp_ex hst
      obtain ⟨pc1, L1, st1, G1, I1, J1⟩ := S
      obtain ⟨k1, k2, k3⟩ := y_ex hs he
      obtain ⟨q1, q2, q3, q4⟩ := go_ok f d m pc1 L1 st1 G1 I1 J1 v G' I' J' k1 h
      exact ⟨q1, q2, Nat.le_trans k2 q3, fun a ha k => (q4 a ha k).trans (k3 a ha k)⟩
    · rename_i u hst
      obtain ⟨i, n, hd, he⟩ := stp_ex hst
      cases h
      obtain ⟨-, hst2⟩ := r_ex hd he
      exact ⟨hs.2.2.1, fun u hu => hs.2.1 u (by rw [hst2, hu]; exact List.mem_cons_self), Nat.le_refl _, fun _ _ _ => rfl⟩
    · rename_i y as rest hst
      obtain ⟨i, n, hd, he⟩ := stp_ex hst
      obtain ⟨kd, y0, -, hc⟩ := c_ex hd he
      obtain ⟨rfl, hen, -, -, hsh⟩ := ex_cal hc
      obtain ⟨ha, hr⟩ := as_mem hsh
      cases d with
      | zero => cases h
      | succ d =>
        dsimp only at h
        split at h
        · cases h
        · rename_i v1 G1 I1 J1 hg
          obtain ⟨k1, k2, k3, k4⟩ := go_ok f d y _ _ _ G I J v1 G1 I1 J1 (ent_ok hen (fun u hu => hs.2.1 u (ha u hu)) hs.2.2.1) hg
          obtain ⟨q1, q2, q3, q4⟩ := go_ok f (d + 1) m _ _ _ G1 I1 J1 v G' I' J' ⟨fun k u hk => vOk_up k3 (hs.1 k u hk), fun u hu => (by
            rcases List.mem_append.mp hu with hu | hu
            · exact k2 u (by cases v1 with | none => cases hu | some z => rw [List.mem_singleton.mp hu])
            · exact vOk_up k3 (hs.2.1 u (hr u hu))), k1, hs.2.2.2⟩ h
          exact ⟨q1, q2, Nat.le_trans k3 q3, fun a ha k => (q4 a ha k).trans (k4 a ha k)⟩
/-- what stays, handed on -/
theorem zK_move {zv : Value} {ρ ρ' : Nat → Nat} {A B : Nat → Prop} {s U : State} {locs : List Loc} {n : Nat} (h : zK zv ρ A s) (hx : zExt ρ ρ' n) (hW : s.WarmedH U.vm) (hS : va_S A s.heap U.heap locs) (hAB : ∀ q, B q → A q) : zK zv ρ' B U := by
  obtain ⟨h1, h2, h3, h4, h5, h6, h7, h8, h9⟩ := h
  have hal := hW.alike
  have e0 : ρ' 1000 = ρ 1000 := hx _ (Or.inr (by omega))
  have e1 : ρ' 1001 = ρ 1001 := hx _ (Or.inr (by omega))
  have e2 : (fun i => ρ' (1002 + i)) = fun i => ρ (1002 + i) := funext fun i => hx _ (Or.inr (by omega))
  have e3 : (fun i => ρ' (1012 + i)) = fun i => ρ (1012 + i) := funext fun i => hx _ (Or.inr (by omega))
  unfold zK
  rw [e0, e1, e2, e3]
  refine ⟨((va_Z.moved hal h1).kept hS.2.1).narrow hAB, ((va_Z.moved hal h2).kept hS.2.1).narrow hAB, ((va_Z.moved hal h3).kept hS.2.1).narrow hAB, ((va_Z.moved hal h4).kept hS.2.1).narrow hAB, ((va_T.moved hal h5).kept hS.2.1).narrow hAB, ((va_T.moved hal h6).kept hS.2.1).narrow hAB, fun i j hij => ?_, ((vk_S.moved hal h8).kept hS.2.1).narrow hAB, fun e he => va_Nw.warmM hW (h9 e he)⟩
  obtain ⟨t, ht⟩ := h7 i j hij
  exact ⟨t, by rw [hx _ (Or.inr (by omega))]; exact vk_R.warm hW ht⟩
theorem zK_same {zv : Value} {ρ : Nat → Nat} {A : Nat → Prop} {s U : State} (h : zK zv ρ A s) (hv : U.vm = s.vm) (hh : U.heap = s.heap) : zK zv ρ A U := by
  obtain ⟨h1, h2, h3, h4, h5, h6, h7, h8, h9⟩ := h
  have hal : s.vm.Alike U.vm := by rw [hv]; exact Vm.Alike.refl _
  unfold zK
  rw [hh]
  refine ⟨va_Z.moved hal h1, va_Z.moved hal h2, va_Z.moved hal h3, va_Z.moved hal h4, va_T.moved hal h5, va_T.moved hal h6, fun i j hij => ?_, vk_S.moved hal h8, fun e he => va_Nw.same rfl hv.symm (h9 e he)⟩
  obtain ⟨t, ht⟩ := h7 i j hij
  exact ⟨t, vk_R.same hv ht⟩
def rmD (d mc ms : Nat) : Room := { frames := d + 1, cells := mc, slots := ms, locals := 64 * d + 64 }
def WSy (y : Nat) : List Jvm.Cond := Jvm.Cond.code (nam y) (cod y) (mxl y) (rty y) :: WSg
def zPc (D : va_G) (cA : Nat → ClassId) (zv : Value) (ρ : Nat → Nat) (as : List aV) (sz : Nat) (G : aG) (I J : aI) : Array Value → State → Prop :=
  va_Pc (as.map (cv zv ρ)) (fun U => U.heap.size = sz ∧ va_P D vwCl (zW cA ρ G I J) U.heap ∧ va_K D vwCl (tyL cA) U ∧ va_D (fun _ => True) (zW cA ρ G I J) ∧ zK zv ρ (va_A (zW cA ρ G I J) sz) U)
def zQc (D : va_G) (cA : Nat → ClassId) (zv : Value) (ρ : Nat → Nat) (sz : Nat) (G : aG) (I J : aI) (v : Option aV) (G' : aG) (I' J' : aI) : Array Value → State → Outcome → State → Prop := fun _ st o t =>
  (∃ ρ', zExt ρ ρ' G.1 ∧ o = .returned (v.map (cv zv ρ')) ∧ va_P D vwCl (zW cA ρ' G' I' J') t.heap ∧ va_D (va_A (zW cA ρ G I J) sz) (zW cA ρ' G' I' J')) ∧ va_F (va_A (zW cA ρ G I J) sz) st t
def Snd (l : Launch) (D : va_G) (cA : Nat → ClassId) (zv : Value) (f : Nat) : Prop :=
  ∀ (d m pc : Nat) (L : List (Option aV)) (st : List aV) (G : aG) (I J : aI) (v : Option aV) (G' : aG) (I' J' : aI), go f d m (pc, L, st, G, I, J) = some (v, G', I', J') → sOk m L st G I J →
    ∀ (p : Program) (e : Env) (R : Room) (s : State) (mi : MethodId) (args : Array Value) (below : List Frame) (meth : Method) (c : Code) (Q : State → Prop) (A : Nat → Prop) (ρ : Nat → Nat) (cells slots : Nat),
    cxM m D cA zv ρ A p R s mi args meth c → d + 1 ≤ R.frames → 64 * d + 64 ≤ R.locals → zX m ρ A s I → cells + (G'.1 - G.1) ≤ R.cells → slots + (SZ G'.1 - SZ G.1) ≤ R.slots →
    (∀ (ρ' : Nat → Nat) (pc' : Nat) (L' : List (Option aV)) (ls : Array Slot) (H : Heap) (locs : List Loc), zExt ρ ρ' G.1 → rp D cA zv ρ' A s m L' G' I' J' ls H locs → retD m pc' v → W p l e R s mi args below meth c H locs (cells + (G'.1 - G.1)) (slots + (SZ G'.1 - SZ G.1)) Q (F0 mi pc' ls (v.toList.map (cv zv ρ')))) →
    wN p l e R s mi args below meth c Q D cA zv A m cells slots ρ pc L st G I J
theorem ent0_args {zv : Value} {ρ : Nat → Nat} (hz : zv.category = 1) : ∀ (as : List aV) (i k : Nat) (v : aV), lG (ent0 as) k = some v → (i + k, cv zv ρ v) ∈ lv_args i (as.map (cv zv ρ))
  | [], i, k, v, h => by simp [lG, ent0] at h
  | u :: us, i, k, v, h => by
    rw [List.map_cons]
    unfold lv_args
    unfold ent0 at h
    have hcat := cv_cat (zv := zv) (ρ := ρ) (v := u) hz
    split at h
    · rename_i hc
      rw [hc, if_pos rfl] at hcat
      cases k with
      | zero => simp [lG] at h; subst h; exact List.mem_cons_self
      | succ k =>
        have h1 := ent0_args (zv := zv) (ρ := ρ) hz us (i + 1) k v (by simpa [lG] using h)
        rw [hcat, if_neg (by decide)]
        exact List.mem_cons_of_mem _ (by rw [show i + (k + 1) = i + 1 + k by omega]; exact h1)
    · rename_i hc
      rw [if_neg hc] at hcat
      cases k with
      | zero => simp [lG] at h; subst h; exact List.mem_cons_self
      | succ k =>
        cases k with
        | zero => simp [lG] at h
        | succ k =>
          have h1 := ent0_args (zv := zv) (ρ := ρ) hz us (i + 2) k v (by simpa [lG] using h)
          rw [hcat, if_pos rfl]
          exact List.mem_cons_of_mem _ (by rw [show i + (k + 1 + 1) = i + 2 + k by omega]; exact h1)
theorem ent0_len {zv : Value} {ρ : Nat → Nat} (hz : zv.category = 1) : ∀ (as : List aV), (lg_sl (as.map (cv zv ρ))).length = (ent0 as).length
  | [] => rfl
  | u :: us => by
    have ih := ent0_len (ρ := ρ) hz us
    have hcat := cv_cat (zv := zv) (ρ := ρ) (v := u) hz
    unfold lg_sl at ih ⊢
    rw [List.map_cons, List.flatMap_cons, List.length_append, ih, show ent0 (u :: us) = if cat1 u then some u :: ent0 us else some u :: none :: ent0 us from rfl]
    by_cases hc : cat1 u = true
    · rw [if_pos hc] at hcat ⊢
      rw [hcat, if_neg (by decide)]
      simp only [List.length_cons, List.length_nil]
      omega
    · rw [if_neg hc] at hcat ⊢
      rw [hcat, if_pos rfl]
      simp only [List.length_cons, List.length_nil]
      omega
theorem met_1 {m : Nat} (h0 : 0 < m) (h : m < metL.length) : plainName (nam m).cls = true ∧ (nam m).cls = oNm (oNum m) ∧ (nam m).cls ≠ "java/lang/invoke/MethodHandle" ∧ (nam m).cls ≠ "java/lang/invoke/VarHandle" ∧ (parseMethodDescriptor (nam m).desc).map (fun d => d.parameters.length) = some (npr m) ∧ mxl m ≤ 16 := by
  have h1 := List.all_eq_true.mp tb_met m (List.mem_of_getElem? (i := m - 1) (by rw [List.getElem?_drop, List.getElem?_range (by omega)]; congr 1; omega))
  simp only [Bool.and_eq_true, decide_eq_true_eq] at h1
  exact ⟨h1.1.1.1.1.1, h1.1.1.1.1.2, h1.1.1.1.2, h1.1.1.2, h1.1.2, h1.2⟩
set_option maxHeartbeats 4000000 in
/-- a contract out of a run of the small machine -/
theorem met_of {l : Launch} {D : va_G} {cA : Nat → ClassId} {zv : Value} (hz : zv.category = 1) {f : Nat} (hS : Snd l D cA zv f) {d y : Nat} (h0 : 0 < y) (hy : y < metL.length) {as : List aV} {G : aG} {I J : aI} {v : Option aV} {G' : aG} {I' J' : aI} (hen : entOk y as = true) (hav : ∀ u ∈ as, vOk G.1 u) (hm : mOk G I J)
    (hg : go f d y (0, ent (mxl y) as, [], G, I, J) = some (v, G', I', J')) (ρ : Nat → Nat) (sz : Nat) : Met l (nam y) (WSy y) (rmD d (G'.1 - G.1) (SZ G'.1 - SZ G.1)) (zPc D cA zv ρ as sz G I J) (zQc D cA zv ρ sz G I J v G' I' J') (G'.1 - G.1) (SZ G'.1 - SZ G.1) (va_A (zW cA ρ G I J) sz) := by
  obtain ⟨t1, t2, t3, t4, t5, t6⟩ := met_1 h0 hy
  refine Met.ofW (cc := cod y) (maxL := mxl y) (ret := rty y) t1 rfl ?_
  intro p e s m args below meth c s₁ B hml hv
  obtain ⟨rfl, hsz, hP, hK, hD0, hZ⟩ := hv
  have hx := B.exec
  have hb := B.bytes
  have hr := B.returns
  have hts := atoms_spec (ws := WSy y) B.pre
  have hown : s.vm.findClass (oNm (oNum y)) = some m.cls := by rw [← t2]; exact findClass_of_methodNamed B.named
  have hlocks := B.notSynchronized
  have hin : meth.name = (nam y).name := (name_of_methodNamed B.named B.method).1
  subst hsz
  have hD := hD0.self (sz := s.heap.size)
  have hl := lv_entry (as.map (cv zv ρ)) (n := mxl y) (by
    rw [ent0_len hz]
    unfold entOk at hen
    rw [Bool.and_eq_true, decide_eq_true_eq] at hen
    exact hen.1)
  rw [lg_entry_eq]
  generalize (lg_sl (as.map (cv zv ρ)) ++ List.replicate (mxl y - (lg_sl (as.map (cv zv ρ))).length) Slot.unset).toArray = ls at hl ⊢
  have hs := ent_ok hen hav hm
  have hlH : lH zv ρ ls (mxl y) (ent (mxl y) as) := ⟨hl.1, hl.2.1, fun k u hk => by
    have h1 := ent0_args (ρ := ρ) hz as 0 k u (ent_lG hk)
    rw [Nat.zero_add] at h1
    exact hl.2.2 _ h1⟩
  have C : cxM y D cA zv ρ (va_A (zW cA ρ G I J) s.heap.size) p (headSpec (WSy y) (rmD d (G'.1 - G.1) (SZ G'.1 - SZ G.1))).room s m (as.map (cv zv ρ)).toArray meth c :=
    ⟨hx, hb, hml, hown, fun w hw => hts w (List.mem_cons_of_mem _ hw), hK, fun q hq => Or.inr hq, hZ, fun hi => by
      rw [hin]
      exact of_decide_eq_true (List.all_eq_true.mp tb_ini y hi), Nat.le_add_left 1 d, Nat.le_add_left 64 _, hz⟩
  refine hS d y 0 _ [] G I J v G' I' J' hg hs p e _ s m _ below meth c _ _ ρ 0 0 C (Nat.le_refl _) (Nat.le_refl _) (fun h => absurd h (by omega)) (by rw [Nat.zero_add]; exact Nat.le_refl _) (by rw [Nat.zero_add]; exact Nat.le_refl _) ?_ ls s.heap [] ⟨hlH, hP, hD, va_S.rf⟩
  intro ρ' pc' L' ls' H locs hx' hrp hret
  rw [Nat.zero_add, Nat.zero_add]
  obtain ⟨-, hP', hD', hS'⟩ := hrp
  have hq : ∀ (o : Outcome), o = .returned (v.map (cv zv ρ')) → ∀ t : State, t.heap = H → s.WarmedH t.vm → zQc D cA zv ρ s.heap.size G I J v G' I' J' (as.map (cv zv ρ)).toArray s o t := by
    intro o ho t ht _
    exact ⟨⟨ρ', hx', ho, by rw [ht]; exact hP', hD'⟩, hS'.F ht⟩
  match v, hret, hq with
  | none, hret, hq => exact W.vret hx hb (by rw [hr]; exact hret.2) (hq _ rfl) hS'.2.2 hret.1
  | some (.inl x), hret, hq =>
    cases ht : rty y with
    | none => have h2 := hret.2; rw [ht] at h2; cases h2
    | some ty => exact W.zret hx hb (by rw [hr]; exact ht) (n_ret (by rw [← ht]; exact hret.2)) (hq _ rfl) hS'.2.2 hret.1
  | some (.inr (.inl x)), hret, hq => exact W.lret hx hb (by rw [hr]; exact hret.2) (hq _ rfl) hS'.2.2 hret.1
  | some (.inr (.inr r)), hret, hq =>
    have hcv : cv zv ρ' (.inr (.inr r)) = .null ∨ ∃ a, cv zv ρ' (.inr (.inr r)) = .ref a := by
      cases r with
      | none => exact Or.inl rfl
      | some a => exact Or.inr ⟨ρ' a, if_neg (fun h => hret.2.2 (by rw [h]))⟩
    have hrt : ∃ ty, rty y = some ty ∧ ((∃ n, ty = .object n) ∨ ∃ t, ty = .array t) := by
      have h2 := hret.2.1
      cases ht : rty y with
      | none => rw [ht] at h2; cases h2
      | some ty =>
        refine ⟨ty, rfl, ?_⟩
        rw [ht] at h2
        cases ty with
        | object n => exact Or.inl ⟨n, rfl⟩
        | array t => exact Or.inr ⟨t, rfl⟩
        | _ => cases h2
    obtain ⟨ty, ht, hty⟩ := hrt
    exact W.aret hx hb (by rw [hr]; exact ht) hty hcv (hq _ rfl) hS'.2.2 hret.1
