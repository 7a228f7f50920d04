/-! soundness, the whole: by the number of steps -/
theorem zExt.trans {ρ ρ1 ρ2 : Nat → Nat} {n k : Nat} (h1 : zExt ρ ρ1 n) (h2 : zExt ρ1 ρ2 k) (hk : n ≤ k) : zExt ρ ρ2 n := fun a ha => (h2 a (by omega)).trans (h1 a ha)
theorem zK_ext {zv : Value} {ρ ρ' : Nat → Nat} {A : Nat → Prop} {s : State} {n : Nat} (h : zK zv ρ A s) (hx : zExt ρ ρ' n) : zK zv ρ' A s := by
  obtain ⟨h1, h2, h3, h4, h5, h6, h7, h8, h9⟩ := h
  have e0 : ρ' 1000 = ρ 1000 := hx _ (Or.inr (by omega))
  have e1 : ρ' 1001 = ρ 1001 := hx _ (Or.inr (by omega))
  have e2 : (fun i => ρ' (1002 + i)) = fun i => ρ (1002 + i) := funext fun i => hx _ (Or.inr (by omega))
  have e3 : (fun i => ρ' (1012 + i)) = fun i => ρ (1012 + i) := funext fun i => hx _ (Or.inr (by omega))
  unfold zK
  rw [e0, e1, e2, e3]
  refine ⟨h1, h2, h3, h4, h5, h6, fun i j hij => ?_, h8, h9⟩
  obtain ⟨t, ht⟩ := h7 i j hij
  exact ⟨t, by rw [hx _ (Or.inr (by omega))]; exact ht⟩
theorem zX_ext {m n : Nat} {ρ ρ' : Nat → Nat} {A : Nat → Prop} {s : State} {I I' : aI} (h : zX m ρ A s I) (hx : zExt ρ ρ' n) (hI : ∀ a, 1000 ≤ a → ∀ k, I' a k = I a k) : zX m ρ' A s I' := by
  intro h0
  obtain ⟨k, xs, h1, h2, h3, h4, h5, h6⟩ := h h0
  have e : ρ' 1060 = ρ 1060 := hx _ (Or.inr (by omega))
  refine ⟨k, xs, by rw [e]; exact h1, by rw [e]; exact h2, by rw [e]; exact h3, by rw [hI _ (by omega)]; exact h4, h5, fun j hj => ?_⟩
  rw [hI _ (by omega)]
  exact h6 j hj
theorem cx_ext {m n : Nat} {D : va_G} {cA : Nat → ClassId} {zv : Value} {ρ ρ' : Nat → Nat} {A : Nat → Prop} {p : Program} {R : Room} {s : State} {mi : MethodId} {args : Array Value} {meth : Method} {c : Code} (C : cxM m D cA zv ρ A p R s mi args meth c) (hx : zExt ρ ρ' n) : cxM m D cA zv ρ' A p R s mi args meth c := by
  obtain ⟨h1, h2, h3, h4, h5, h6, h7, h8, h9⟩ := C
  exact ⟨h1, h2, h3, h4, h5, h6, h7, zK_ext h8 hx, h9⟩
theorem gi_W {w : List Jvm.Cond} (h : ∀ q ∈ w, q ∈ WSg) : GoodIn WSg w := fun q hq => ⟨h q hq, good_of_word (WSg_good (h q hq))⟩
theorem gi_y {y : Nat} (h0 : 0 < y) (hy : y < metL.length) : ∀ q ∈ WSy y, q ∈ WSg := fun q hq => by
  rcases List.mem_cons.mp hq with rfl | hq
  · exact cw_all h0 hy
  · exact hq
theorem gi_4 {a b c d : Jvm.Cond} {w : List Jvm.Cond} (ha : a ∈ WSg) (hb : b ∈ WSg) (hc : c ∈ WSg) (hd : d ∈ WSg) (hw : ∀ q ∈ w, q ∈ WSg) : ∀ q ∈ [a, b, c, d] ++ w, q ∈ WSg := fun q hq => by
  rcases List.mem_append.mp hq with h | h
  · simp only [List.mem_cons, List.not_mem_nil, or_false] at h
    rcases h with rfl | rfl | rfl | rfl
    · exact ha
    · exact hb
    · exact hc
    · exact hd
  · exact hw q h
theorem gi_3 {a b c : Jvm.Cond} {w : List Jvm.Cond} (ha : a ∈ WSg) (hb : b ∈ WSg) (hc : c ∈ WSg) (hw : ∀ q ∈ w, q ∈ WSg) : ∀ q ∈ [a, b, c] ++ w, q ∈ WSg := fun q hq => by
  rcases List.mem_append.mp hq with h | h
  · simp only [List.mem_cons, List.not_mem_nil, or_false] at h
    rcases h with rfl | rfl | rfl
    · exact ha
    · exact hb
    · exact hc
  · exact hw q h
theorem lnk_0 {o i y : Nat} (h : ∃ ps, lnkOk o i 0 y ps = true) : Jvm.Cond.methodLink (oNm o) i (nam y) ∈ WSg ∧ Jvm.Cond.instanceMethod (nam y) ∈ WSg ∧ Jvm.Cond.selects (nam y).cls (nam y) (nam y) ∈ WSg ∧ Jvm.Cond.initialized (nam y).cls ∈ WSg := by
  obtain ⟨ps, h⟩ := h
  match ps, h with
  | [p, q, r, t], h =>
    simp only [lnkOk, Bool.and_eq_true] at h
    exact ⟨inP_mem h.1.1.1, inP_mem h.1.1.2, inP_mem h.1.2, inP_mem h.2⟩
theorem lnk_1 {o i y : Nat} (h : ∃ ps, lnkOk o i 1 y ps = true) : Jvm.Cond.methodLink (oNm o) i (nam y) ∈ WSg ∧ Jvm.Cond.static (nam y) ∈ WSg ∧ Jvm.Cond.initialized (nam y).cls ∈ WSg := by
  obtain ⟨ps, h⟩ := h
  match ps, h with
  | [p, q, t], h =>
    simp only [lnkOk, Bool.and_eq_true] at h
    exact ⟨inP_mem h.1.1, inP_mem h.1.2, inP_mem h.2⟩
theorem lnk_2 {o i y : Nat} (h : ∃ ps, lnkOk o i 2 y ps = true) : Jvm.Cond.methodLink (oNm o) i (nam y) ∈ WSg ∧ Jvm.Cond.instanceMethod (nam y) ∈ WSg ∧ Jvm.Cond.initialized (nam y).cls ∈ WSg ∧ (nam y).name = "<init>" ∧ rty y = none := by
  obtain ⟨ps, h⟩ := h
  match ps, h with
  | [p, q, t], h =>
    simp only [lnkOk, Bool.and_eq_true, decide_eq_true_eq] at h
    exact ⟨inP_mem h.1.1.1.1, inP_mem h.1.1.1.2, inP_mem h.1.1.2, h.1.2, h.2⟩
theorem lnk_3 {o i y : Nat} (h : ∃ ps, lnkOk o i 3 y ps = true) : Jvm.Cond.instanceMethod (nam y) ∈ WSg ∧ Jvm.Cond.initialized (nam y).cls ∈ WSg ∧ (nam y).name = "<init>" ∧ rty y = none := by
  obtain ⟨ps, h⟩ := h
  match ps, h with
  | [p, q, t], h =>
    simp only [lnkOk, Bool.and_eq_true, decide_eq_true_eq] at h
    exact ⟨inP_mem h.1.1.1.2, inP_mem h.1.1.2, h.1.2, h.2⟩
theorem lnk_4 {o i y : Nat} (h : ∃ ps, lnkOk o i 4 y ps = true) : Jvm.Cond.instanceMethod (nam y) ∈ WSg ∧ Jvm.Cond.selects (nam y).cls (nam y) (nam y) ∈ WSg ∧ Jvm.Cond.initialized (nam y).cls ∈ WSg := by
  obtain ⟨ps, h⟩ := h
  match ps, h with
  | [p, q, r, t], h =>
    simp only [lnkOk, Bool.and_eq_true] at h
    exact ⟨inP_mem h.1.1.2, inP_mem h.1.2, inP_mem h.2⟩
theorem nst_in {m i kd y : Nat} (h : mthR m i = some (kd, y)) (hk : kd = 3 ∨ kd = 4) : ((oNum m, i), (kd, y)) ∈ nstL := List.mem_filter.mpr ⟨lk_mem h, by rcases hk with rfl | rfl <;> rfl⟩
theorem st_split {st : List aV} {n : Nat} {zv : Value} {ρ : Nat → Nat} : st.map (cv zv ρ) = (((st.take n).reverse).map (cv zv ρ)).reverse ++ (st.drop n).map (cv zv ρ) := by
  rw [List.map_reverse, List.reverse_reverse, ← List.map_append, List.take_append_drop]
section CL
variable {p : Program} {l : Launch} {e : Env} {R : Room} {s : State} {mi : MethodId} {args : Array Value} {below : List Frame} {meth : Method} {c : Code} {Q : State → Prop} {D : va_G} {cA : Nat → ClassId} {zv : Value} {A : Nat → Prop} {m cells slots : Nat} {ρ : Nat → Nat} {pc : Nat} {L : List (Option aV)} {st : List aV} {G : aG} {I J : aI}
theorem A_of {ls : Array Slot} {H : Heap} {locs : List Loc} (C : cxM m D cA zv ρ A p R s mi args meth c) (hr : rp D cA zv ρ A s m L G I J ls H locs) : ∀ q, va_A (zW cA ρ G I J) H.size q → A q := by
  intro q hq
  rcases hq with ⟨k, e, hk⟩ | hq
  · exact hr.2.2.1.2 k _ hk
  · exact C.2.2.2.2.2.2.1 q (Nat.le_trans hr.2.2.2.1 hq)
theorem pc_blind {as : List aV} {sz : Nat} : FrameBlind (zPc D cA zv ρ as sz G I J) := fun a U g mk q => by
  obtain ⟨ha, hsz, hP, hK, hD, hZ⟩ := q
  exact ⟨ha, hsz, hP, va_K.moved (u := U) (U := U.calling g mk a) (Vm.Alike.refl U.vm) hK, hD, zK_same hZ rfl rfl⟩
theorem pc_at {as : List aV} {ls : Array Slot} {H : Heap} {locs : List Loc} (C : cxM m D cA zv ρ A p R s mi args meth c) (hr : rp D cA zv ρ A s m L G I J ls H locs) : ∀ U : State, U.heap = H → s.WarmedH U.vm → zPc D cA zv ρ as H.size G I J (as.map (cv zv ρ)).toArray U := fun U hU hW =>
  ⟨rfl, by rw [hU], by rw [hU]; exact hr.2.1, va_K.moved hW.alike C.2.2.2.2.2.1, hr.2.2.1.weaken (fun _ _ _ _ => trivial), zK_move (n := 0) C.2.2.2.2.2.2.2.1 zExt.rf hW (by rw [hU]; exact hr.2.2.2) (A_of C hr)⟩
theorem rcv_at {y : Nat} {v : aV} {ls : Array Slot} {H : Heap} {locs : List Loc} (h0 : 0 < y) (hy : y < metL.length) (C : cxM m D cA zv ρ A p R s mi args meth c) (hr : rp D cA zv ρ A s m L G I J ls H locs) (h : rcv y G v = true) : ∃ b, cv zv ρ v = .ref b ∧ ∃ cellB : Cell, H[b]? = some cellB ∧ cellB.vm.isStatics = false ∧ s.vm.findClass (nam y).cls = some cellB.cls := by
  match v, h with
  | .inr (.inr (some a)), h =>
    unfold rcv at h
    simp only [Bool.or_eq_true, Bool.and_eq_true, beq_iff_eq, decide_eq_true_eq] at h
    have hn := (met_1 h0 hy).2.1
    rcases h with ⟨⟨h1, h2⟩, h3⟩ | ⟨h1, h2⟩
    · have hc := sh_cls h1
      have he := zW_at (cA := cA) (ρ := ρ) (I := I) (J := J) h3
      rw [zE_obj h1] at he
      have hl := sh_lt (a := a) (by omega)
      refine ⟨ρ a, cv_ref (by omega), ?_⟩
      have h4 := va_recv C.2.2.2.2.2.1 hr.2.1 (clT_at hc) he
      rw [hn, ← h2, ← (f_kin hc).2.1]
      exact h4
    · obtain ⟨g1, g2, g3⟩ := sh_11 h1
      refine ⟨ρ a, cv_ref (by omega), ?_⟩
      have h4 := vk_recv (i := a - 1002) C.2.2.2.2.2.2.2.1.2.2.2.2.2.2.2.1 (by omega) hr.2.2.2
      simp only [show 1002 + (a - 1002) = a by omega] at h4
      rw [hn, h2]
      exact h4
end CL
set_option maxRecDepth 100000 in
set_option maxHeartbeats 4000000 in
theorem snd_call {l : Launch} {D : va_G} {cA : Nat → ClassId} {zv : Value} (hz : zv.category = 1) {f : Nat} (hS : Snd l D cA zv f) {d m pc y : Nat} {L : List (Option aV)} {st as rest : List aV} {G G1 : aG} {I J I1 J1 : aI} {v1 : Option aV} (hs : sOk m L st G I J) {kd : Nat} (hcd : calD m pc kd y) (hc : exCall kd y pc L st G I J = some (.inr (.inr (y, as, rest)))) (hg : go f d y (0, ent (mxl y) as, [], G, I, J) = some (v1, G1, I1, J1))
    {p : Program} {e : Env} {R : Room} {s : State} {mi : MethodId} {args : Array Value} {below : List Frame} {meth : Method} {c : Code} {Q : State → Prop} {A : Nat → Prop} {ρ : Nat → Nat} {cells slots : Nat} (C : cxM m D cA zv ρ A p R s mi args meth c) (hd1 : d + 1 + 1 ≤ R.frames) (hd2 : 64 * (d + 1) + 64 ≤ R.locals) (hcl : cells + (G1.1 - G.1) ≤ R.cells) (hsl : slots + (SZ G1.1 - SZ G.1) ≤ R.slots)
    (kk : ∀ ρ', zExt ρ ρ' G.1 → wN p l e R s mi args below meth c Q D cA zv A m (cells + (G1.1 - G.1)) (slots + (SZ G1.1 - SZ G.1)) ρ' (pc + 3) L (v1.toList ++ rest) G1 I1 J1) : wN p l e R s mi args below meth c Q D cA zv A m cells slots ρ pc L st G I J := by
  obtain ⟨-, hen, hct, hln, hsh⟩ := ex_cal hc
  obtain ⟨ham, hrm⟩ := as_mem hsh
  obtain ⟨i, hm, hdec⟩ := hcd
  obtain ⟨hlk, hy5⟩ := mth_in hm
  have hkd : kd < 5 := by omega
  obtain ⟨h0, hy⟩ : 0 < y ∧ y < metL.length := by omega
  obtain ⟨t1, t2, t3, t4, t5, t6⟩ := met_1 h0 hy
  intro ls H locs hr
  have hav : ∀ u ∈ as, vOk G.1 u := fun u hu => hs.2.1 u (ham u hu)
  have hM := met_of hz hS h0 hy hen hav hs.2.2.1 hg ρ H.size
  have hAo := A_of C hr
  have hCF : CallFix p mi c (cod m) (mxl m) s args WSg (oNm (oNum m)) := ⟨C.1, C.2.1, C.2.2.1, C.2.2.2.1, C.2.2.2.2.1⟩
  have hroom : (rmD d (G1.1 - G.1) (SZ G1.1 - SZ G.1)).frames + 1 ≤ R.frames ∧ 8 + (mxl y + 11) + (rmD d (G1.1 - G.1) (SZ G1.1 - SZ G.1)).locals ≤ R.locals := by
    refine ⟨hd1, ?_⟩
    show 8 + (mxl y + 11) + (64 * d + 64) ≤ R.locals
    omega
  have hcat : (((rest.map (cv zv ρ))).map fun v => v.category).sum ≤ 8 := by rw [cats_le hz]; exact hct
  have hsize : ls.size = mxl m := hr.1.1
  have key : va_Run p l e R s mi args below meth c H locs cells slots (G1.1 - G.1) (SZ G1.1 - SZ G.1) (F0 mi pc ls (st.map (cv zv ρ))) (rest.map (cv zv ρ)) (zQc D cA zv ρ H.size G I J v1 G1 I1 J1 (as.map (cv zv ρ)).toArray) (va_A (zW cA ρ G I J) H.size) → W p l e R s mi args below meth c H locs cells slots Q (F0 mi pc ls (st.map (cv zv ρ))) := by
    intro hrun T hT X
    obtain ⟨v0, st₀, t, T', Lx, hh0, X', hLx, e1, e2, ⟨⟨ρ', hx, hv, hP', hD'⟩, hz1, hk1⟩, hst⟩ := hrun T hT X
    rw [hh0] at hz1 hk1
    cases hv
    have hgk := go_ok f d y _ _ _ G I J v1 G1 I1 J1 (ent_ok hen hav hs.2.2.1) hg
    have hrp : rp D cA zv ρ' A s m L G1 I1 J1 ls T'.heap (locs ++ Lx) := by
      refine ⟨lH.ext hx hr.1 hs.1, by rw [e1]; exact hP', hD'.weaken (fun k q _ h => hAo _ h), Nat.le_trans hr.2.2.2.1 (by rw [e1]; exact hz1), fun q h1 h2 => ?_, fun q hq => ?_⟩
      · rw [e1, hk1 q (Nat.lt_of_lt_of_le h1 hr.2.2.2.1) (fun z => h2 (hAo q z))]
        exact hr.2.2.2.2.1 q h1 h2
      · rcases List.mem_append.mp hq with h | h
        · exact hr.2.2.2.2.2 q h
        · exact hAo _ (hLx q h)
    obtain ⟨t2, a1, b1⟩ := kk ρ' hx ls T'.heap (locs ++ Lx) hrp T' rfl X'
    rw [List.map_append, show rest.map (cv zv ρ') = rest.map (cv zv ρ) from List.map_congr_left (fun u hu => cv_ext hx (hs.2.1 u (hrm u hu)))] at a1
    refine ⟨t2, hst t2 ?_, b1⟩
    cases v1 <;> exact a1
  apply key
  rcases hsh with ⟨hk1, has, hrs⟩ | ⟨hk1, v, hdr, has, hrc⟩
  · subst hk1
    have hdc : decode (cod m) pc = .ok (.invokestatic i, 3) := by
      rcases hdec with ⟨-, h⟩ | ⟨h, -⟩ | ⟨-, h⟩
      · omega
      · exact h
      · omega
    obtain ⟨w1, w2, w3⟩ := lnk_1 hlk
    refine va_runS (n := npr y) (As := as.map (cv zv ρ)) hCF hM (va_cwS (npr y) C.2.2.2.2.1 (gi_W (gi_3 w1 w2 w3 (gi_y h0 hy))) rfl rfl rfl ⟨t3, t4, t5⟩ hroom) ⟨pc_blind, pc_at C hr⟩ rfl ?_ hsize ?_ (lv_room hcat) hdc ⟨hcl, hsl⟩
    · rw [has, List.length_map, List.length_reverse, List.length_take]
      omega
    · rw [has, hrs]
      exact st_split
  · obtain ⟨b, hb, hcell⟩ := rcv_at h0 hy C hr hrc
    have hAs : as.map (cv zv ρ) = .ref b :: (((st.take (npr y)).reverse).map (cv zv ρ)) := by rw [has, List.map_cons, hb]
    have hlen : (((st.take (npr y)).reverse).map (cv zv ρ)).length = npr y := by
      rw [List.length_map, List.length_reverse, List.length_take]
      omega
    have hstk : st.map (cv zv ρ) = (((st.take (npr y)).reverse).map (cv zv ρ)).reverse ++ .ref b :: rest.map (cv zv ρ) := by
      rw [st_split (n := npr y), hdr, List.map_cons, hb]
    have hpa : ∀ U : State, U.heap = H → s.WarmedH U.vm → zPc D cA zv ρ as H.size G I J (Value.ref b :: (((st.take (npr y)).reverse).map (cv zv ρ))).toArray U := by
      rw [← hAs]
      exact pc_at C hr
    rw [hAs]
    match kd, hk1, hkd, hlk, hdec, hm with
    | 0, _, _, hlk, hdec, hm =>
      have hdc : decode (cod m) pc = .ok (.invokevirtual i, 3) := by
        rcases hdec with ⟨h, -⟩ | ⟨-, h⟩ | ⟨-, h⟩
        · exact h
        · omega
        · omega
      obtain ⟨w1, w2, w3, w4⟩ := lnk_0 hlk
      exact va_runV (C := (nam y).cls) (n := npr y) hCF hM (cwV (npr y) C.2.2.2.2.1 (gi_W (gi_4 w1 w2 w3 w4 (gi_y h0 hy))) rfl rfl rfl ⟨rfl, t3, t4, t5⟩ hroom) ⟨pc_blind, hcell, hpa⟩ rfl hlen hsize hstk (lv_room hcat) hdc ⟨hcl, hsl⟩
    | 2, _, _, hlk, hdec, hm =>
      have hdc : decode (cod m) pc = .ok (.invokespecial i, 3) := by
        rcases hdec with ⟨-, h⟩ | ⟨-, h⟩ | ⟨h, -⟩
        · omega
        · omega
        · exact h
      obtain ⟨w1, w2, w3, w4, w5⟩ := lnk_2 hlk
      exact va_runI (n := npr y) hCF hM (cwI (ws' := WSg) (npr y) C.2.2.2.2.1 (gi_W (gi_y h0 hy)) (by unfold WSy; rw [w5]) rfl rfl (C.2.2.2.2.1 _ w3) (C.2.2.2.2.1 _ w1) (C.2.2.2.2.1 _ w2) w4 ⟨t3, t4, t5⟩ hroom) ⟨pc_blind, hpa⟩ rfl hlen hsize hstk (lv_room hcat) hdc ⟨hcl, hsl⟩
    | 3, _, _, hlk, hdec, hm =>
      have hdc : decode (cod m) pc = .ok (.invokespecial i, 3) := by
        rcases hdec with ⟨-, h⟩ | ⟨-, h⟩ | ⟨h, -⟩
        · omega
        · omega
        · exact h
      obtain ⟨w2, w3, w4, w5⟩ := lnk_3 hlk
      have hnst := C.2.2.2.2.2.2.2.1.2.2.2.2.2.2.2.2 _ (nst_in hm (Or.inl rfl))
      exact va_runIN (n := npr y) hCF hM ⟨va_cnB (ws' := WSg) (npr y) C.2.2.2.2.1 (gi_W (gi_y h0 hy)) (by unfold WSy; rw [w5]) rfl rfl hnst (C.2.2.2.2.1 _ w3) ⟨t3, t4, t5⟩ hroom, w4, C.2.2.2.2.1 _ w2⟩ ⟨pc_blind, hpa⟩ rfl hlen hsize hstk (lv_room hcat) hdc ⟨hcl, hsl⟩
    | 4, _, _, hlk, hdec, hm =>
      have hdc : decode (cod m) pc = .ok (.invokevirtual i, 3) := by
        rcases hdec with ⟨h, -⟩ | ⟨-, h⟩ | ⟨-, h⟩
        · exact h
        · omega
        · omega
      obtain ⟨w2, w3, w4⟩ := lnk_4 hlk
      have hnst := C.2.2.2.2.2.2.2.1.2.2.2.2.2.2.2.2 _ (nst_in hm (Or.inr rfl))
      exact va_runVN (C := (nam y).cls) (n := npr y) hCF hM ⟨va_cnB (ws' := WSg) (npr y) C.2.2.2.2.1 (gi_W (gi_y h0 hy)) rfl rfl rfl hnst (C.2.2.2.2.1 _ w4) ⟨t3, t4, t5⟩ hroom, C.2.2.2.2.1 _ w2, C.2.2.2.2.1 _ w3⟩ ⟨pc_blind, hcell, hpa⟩ rfl hlen hsize hstk (lv_room hcat) hdc ⟨hcl, hsl⟩
set_option maxRecDepth 100000 in
set_option maxHeartbeats 4000000 in
theorem snd_all {l : Launch} {D : va_G} {cA : Nat → ClassId} {zv : Value} (hz : zv.category = 1) : ∀ f, Snd l D cA zv f
  | 0 => fun _ _ _ _ _ _ _ _ _ _ _ _ h => by cases h
  | f + 1 => by
    have ih := snd_all (l := l) (D := D) (cA := cA) hz f
    intro d m pc L st G I J v G' I' J' h hs p e R s mi args below meth c Q A ρ cells slots C hd1 hd2 hx hcl hsl hret
    have hgo := go_ok (f + 1) d m pc L st G I J v G' I' J' hs h
    unfold go at h
    split at h
    · cases h
    · rename_i S hst
      obtain ⟨i, n, hd, he⟩ := stp_ex hst
      obtain ⟨pc1, L1, st1, G1, I1, J1⟩ := S
      obtain ⟨k1, k2, k3⟩ := y_ex hs he
      obtain ⟨q1, q2, q3, q4⟩ := go_ok f d m pc1 L1 st1 G1 I1 J1 v G' I' J' k1 h
      have hz1 := SZ_mono k2
      have hz2 := SZ_mono q3
      refine x_ex C hs hx (by omega) (by omega) hd he (fun ρ1 hx1 => ?_)
      refine ih d m pc1 L1 st1 G1 I1 J1 v G' I' J' h k1 p e R s mi args below meth c Q A ρ1 _ _ (cx_ext C hx1) hd1 hd2 (zX_ext hx hx1 k3) (by omega) (by omega) ?_
      intro ρ' pc' L' ls H locs hx' hrp hrt
      have h2 := hret ρ' pc' L' ls H locs (hx1.trans hx' k2) hrp hrt
      rw [show cells + (G1.1 - G.1) + (G'.1 - G1.1) = cells + (G'.1 - G.1) by omega, show slots + (SZ G1.1 - SZ G.1) + (SZ G'.1 - SZ G1.1) = slots + (SZ G'.1 - SZ G.1) by omega]
      exact h2
    · rename_i u hst
      obtain ⟨i, n, hd, he⟩ := stp_ex hst
      obtain ⟨hrt, hst2⟩ := r_ex hd he
      cases h
      intro ls H locs hr
      have h2 := hret ρ pc L ls H locs zExt.rf hr hrt
      rw [Nat.sub_self, Nat.sub_self] at h2
      rw [hst2]
      exact h2
    · rename_i y as rest hst
      obtain ⟨i, n, hd, he⟩ := stp_ex hst
      obtain ⟨kd, y0, hcd, hc⟩ := c_ex hd he
      obtain ⟨rfl, hen, -, -, hsh⟩ := ex_cal hc
      obtain ⟨ha, hr⟩ := as_mem hsh
      cases d with
      | zero => cases h
      | succ d =>
        dsimp only at h
        split at h
        · cases h
        · rename_i v1 G1 I1 J1 hg
          obtain ⟨k1, k2, k3, k4⟩ := go_ok f d y _ _ _ G I J v1 G1 I1 J1 (ent_ok hen (fun u hu => hs.2.1 u (ha u hu)) hs.2.2.1) hg
          have hs1 : sOk m L (v1.toList ++ rest) G1 I1 J1 := ⟨fun k u hk => vOk_up k3 (hs.1 k u hk), fun u hu => (by
            rcases List.mem_append.mp hu with hu | hu
            · exact k2 u (by cases v1 with | none => cases hu | some z => rw [List.mem_singleton.mp hu])
            · exact vOk_up k3 (hs.2.1 u (hr u hu))), k1, hs.2.2.2⟩
          obtain ⟨q1, q2, q3, q4⟩ := go_ok f (d + 1) m _ _ _ G1 I1 J1 v G' I' J' hs1 h
          have hz1 := SZ_mono k3
          have hz2 := SZ_mono q3
          refine snd_call hz ih hs hcd hc hg C hd1 hd2 (by omega) (by omega) (fun ρ1 hx1 => ?_)
          refine ih (d + 1) m (pc + 3) L (v1.toList ++ rest) G1 I1 J1 v G' I' J' h hs1 p e R s mi args below meth c Q A ρ1 _ _ (cx_ext C hx1) hd1 hd2 (zX_ext hx hx1 k4) (by omega) (by omega) ?_
          intro ρ' pc' L' ls H locs hx' hrp hrt
          have h2 := hret ρ' pc' L' ls H locs (hx1.trans hx' k3) hrp hrt
          rw [show cells + (G1.1 - G.1) + (G'.1 - G1.1) = cells + (G'.1 - G.1) by omega, show slots + (SZ G1.1 - SZ G.1) + (SZ G'.1 - SZ G1.1) = slots + (SZ G'.1 - SZ G.1) by omega]
          exact h2
