/-! the start: from the statement's own start to the small machine; and the claim, if the small machine answers 1 on every script -/
def R_law : String := "OneWireLaw"
def lw_P (b : Addr) (xs : List Int32) (args : Array Value) (s : State) : Prop := args = #[.ref b] ∧ s.IntsAt b xs ∧ xs.length ≤ 256 ∧ (Jvm.Cond.and given_1 narrow_1).before args s = true
def lw_Q (_ : Array Value) (s : State) (o : Outcome) (t : State) : Prop := o = .returned (some (.int 1)) ∧ Framed s o t [] 600000 7302250
def lw_Z (below : List Frame) (a : Array Value) (s : State) : State → Prop := fun t => ∃ o, t.status = .running ∧ Ended t below o ∧ lw_Q a s o t
/-- the law's own end, with 1 on the stack, nothing written that was there before, its room as the claim has it -/
theorem lw_ret {p : Program} {l : Launch} {e : Env} {s : State} {m : MethodId} {below : List Frame} {meth : Method} {c : Code} {b : Nat} (hx : p.tables.exec = Jvm.exec) (hb : c.code = code) (hr : meth.sig.returnType = ret) (hlocks : meth.locks = false) {pc : Nat} {H : Heap} {ls : Array Slot} (hdg : decode code pc = .ok (.ireturn, 1)) : W p l e room_1 s m #[Value.ref b] below meth c H [] 600000 7302250 (lw_Z below #[Value.ref b] s) (F0 m pc ls [.int 1]) := by
  intro T hT X
  obtain ⟨fs, hret, hrun, hended, hW, hframe⟩ := X.leave (v := some (.int 1)) (hlocks := hlocks) (fun h => by rw [hr] at h; cases h)
  have hmeth' : T.vm.method? m = some meth := X.method'
  refine ⟨T.setFrames fs, ?_, .returned (some (.int 1)), hrun, hended, rfl, ⟨_, rfl⟩, hW, hframe⟩
  jvm_step X.here [X.here.top, hx, hb, hdg, hmeth', hr, ret, narrow_b1]
  (try refine ⟨rfl, ?_⟩); (try refine ⟨rfl, ?_⟩)
  first | (intro acts; rw [hret _ acts rfl rfl rfl]) | rw [hret _ _ rfl rfl rfl]
  exact Steps.refl _
/-- what holds at the law's entry: the machine, the code, the tables' words (any of lw_tbl by 'hts w (by decide +kernel)'), the script of L ints xs at the cell b, what the Statement gives of the start (any of its parts by flat_of_before) -/
def lw_At (p : Program) (s : State) (m : MethodId) (meth : Method) (c : Code) (b L : Nat) (xs : Nat → Int32) : Prop :=
  p.tables.exec = Jvm.exec ∧ c.code = code ∧ meth.sig.returnType = ret ∧ c.maxLocals = 4 ∧ s.vm.findClass R_law = some m.cls ∧ (∀ w ∈ lw_tbl, w.before #[Value.ref b] s = true) ∧ va_X b L xs s s.heap ∧ b < s.heap.size ∧ meth.locks = false ∧ (Jvm.Cond.and given_1 narrow_1).before #[Value.ref b] s = true

def scI (n : Nat) (xs : Nat → Int) : aI := fun a k => if a = 1060 then xs k.toNat else if a = 1061 ∧ k = 0 then (n : Int) else 0
/-- what is left to be shown: the small machine's law answers 1 on every script -/
def ScrAt : Prop := ∀ (n : Nat) (xs : Nat → Int), n ≤ 256 → (∀ j, ok32 (xs j)) → At 1000 0 0 [some (vR 1060), none, none, none] [] (0, fun _ _ => none) (scI n xs) (fun _ _ => 0) (fun v G' _ _ => v = some (vI 1) ∧ G'.1 ≤ 108)
theorem sc_mok {n : Nat} {xs : Nat → Int} (hn : n ≤ 256) (hx : ∀ j, ok32 (xs j)) : mOk (0, fun _ _ => none) (scI n xs) (fun _ _ => 0) := by
  have h0 : ∀ a, a < 1000 → ∀ k, scI n xs a k = 0 := fun a ha k => by
    unfold scI
    rw [if_neg (by omega), if_neg (by omega)]
  refine ⟨Nat.zero_le _, fun a k => ?_, fun a k => (by show ok64 0; decide), fun a k b h => (by cases h), fun a _ ha k => ⟨h0 a ha k, rfl, rfl⟩, fun a k h => ?_⟩
  · unfold scI
    split
    · exact hx _
    · split
      · exact ⟨by omega, by omega⟩
      · decide
  · rw [h0 a (sh_lt (by omega)) k]
    decide
theorem sz_108 : SZ 108 ≤ 7302250 := by decide +kernel
def gnF : List Jvm.Cond := flatC (Jvm.Cond.and given_1 narrow_1)
def tmS (i : Nat) : Term := .string "OneWire$Tape" (60 + 2 * i)
def usT : Term := .static "OneWire$Rules" "USUAL" "[I"
def unT : Term := .static "OneWire$Calls" "UNDER" "[I"
theorem gn_1 : (List.range 7).all (fun j => decide (Jvm.Cond.eq (.elem usT (.int (Int32.ofNat j))) (.int (Int32.ofInt (KI 1000 (j : Int)))) ∈ gnF)) = true := by decide +kernel
theorem gn_2 : (List.range 5).all (fun j => decide (Jvm.Cond.eq (.elem unT (.int (Int32.ofNat j))) (.int (Int32.ofInt (KI 1001 (j : Int)))) ∈ gnF)) = true := by decide +kernel
theorem gn_3 : (List.range 7).all (fun i => decide (Jvm.Cond.exactly (tmS i) "java/lang/String" ∈ gnF) && decide (Jvm.Cond.eq (.field (tmS i) "java/lang/String" "coder" "B") (.int 0) ∈ gnF) && decide (Jvm.Cond.arrayOf (.field (tmS i) "java/lang/String" "value" "[B") .byte ∈ gnF) && decide (Jvm.Cond.eq (.length (.field (tmS i) "java/lang/String" "value" "[B")) (.int (Int32.ofNat (lenS.getD i 0))) ∈ gnF)) = true := by decide +kernel
theorem gn_4 : (List.range 7).all (fun i => (List.range (lenS.getD i 0)).all (fun j => decide (Jvm.Cond.eq (.elem (.field (tmS i) "java/lang/String" "value" "[B") (.int (Int32.ofNat j))) (.int ((bytS.getD i []).getD j 0)) ∈ gnF))) = true := by decide +kernel
theorem gn_5 : (List.range 7).all (fun i => (List.range 7).all (fun j => decide (i = j) || decide (Jvm.Cond.not (.eq (tmS i) (tmS j)) ∈ gnF) || decide (Jvm.Cond.not (.eq (tmS j) (tmS i)) ∈ gnF))) = true := by decide +kernel
theorem gn_6 : Jvm.Cond.arrayOf usT .int ∈ gnF ∧ Jvm.Cond.arrayOf unT .int ∈ gnF ∧ Jvm.Cond.eq (.length usT) (.int 7) ∈ gnF ∧ Jvm.Cond.eq (.length unT) (.int 5) ∈ gnF ∧ Jvm.Cond.eq (.static "java/lang/String" "COMPACT_STRINGS" "Z") (.int 1) ∈ gnF ∧ Jvm.Cond.isRef (.static "jdk/internal/util/Preconditions" "SIOOBE_FORMATTER" "Ljava/util/function/BiFunction;") ∈ gnF := by decide +kernel
theorem gn_7 : (List.range 7).all (fun i => decide (strI[i]? = some (60 + 2 * i, i)) && decide (lenS.getD i 0 < 100)) = true := by decide +kernel
theorem gn_8 : strI.length = 7 := by decide +kernel
theorem gs_0 : inN (3, 67) (.laysStatic "java/lang/String" "COMPACT_STRINGS" "Z") = true := by decide +kernel
theorem gj_0 : inN (1, 17) (.initialized "java/lang/String") = true := by decide +kernel
theorem gs_1 : inN (3, 75) (.laysStatic "jdk/internal/util/Preconditions" "SIOOBE_FORMATTER" "Ljava/util/function/BiFunction;") = true := by decide +kernel
theorem gj_1 : inN (1, 19) (.initialized "jdk/internal/util/Preconditions") = true := by decide +kernel
theorem gs_2 : inN (3, 198) (.laysStatic "OneWire$Rules" "USUAL" "[I") = true := by decide +kernel
theorem gj_2 : inN (1, 4) (.initialized "OneWire$Rules") = true := by decide +kernel
theorem gs_3 : inN (4, 24) (.laysStatic "OneWire$Calls" "UNDER" "[I") = true := by decide +kernel
theorem gj_3 : inN (1, 6) (.initialized "OneWire$Calls") = true := by decide +kernel
theorem gt_0 : inN (3, 51) (.stringRef "OneWire$Tape" 60 "first") = true := by decide +kernel
theorem gt_1 : inN (3, 52) (.stringRef "OneWire$Tape" 62 "dues") = true := by decide +kernel
theorem gt_2 : inN (3, 53) (.stringRef "OneWire$Tape" 64 "work") = true := by decide +kernel
theorem gt_3 : inN (3, 54) (.stringRef "OneWire$Tape" 66 "long") = true := by decide +kernel
theorem gt_4 : inN (3, 55) (.stringRef "OneWire$Tape" 68 "cords") = true := by decide +kernel
theorem gt_5 : inN (3, 56) (.stringRef "OneWire$Tape" 70 "tell") = true := by decide +kernel
theorem gt_6 : inN (3, 57) (.stringRef "OneWire$Tape" 72 "near") = true := by decide +kernel
theorem nst_tbl : ∀ e ∈ nstL, Jvm.Cond.methodLinkNest (oNm e.1.1) e.1.2 (nam e.2.2) "OneWire" ∈ lw_tbl := by
  intro e he
  obtain ⟨h1, h2⟩ := List.mem_filter.mp he
  obtain ⟨ps, hy⟩ := zp_all (by rw [tb_mlen.1, tb_mlen.2]) tb_mthA h1
  unfold mthOk at hy
  rw [Bool.and_eq_true] at hy
  have hy := hy.1
  simp only [Bool.or_eq_true, beq_iff_eq] at h2
  dsimp only at hy
  rcases h2 with h2 | h2
  · rw [h2] at hy
    match ps, hy with
    | [p, q, t], hy =>
      simp only [lnkOk, Bool.and_eq_true] at hy
      exact inN_mem hy.1.1.1.1
  · rw [h2] at hy
    match ps, hy with
    | [p, q, r, t], hy =>
      simp only [lnkOk, Bool.and_eq_true] at hy
      exact inN_mem hy.1.1.1
theorem ka_of {args : Array Value} {s : State} {ty : FieldType} (h : (Jvm.Cond.arrayClass ty).before args s = true) (hn : ∀ cA : ClassId, s.vm.findClass ("[" ++ ty.toString) = some cA → va_RA s cA ty) : ∃ cA : ClassId, ArrOfT s cA ty ∧ va_RA s cA ty := by
  obtain ⟨cB, kB, comp, hcB, hkB, hkind⟩ := Cond.arrayClass_spec h
  exact ⟨cB, fun n z => ⟨fun k h => (by cases h), kB, hkB, comp, hkind⟩, hn cB hcB⟩
theorem zK_start {args : Array Value} {s : State} {b : Nat} (hts : ∀ w ∈ lw_tbl, w.before args s = true) (hgv : ∀ c ∈ gnF, c.before args s = true) : ∃ (zv : Value) (ρ : Nat → Nat), zv.category = 1 ∧ ρ 1060 = b ∧ zK zv ρ (fun q => s.heap.size ≤ q) s := by
  have hA : ∀ a : Nat, a < s.heap.size → ¬ (fun q => s.heap.size ≤ q) a := fun a h => Nat.not_le.mpr h
  have H0 := va_Zof (hts _ (inN_mem gs_0)) (hts _ (inN_mem gj_0)) (va_eqt (hgv _ gn_6.2.2.2.2.1)) hA
  have H1 := va_Zqof (hts _ (inN_mem gs_1)) (hts _ (inN_mem gj_1)) (hgv _ gn_6.2.2.2.2.2) hA
  obtain ⟨tU, hU1, hU2⟩ := va_Tof (tm := usT) (N := 7) (f := fun j => .int (Int32.ofInt (KI 1000 (j : Int)))) (by decide) (hgv _ gn_6.1) (va_eqt (hgv _ gn_6.2.2.1)) (fun j hj => va_eqt (hgv _ (of_decide_eq_true (List.all_eq_true.mp gn_1 j (List.mem_range.mpr hj))))) hA
  obtain ⟨tV, hV1, hV2⟩ := va_Tof (tm := unT) (N := 5) (f := fun j => .int (Int32.ofInt (KI 1001 (j : Int)))) (by decide) (hgv _ gn_6.2.1) (va_eqt (hgv _ gn_6.2.2.2.1)) (fun j hj => va_eqt (hgv _ (of_decide_eq_true (List.all_eq_true.mp gn_2 j (List.mem_range.mpr hj))))) hA
  have H2 := va_Zof (hts _ (inN_mem gs_2)) (hts _ (inN_mem gj_2)) hU1 hA
  have H3 := va_Zof (hts _ (inN_mem gs_3)) (hts _ (inN_mem gj_3)) hV1 hA
  have g3 : ∀ i, i < 7 → Jvm.Cond.exactly (tmS i) "java/lang/String" ∈ gnF ∧ Jvm.Cond.eq (.field (tmS i) "java/lang/String" "coder" "B") (.int 0) ∈ gnF ∧ Jvm.Cond.arrayOf (.field (tmS i) "java/lang/String" "value" "[B") .byte ∈ gnF ∧ Jvm.Cond.eq (.length (.field (tmS i) "java/lang/String" "value" "[B")) (.int (Int32.ofNat (lenS.getD i 0))) ∈ gnF := by
    intro i hi
    have h := List.all_eq_true.mp gn_3 i (List.mem_range.mpr hi)
    simp only [Bool.and_eq_true, decide_eq_true_eq] at h
    exact ⟨h.1.1.1, h.1.1.2, h.1.2, h.2⟩
  obtain ⟨adK, adV, hS, hE⟩ := vk_Sof (N := 7) (tm := tmS) (len := lenS) (byt := bytS) (A := fun q => s.heap.size ≤ q) (args := args) (s := s)
    (fun i hi => by
      have h := List.all_eq_true.mp gn_7 i (List.mem_range.mpr hi)
      simp only [Bool.and_eq_true, decide_eq_true_eq] at h
      omega)
    (fun i hi => hgv _ (g3 i hi).1) (fun i hi => hgv _ (g3 i hi).2.1) (fun i hi => hgv _ (g3 i hi).2.2.1) (fun i hi => hgv _ (g3 i hi).2.2.2)
    (fun i hi j hj => hgv _ (of_decide_eq_true (List.all_eq_true.mp (List.all_eq_true.mp gn_4 i (List.mem_range.mpr hi)) j (List.mem_range.mpr hj))))
    (fun i j hi hj hne => by
      have h := List.all_eq_true.mp (List.all_eq_true.mp gn_5 i (List.mem_range.mpr hi)) j (List.mem_range.mpr hj)
      simp only [Bool.or_eq_true, decide_eq_true_eq] at h
      rcases h with (h | h) | h
      · exact absurd h hne
      · exact Or.inl (hgv _ h)
      · exact Or.inr (hgv _ h)) hA
  let ρ : Nat → Nat := fun a => if a = 1000 then tU else if a = 1001 then tV else if a < 1009 then adK (a - 1002) else if a < 1019 then adV (a - 1012) else b
  have e0 : ρ 1000 = tU := rfl
  have e1 : ρ 1001 = tV := rfl
  have e2 : ∀ i, i < 7 → ρ (1002 + i) = adK i := fun i hi => by
    show (if 1002 + i = 1000 then tU else if 1002 + i = 1001 then tV else if 1002 + i < 1009 then adK (1002 + i - 1002) else if 1002 + i < 1019 then adV (1002 + i - 1012) else b) = adK i
    rw [if_neg (by omega), if_neg (by omega), if_pos (by omega), show 1002 + i - 1002 = i by omega]
  have e3 : ∀ i, i < 7 → ρ (1012 + i) = adV i := fun i hi => by
    show (if 1012 + i = 1000 then tU else if 1012 + i = 1001 then tV else if 1012 + i < 1009 then adK (1012 + i - 1002) else if 1012 + i < 1019 then adV (1012 + i - 1012) else b) = adV i
    rw [if_neg (by omega), if_neg (by omega), if_neg (by omega), if_pos (by omega), show 1012 + i - 1012 = i by omega]
  have hR : ∀ i j, strI.lookup i = some j → ∃ t, vk_R (oNm 8) i t (ρ (1002 + j)) s := by
    intro i j hij
    obtain ⟨k, hk⟩ := List.mem_iff_getElem?.mp (lkN_mem hij)
    have hk7 : k < 7 := by rw [← gn_8]; exact (List.getElem?_eq_some_iff.mp hk).1
    have h := List.all_eq_true.mp gn_7 k (List.mem_range.mpr hk7)
    simp only [Bool.and_eq_true, decide_eq_true_eq] at h
    rw [h.1] at hk
    cases hk
    rw [e2 j hk7]
    have hE2 := hE j hk7
    match j, hk7, hE2 with
    | 0, _, hE2 => exact ⟨_, vk_R.of (hts _ (inN_mem gt_0)) hE2⟩
    | 1, _, hE2 => exact ⟨_, vk_R.of (hts _ (inN_mem gt_1)) hE2⟩
    | 2, _, hE2 => exact ⟨_, vk_R.of (hts _ (inN_mem gt_2)) hE2⟩
    | 3, _, hE2 => exact ⟨_, vk_R.of (hts _ (inN_mem gt_3)) hE2⟩
    | 4, _, hE2 => exact ⟨_, vk_R.of (hts _ (inN_mem gt_4)) hE2⟩
    | 5, _, hE2 => exact ⟨_, vk_R.of (hts _ (inN_mem gt_5)) hE2⟩
    | 6, _, hE2 => exact ⟨_, vk_R.of (hts _ (inN_mem gt_6)) hE2⟩
  have hSS : vk_S 7 lenS bytS (fun i => ρ (1002 + i)) (fun i => ρ (1012 + i)) (fun q => s.heap.size ≤ q) s s.heap := by
    refine ⟨fun i hi => ?_, fun i j hi hj h => ?_⟩
    · have h := hS.1 i hi
      show va_O _ (ρ (1002 + i)) _ _ _ ∧ va_OF _ _ _ _ (ρ (1002 + i)) _ _ _ ∧ va_OF _ _ _ (.ref (ρ (1012 + i))) (ρ (1002 + i)) _ _ _ ∧ va_T _ (ρ (1012 + i)) _ _ _ _ _
      rw [e2 i hi, e3 i hi]
      exact h
    · have h : ρ (1002 + i) = ρ (1002 + j) := h
      rw [e2 i hi, e2 j hj] at h
      exact hS.2 i j hi hj h
  have hN : ∀ e ∈ nstL, va_Nw (.methodLinkNest (oNm e.1.1) e.1.2 (nam e.2.2) "OneWire") s := fun e he => va_Nw.of rfl (hts _ (nst_tbl e he))
  rcases H1 with H1 | ⟨tz, H1⟩
  · exact ⟨.null, ρ, rfl, rfl, H0, H1, H2, H3, hU2, hV2, hR, hSS, hN⟩
  · exact ⟨.ref tz, ρ, rfl, rfl, H0, H1, H2, H3, hU2, hV2, hR, hSS, hN⟩
theorem kn_start {args : Array Value} {s : State} (hts : ∀ w ∈ lw_tbl, w.before args s = true) : ∃ (D : va_G) (cA : Nat → ClassId), va_K D vwCl (tyL cA) s := by
  have hk : ∀ ci, ∃ q : ClassId × (Nat → Nat), ci < 13 → u_Kn s (clT ci).1 (clT ci).2.1 (clT ci).2.2 q.1 q.2 := by
    intro ci
    by_cases hc : ci < 13
    · have hi : ∃ n, Jvm.Cond.instantiable (clT ci).1 n ∈ lw_tbl := by
        have h1 : (List.range 13).all (fun c => clsL.any (fun e => e.2 == c)) = true := by decide +kernel
        have h2 := List.all_eq_true.mp h1 ci (List.mem_range.mpr hc)
        obtain ⟨e, he, h3⟩ := List.any_eq_true.mp h2
        have h4 := eq_of_beq h3
        obtain ⟨y, hy⟩ := zp_all tb_cln tb_cls he
        unfold clsOk at hy
        split at hy
        · simp only [Bool.and_eq_true, decide_eq_true_eq] at hy
          rw [← h4]
          exact ⟨_, WSg_tbl (inP_mem hy.1.2)⟩
        · cases hy
      obtain ⟨n, hn⟩ := hi
      obtain ⟨cC, iS, h⟩ := u_known (N := (clT ci).2.2) hts (fun w hw => WSg_tbl (f_uws hc w hw)) (hts _ hn)
      exact ⟨(cC, iS), fun _ => h⟩
    · exact ⟨(0, fun _ => 0), fun h => absurd h hc⟩
  obtain ⟨g, hg⟩ := Classical.axiomOfChoice hk
  obtain ⟨c1, p1, r1⟩ := ka_of (ty := .int) (hts _ (WSg_tbl (inP_mem tb_one4))) (fun _ h => h)
  obtain ⟨c2, p2, r2⟩ := ka_of (ty := .long) (hts _ (WSg_tbl (inP_mem tb_one5))) (fun _ h => h)
  obtain ⟨c3, p3, r3⟩ := ka_of (ty := .byte) (hts _ (WSg_tbl (inP_mem tb_one6))) (fun _ h => h)
  obtain ⟨c4, p4, r4⟩ := ka_of (ty := .boolean) (hts _ (WSg_tbl (inP_mem tb_one7))) (fun _ h => h)
  refine ⟨(fun ci => (g ci).1, fun ci => (g ci).2), fun k => if k = 1 then c1 else if k = 2 then c2 else if k = 3 then c3 else c4, fun ci q hq => ?_, fun k q hq => ?_⟩
  · have hc : ci < 13 := (List.getElem?_eq_some_iff.mp hq).1
    rw [clT_at hc] at hq
    cases hq
    exact hg ci hc
  · match k, hq with
    | 0, hq => cases hq; exact ⟨p1, r1⟩
    | 1, hq => cases hq; exact ⟨p2, r2⟩
    | 2, hq => cases hq; exact ⟨p3, r3⟩
    | 3, hq => cases hq; exact ⟨p4, r4⟩
    | k + 4, hq => simp [tyL] at hq
set_option maxRecDepth 100000 in
set_option maxHeartbeats 4000000 in
theorem whole_start (hAt : ScrAt) {p : Program} {e : Env} {s : State} {m : MethodId} {below : List Frame} {meth : Method} {c : Code} (l : Launch) {b L : Nat} {xs : Nat → Int32} (hL : L ≤ 256) (C0 : lw_At p s m meth c b L xs) : W p l e room_1 s m #[Value.ref b] below meth c s.heap [] 0 0 (lw_Z below #[Value.ref b] s) (entryFrame m ([Value.ref b] : List Value).toArray 4) := by
  obtain ⟨hx, hb, hr, hml, hown, hts, hX, hbl, hlocks, hgv⟩ := id C0
  obtain ⟨zv, ρ, hz, hρ, hZ⟩ := zK_start (b := b) hts (flat_of_before _ hgv)
  obtain ⟨D, cA, hK⟩ := kn_start hts
  have hA : ∀ q : Nat, s.heap.size ≤ q → (fun q : Nat => s.heap.size ≤ q) q := fun _ h => h
  obtain ⟨f, v, G', I', J', hgo, hv, hG⟩ := hAt L (fun j => (xs j).toInt) hL (fun j => n_r32 _)
  have hs : sOk 0 [some (vR 1060), none, none, none] [] (0, fun _ _ => none) (scI L (fun j => (xs j).toInt)) (fun _ _ => 0) := by
    refine ⟨fun k u hk => ?_, fun u hu => absurd hu List.not_mem_nil, sc_mok hL (fun j => n_r32 _), fun k x hk => ?_, rfl⟩
    · match k, hk with
      | 0, hk => cases hk; exact Or.inr (by decide)
      | 1, hk => cases hk
      | 2, hk => cases hk
      | 3, hk => cases hk
      | k + 4, hk => cases hk
    · match k, hk with
      | 0, hk => cases hk
      | 1, hk => cases hk
      | 2, hk => cases hk
      | 3, hk => cases hk
      | k + 4, hk => cases hk
  have C : cxM 0 D cA zv ρ (fun q : Nat => s.heap.size ≤ q) p room_1 s m #[Value.ref b] meth c :=
    ⟨hx, hb, hml, hown, fun w hw => hts w (WSg_tbl hw), hK, hA, hZ, fun h => absurd h (by decide), Nat.le_of_ble_eq_true rfl, Nat.le_of_ble_eq_true rfl, hz⟩
  have hXX : zX 0 ρ (fun q : Nat => s.heap.size ≤ q) s (scI L (fun j => (xs j).toInt)) := by
    intro _
    refine ⟨L, xs, by rw [hρ]; exact hX, by rw [hρ]; exact hbl, by rw [hρ]; exact Nat.not_le.mpr hbl, rfl, hL, fun j _ => ?_⟩
    show xs j = Int32.ofInt (xs ((j : Int).toNat)).toInt
    rw [Int.toNat_natCast, Int32.ofInt_toInt]
  have hl := lv_entry ([.ref b]) (n := 4) (Nat.le_of_ble_eq_true rfl)
  rw [lg_entry_eq]
  generalize (lg_sl ([.ref b]) ++ List.replicate (4 - (lg_sl ([.ref b])).length) Slot.unset).toArray = ls at hl ⊢
  have hl : lv_has ls 4 [(0, .ref b)] := hl
  have hgk := go_ok f 1000 0 0 _ _ _ _ _ v G' I' J' hs hgo
  have hsz : SZ G'.1 ≤ 7302250 := Nat.le_trans (SZ_mono hG) sz_108
  subst hv
  refine snd_all hz f 1000 0 0 _ [] _ _ _ _ G' I' J' hgo hs p e room_1 s m #[Value.ref b] below meth c (lw_Z below #[Value.ref b] s) (fun q : Nat => s.heap.size ≤ q) ρ 0 0 C (Nat.le_of_ble_eq_true rfl) (Nat.le_of_ble_eq_true rfl) hXX (by show 0 + (G'.1 - 0) ≤ 600000; omega) (by show 0 + (SZ G'.1 - SZ 0) ≤ 7302250; omega) ?_ ls s.heap [] ⟨⟨hl.1, hl.2.1, fun k u hk => ?_⟩, fun k q h => by simp [zW] at h, ⟨fun i j p q h => by simp [zW] at h, fun k q h => by simp [zW] at h⟩, va_S.rf⟩
  · intro ρ' pc' L' ls' H locs hx' hrp hret
    obtain ⟨-, hP', hD', hS'⟩ := hrp
    intro T hT X
    refine W.widen (k := 600000) (n := 7302250) (by show 0 + (G'.1 - 0) ≤ 600000; omega) (by show 0 + (SZ G'.1 - SZ 0) ≤ 7302250; omega) ?_ T hT X
    have hfl : W p l e room_1 s m #[Value.ref b] below meth c H [] 600000 7302250 (lw_Z below #[Value.ref b] s) (F0 m pc' ls' [.int 1]) := lw_ret hx hb hr hlocks hret.1
    intro T2 hT2 X2
    exact hfl T2 hT2 (Stand.forget (extra := locs) X2 (fun q hq => hS'.2.2 q hq))
  · match k, hk with
    | 0, hk => cases hk; rw [cv_ref (by decide), hρ]; exact hl.2.2 (0, .ref b) List.mem_cons_self
    | 1, hk => cases hk
    | 2, hk => cases hk
    | 3, hk => cases hk
    | k + 4, hk => cases hk
set_option maxHeartbeats 4000000 in
theorem lw_walk (hAt : ScrAt) (l : Launch) (b : Addr) (xs : List Int32) : MetFree l x (headSpec (Jvm.Cond.code x code maxLocals ret :: tables_1) room_1) (lw_P b xs) (fun _ _ _ _ _ => True) lw_Q := by
  refine MetFree.of_bodyS (code := code) (maxLocals := maxLocals) (ret := ret) (by decide) ?_ ?_
  · intro args s m h hn
    obtain ⟨meth, c, h1, h2, h3, h4, h5, h6, -, -⟩ := Cond.code_spec hn (atoms_spec (ws := Jvm.Cond.code x code maxLocals ret :: tables_1) h _ List.mem_cons_self)
    exact ⟨meth, c, h1, h2, h3, h4, h5, h6⟩
  · intro p e s m args below meth c s₁ B hml0 hP _
    obtain ⟨rfl, hx, hbd, hgv⟩ := hP
    obtain ⟨scr, harrAt, hlist, hof, hsmall⟩ := hx
    obtain ⟨hcb, hkn, -, -⟩ := State.arrayAt?_spec harrAt
    have hown : s.vm.findClass R_law = some m.cls := findClass_of_methodNamed B.named
    have hts0 : ∀ c ∈ (Jvm.Cond.code x code maxLocals ret :: tables_1), c.before #[Value.ref b] s = true := atoms_spec (ws := Jvm.Cond.code x code maxLocals ret :: tables_1) B.pre
    have hts : ∀ w ∈ lw_tbl, w.before #[Value.ref b] s = true := k2_hts_sels lw_privs (fun w hw => hts0 w (List.mem_cons_of_mem _ hw)) lw_privs_ok
    have hml : c.maxLocals = 4 := B.maxLocals_eq (hts0 _ List.mem_cons_self)
    have X₀ : Stand p l e room_1 s m #[Value.ref b] below meth c s₁ [] 0 0 := Stand.of_body B
    have hh0 : s₁.heap = s.heap := by rw [B.state]; rfl
    have hsz : scr.slots.size = xs.length := by rw [← Array.length_toList, hlist, List.length_map]
    have hval : ∀ j : Nat, j < xs.length → scr.slots[j]? = some (.int (xs.getD j 0)) := fun j hj => by
      rw [← Array.getElem?_toList, hlist]
      simp [hj]
    have hbl : b < s.heap.size := (Array.getElem?_eq_some_iff.mp hcb).1
    have hX : va_X b xs.length (fun j => xs.getD j 0) s s.heap := ⟨scr, hcb, hof, hkn, hsz, hval⟩
    have K : W p l e room_1 s m #[Value.ref b] below meth c s₁.heap [] 0 0 (lw_Z below #[Value.ref b] s) (entryFrame m ([Value.ref b] : List Value).toArray 4) := by
      rw [hh0]
      exact whole_start hAt l hbd ⟨B.exec, B.bytes, B.returns, hml, hown, hts, hX, hbl, B.notSynchronized, hgv⟩
    obtain ⟨t, a1, o, b1, b2, b3⟩ := K s₁ rfl X₀
    exact ⟨t, o, a1, b1, b2, b3⟩
theorem lw_pre_spec {args : Array Value} {s : State} (h : (Jvm.Cond.and given_1 narrow_1).before args s = true) (hr : rest_1_c.before args s = true) : ∃ (b : Addr) (xs : List Int32), lw_P b xs args s := by
  have hs := flat_of_before _ h
  have hq := flat_of_before _ hr
  have hc : (Cond.count 1).before args s = true := hs _ (by decide +kernel)
  have harr : (Cond.arrayOf (.arg 0) .int).before args s = true := hs _ (by decide +kernel)
  have hle : (Cond.le (.length (.arg 0)) (.int 256)).before args s = true := hs _ (by decide +kernel)
  have hlen : (Cond.isInt (.length (.arg 0))).before args s = true := hq _ (by decide +kernel)
  have hall : (Cond.all (.arg 0) (.isInt (.elem (.arg 0) (.index 0)))).before args s = true := hq _ (by decide +kernel)
  obtain ⟨b, xs, hb, hx⟩ := State.ints_of_pre rfl harr hlen hall
  have hsm : xs.length < 2 ^ 31 := hx.choose_spec.2.2.2
  have hev : (Term.length (.arg 0)).eval args s none [] s = some (.int xs.length.toInt32) := hx.length_eval hb
  have hv := Cond.le_ints hev (show (Term.int 256).eval args s none [] s = some (.int 256) from rfl)
  have hd : xs.length.toInt32 ≤ 256 := by
    simpa [Cond.before, Cond.holds, hv] using hle
  have hN : xs.length ≤ 256 := (Int32.ofNat_le_ofNat hsm (by decide)).mp (show Int32.ofNat xs.length ≤ Int32.ofNat 256 from hd)
  exact ⟨b, xs, Cond.one_arg hc (show args[0]? = some (.ref b) from hb), hx, hN, h⟩
theorem lw_comes (hAt : ScrAt) (l : Launch) : Comes l x (Jvm.Cond.code x code maxLocals ret :: tables_1) room_1 (fun tb e args s => Calls_1 tb e args s ∧ rest_1 tb e args s ∧ Pre_1 tb e args s)
    (fun _ _ args s o t => lw_Q args s o t) := by
  intro p e ha hc hk s m args below hf hfit hheap happ hpre
  obtain ⟨b, xs, hP⟩ := lw_pre_spec hpre.2.2 hpre.2.1
  obtain ⟨k, o, h1, h2, h3, hQ⟩ := lw_walk hAt l b xs p e ha hc hk s m args below hf ((Spec.applies_iff_loose hf).mp happ).1 hP trivial
  exact ⟨k, o, h1, h2, h3, hQ⟩
theorem lw_frame {s t : State} {o : Outcome} {args : Array Value} (h : Framed s o t [] 600000 7302250) :
    Framed s o t (fieldLocs frame_1_writes args s ++ arrayLocs frame_1_arrays args s ++ staticLocs frame_1_statics s) 600000 7302250 := h
theorem lw_limb (hAt : ScrAt) (L : Cond) (hL : ∀ (args : Array Value) (s t : State), L.after args s (.returned (some (.int 1))) t = true) :
    ArmFor flags0 classFile x code maxLocals ret World_1 tables_1 room_1 Calls_1 rest_1 Pre_1
      (fun tb e a s o t => postC L tb e a s o t ∧ Framed s o t (fieldLocs frame_1_writes a s ++ arrayLocs frame_1_arrays a s ++ staticLocs frame_1_statics s) 600000 7302250) := by
  intro l hflags _ _ p e ha hc hk s m args below hf hfit hheap happ hpre
  obtain ⟨k, o, h1, h2, h3, rfl, hF⟩ := lw_comes hAt l p e ha hc hk s m args below hf hfit hheap happ hpre
  exact ⟨k, _, h1, h2, h3, hL args s _, lw_frame hF⟩
theorem vc_of (hAt : ScrAt) : Claimed_1_1 ∧ Claimed_1_2 := ⟨lw_limb hAt limb_1_1 (fun args s t => by simp [limb_1_1, Cond.after, Cond.holds, Cond.value]), lw_limb hAt limb_1_2 (fun args s t => Cond.after_iff.mpr (by
  first | (rw [show limb_1_2 = Cond.eq .result (.int 1) from rfl, Cond.eq_ints (x := 1) (y := 1) rfl rfl]; simp; done) | (simp [limb_1_2, Cond.value, Term.eval]; done)))⟩

