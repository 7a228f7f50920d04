/-! a step of the small machine is a step of the machine: a row an instruction (by wip/whole/s1.py) -/
def tyL (cA : Nat → ClassId) : List (ClassId × FieldType) := [(cA 1, .int), (cA 2, .long), (cA 3, .byte), (cA 4, .boolean)]
def nstL : List ((Nat × Nat) × (Nat × Nat)) := mthL.filter (fun e => e.2.1 == 3 || e.2.1 == 4)
def lenS : List Nat := strB.map List.length
def bytS : List (List Int32) := strB.map (fun l => l.map Int32.ofInt)
/-- what stays from the start on: statics, texts, the nest's links -/
def zK (zv : Value) (ρ : Nat → Nat) (A : Nat → Prop) (s : State) : Prop :=
  va_Z "java/lang/String" "COMPACT_STRINGS" "Z" (.int 1) A s s.heap ∧ va_Z "jdk/internal/util/Preconditions" "SIOOBE_FORMATTER" "Ljava/util/function/BiFunction;" zv A s s.heap ∧
  va_Z "OneWire$Rules" "USUAL" "[I" (.ref (ρ 1000)) A s s.heap ∧ va_Z "OneWire$Calls" "UNDER" "[I" (.ref (ρ 1001)) A s s.heap ∧
  va_T .int (ρ 1000) 7 (fun j => .int (Int32.ofInt (KI 1000 (j : Int)))) A s s.heap ∧ va_T .int (ρ 1001) 5 (fun j => .int (Int32.ofInt (KI 1001 (j : Int)))) A s s.heap ∧
  (∀ i j, strI.lookup i = some j → ∃ t, vk_R (oNm 8) i t (ρ (1002 + j)) s) ∧ vk_S 7 lenS bytS (fun i => ρ (1002 + i)) (fun i => ρ (1012 + i)) A s s.heap ∧
  ∀ e ∈ nstL, va_Nw (.methodLinkNest (oNm e.1.1) e.1.2 (nam e.2.2) "OneWire") s
/-- the script, where the law is walked -/
def zX (m : Nat) (ρ : Nat → Nat) (A : Nat → Prop) (s : State) (I : aI) : Prop := m = 0 → ∃ (n : Nat) (xs : Nat → Int32), va_X (ρ 1060) n xs s s.heap ∧ ρ 1060 < s.heap.size ∧ ¬ A (ρ 1060) ∧ I 1061 0 = n ∧ n ≤ 256 ∧ ∀ j, j < n → xs j = Int32.ofInt (I 1060 (j : Int))
def cxM (m : Nat) (D : va_G) (cA : Nat → ClassId) (zv : Value) (ρ : Nat → Nat) (A : Nat → Prop) (p : Program) (R : Room) (s : State) (mi : MethodId) (args : Array Value) (meth : Method) (c : Code) : Prop :=
  p.tables.exec = Jvm.exec ∧ c.code = cod m ∧ c.maxLocals = mxl m ∧ s.vm.findClass (oNm (oNum m)) = some mi.cls ∧ (∀ w ∈ WSg, w.before args s = true) ∧ va_K D vwCl (tyL cA) s ∧ (∀ q, s.heap.size ≤ q → A q) ∧ zK zv ρ A s ∧ (m ∈ iniL → meth.name = "<init>") ∧ 1 ≤ R.frames ∧ 64 ≤ R.locals ∧ zv.category = 1
def rp (D : va_G) (cA : Nat → ClassId) (zv : Value) (ρ : Nat → Nat) (A : Nat → Prop) (s : State) (m : Nat) (L : List (Option aV)) (G : aG) (I J : aI) (ls : Array Slot) (H : Heap) (locs : List Loc) : Prop := lH zv ρ ls (mxl m) L ∧ va_P D vwCl (zW cA ρ G I J) H ∧ va_D A (zW cA ρ G I J) ∧ va_S A s.heap H locs
def wN (p : Program) (l : Launch) (e : Env) (R : Room) (s : State) (mi : MethodId) (args : Array Value) (below : List Frame) (meth : Method) (c : Code) (Q : State → Prop) (D : va_G) (cA : Nat → ClassId) (zv : Value) (A : Nat → Prop) (m cells slots : Nat) (ρ : Nat → Nat) (pc : Nat) (L : List (Option aV)) (st : List aV) (G : aG) (I J : aI) : Prop :=
  ∀ (ls : Array Slot) (H : Heap) (locs : List Loc), rp D cA zv ρ A s m L G I J ls H locs → W p l e R s mi args below meth c H locs cells slots Q (F0 mi pc ls (st.map (cv zv ρ)))
theorem stK_lt {m : Nat} {L : List (Option aV)} {i : Nat} (h : stK m L i = true) : i < L.length := by
  unfold stK at h
  simp only [Bool.and_eq_true, decide_eq_true_eq] at h
  exact h.1.1
section ST
variable {p : Program} {l : Launch} {e : Env} {R : Room} {s : State} {mi : MethodId} {args : Array Value} {below : List Frame} {meth : Method} {c : Code} {Q : State → Prop} {D : va_G} {cA : Nat → ClassId} {zv : Value} {A : Nat → Prop} {m cells slots : Nat} {ρ : Nat → Nat} {pc : Nat} {L : List (Option aV)} {st : List aV} {G : aG} {I J : aI}
theorem s_iconst {v : Int} (C : cxM m D cA zv ρ A p R s mi args meth c) (hd : decode (cod m) pc = .ok (.iconst v, 1)) (k : wN p l e R s mi args below meth c Q D cA zv A m cells slots ρ (pc + 1) L (.inl v :: st) G I J) : wN p l e R s mi args below meth c Q D cA zv A m cells slots ρ pc L (st) G I J := fun ls H locs hr => by
  exact lv_iconst C.1 C.2.1 hd rfl (k ls H locs hr)
theorem s_bipush {v : Int} (h : -128 ≤ v ∧ v ≤ 127) (C : cxM m D cA zv ρ A p R s mi args meth c) (hd : decode (cod m) pc = .ok (.bipush v, 2)) (k : wN p l e R s mi args below meth c Q D cA zv A m cells slots ρ (pc + 2) L (.inl v :: st) G I J) : wN p l e R s mi args below meth c Q D cA zv A m cells slots ρ pc L (st) G I J := fun ls H locs hr => by
  exact lv_bipush C.1 C.2.1 hd (n_b8 h) (k ls H locs hr)
theorem s_sipush {v : Int} (h : -32768 ≤ v ∧ v ≤ 32767) (C : cxM m D cA zv ρ A p R s mi args meth c) (hd : decode (cod m) pc = .ok (.sipush v, 3)) (k : wN p l e R s mi args below meth c Q D cA zv A m cells slots ρ (pc + 3) L (.inl v :: st) G I J) : wN p l e R s mi args below meth c Q D cA zv A m cells slots ρ pc L (st) G I J := fun ls H locs hr => by
  exact lv_sipush C.1 C.2.1 hd (n_b16 h) (k ls H locs hr)
theorem s_ldc {i : Nat} {v : Int} (h : Jvm.Cond.constant (oNm (oNum m)) i (Int32.ofInt v) ∈ WSg) (C : cxM m D cA zv ρ A p R s mi args meth c) (hd : decode (cod m) pc = .ok (.ldc i, 2)) (k : wN p l e R s mi args below meth c Q D cA zv A m cells slots ρ (pc + 2) L (.inl v :: st) G I J) : wN p l e R s mi args below meth c Q D cA zv A m cells slots ρ pc L (st) G I J := fun ls H locs hr => by
  exact lv_ldc C.1 C.2.1 C.2.2.2.1 (C.2.2.2.2.1 _ h) hd (k ls H locs hr)
theorem s_ldcw {i : Nat} {v : Int} (h : Jvm.Cond.constant (oNm (oNum m)) i (Int32.ofInt v) ∈ WSg) (C : cxM m D cA zv ρ A p R s mi args meth c) (hd : decode (cod m) pc = .ok (.ldc_w i, 3)) (k : wN p l e R s mi args below meth c Q D cA zv A m cells slots ρ (pc + 3) L (.inl v :: st) G I J) : wN p l e R s mi args below meth c Q D cA zv A m cells slots ρ pc L (st) G I J := fun ls H locs hr => by
  exact lv_ldcw C.1 C.2.1 C.2.2.2.1 (C.2.2.2.2.1 _ h) hd (k ls H locs hr)
theorem s_ldc2 {i : Nat} {v : Int} (h : Jvm.Cond.constantLong (oNm (oNum m)) i (Int64.ofInt v) ∈ WSg) (C : cxM m D cA zv ρ A p R s mi args meth c) (hd : decode (cod m) pc = .ok (.ldc2_w i, 3)) (k : wN p l e R s mi args below meth c Q D cA zv A m cells slots ρ (pc + 3) L (.inr (.inl v) :: st) G I J) : wN p l e R s mi args below meth c Q D cA zv A m cells slots ρ pc L (st) G I J := fun ls H locs hr => by
  exact lv_ldc2 C.1 C.2.1 C.2.2.2.1 (C.2.2.2.2.1 _ h) hd (k ls H locs hr)
theorem s_ldcS {i j : Nat} (ho : oNum m = 8) (h : strI.lookup i = some j) (hj : 1002 + j ≠ 1050) (C : cxM m D cA zv ρ A p R s mi args meth c) (hd : decode (cod m) pc = .ok (.ldc i, 2)) (k : wN p l e R s mi args below meth c Q D cA zv A m cells slots ρ (pc + 2) L (vR (1002 + j) :: st) G I J) : wN p l e R s mi args below meth c Q D cA zv A m cells slots ρ pc L (st) G I J := fun ls H locs hr => by
  obtain ⟨t, ht⟩ := C.2.2.2.2.2.2.2.1.2.2.2.2.2.2.1 i j h
  refine va_ldcS C.1 C.2.1 (by rw [← ho]; exact C.2.2.2.1) ht hd ?_
  have e : cv zv ρ (vR (1002 + j)) = .ref (ρ (1002 + j)) := if_neg hj
  have k1 := k ls H locs hr
  rw [List.map_cons, e] at k1
  exact k1
theorem s_lconst {v : Fin 2} (C : cxM m D cA zv ρ A p R s mi args meth c) (hd : decode (cod m) pc = .ok (.lconst v, 1)) (k : wN p l e R s mi args below meth c Q D cA zv A m cells slots ρ (pc + 1) L (.inr (.inl (v.val : Int)) :: st) G I J) : wN p l e R s mi args below meth c Q D cA zv A m cells slots ρ pc L (st) G I J := fun ls H locs hr => by
  exact lv_lconst C.1 C.2.1 hd (Int64.ofInt_eq_ofNat).symm (k ls H locs hr)
theorem s_null (C : cxM m D cA zv ρ A p R s mi args meth c) (hd : decode (cod m) pc = .ok (.aconst_null, 1)) (k : wN p l e R s mi args below meth c Q D cA zv A m cells slots ρ (pc + 1) L (vN :: st) G I J) : wN p l e R s mi args below meth c Q D cA zv A m cells slots ρ pc L (st) G I J := fun ls H locs hr => by
  exact lv_null C.1 C.2.1 hd (k ls H locs hr)
theorem s_iload_n {i : Fin 4} {x : Int} (h : lG L i.val = some (.inl x)) (C : cxM m D cA zv ρ A p R s mi args meth c) (hd : decode (cod m) pc = .ok (.iload_n i, 1)) (k : wN p l e R s mi args below meth c Q D cA zv A m cells slots ρ (pc + 1) L (.inl x :: st) G I J) : wN p l e R s mi args below meth c Q D cA zv A m cells slots ρ pc L (st) G I J := fun ls H locs hr => by
  exact lv_iload_n C.1 C.2.1 hd rfl (hr.1.2.2 _ _ h) (k ls H locs hr)
theorem s_iload {i : Nat} {x : Int} (h : lG L i = some (.inl x)) (C : cxM m D cA zv ρ A p R s mi args meth c) (hd : decode (cod m) pc = .ok (.iload i, 2)) (k : wN p l e R s mi args below meth c Q D cA zv A m cells slots ρ (pc + 2) L (.inl x :: st) G I J) : wN p l e R s mi args below meth c Q D cA zv A m cells slots ρ pc L (st) G I J := fun ls H locs hr => by
  exact lv_iload C.1 C.2.1 hd (hr.1.2.2 _ _ h) (k ls H locs hr)
theorem s_lload_n {i : Fin 4} {x : Int} (h : lG L i.val = some (.inr (.inl x))) (C : cxM m D cA zv ρ A p R s mi args meth c) (hd : decode (cod m) pc = .ok (.lload_n i, 1)) (k : wN p l e R s mi args below meth c Q D cA zv A m cells slots ρ (pc + 1) L (.inr (.inl x) :: st) G I J) : wN p l e R s mi args below meth c Q D cA zv A m cells slots ρ pc L (st) G I J := fun ls H locs hr => by
  exact lv_lload_n C.1 C.2.1 hd rfl (hr.1.2.2 _ _ h) (k ls H locs hr)
theorem s_aload_n {i : Fin 4} {a : Nat} (h : lG L i.val = some (vR a)) (ha : a ≠ 1050) (C : cxM m D cA zv ρ A p R s mi args meth c) (hd : decode (cod m) pc = .ok (.aload_n i, 1)) (k : wN p l e R s mi args below meth c Q D cA zv A m cells slots ρ (pc + 1) L (vR a :: st) G I J) : wN p l e R s mi args below meth c Q D cA zv A m cells slots ρ pc L (st) G I J := fun ls H locs hr => by
  have e : cv zv ρ (vR a) = .ref (ρ a) := if_neg ha
  have k1 := k ls H locs hr
  have h1 := hr.1.2.2 _ _ h
  rw [List.map_cons, e] at k1
  rw [e] at h1
  exact lv_aload_n C.1 C.2.1 hd rfl h1 k1
theorem s_aloadN_n {i : Fin 4} (h : lG L i.val = some vN) (C : cxM m D cA zv ρ A p R s mi args meth c) (hd : decode (cod m) pc = .ok (.aload_n i, 1)) (k : wN p l e R s mi args below meth c Q D cA zv A m cells slots ρ (pc + 1) L (vN :: st) G I J) : wN p l e R s mi args below meth c Q D cA zv A m cells slots ρ pc L (st) G I J := fun ls H locs hr => by
  exact lv_aload_nN C.1 C.2.1 hd rfl (hr.1.2.2 _ _ h) (k ls H locs hr)
theorem s_aload {i : Nat} {a : Nat} (h : lG L i = some (vR a)) (ha : a ≠ 1050) (C : cxM m D cA zv ρ A p R s mi args meth c) (hd : decode (cod m) pc = .ok (.aload i, 2)) (k : wN p l e R s mi args below meth c Q D cA zv A m cells slots ρ (pc + 2) L (vR a :: st) G I J) : wN p l e R s mi args below meth c Q D cA zv A m cells slots ρ pc L (st) G I J := fun ls H locs hr => by
  have e : cv zv ρ (vR a) = .ref (ρ a) := if_neg ha
  have k1 := k ls H locs hr
  have h1 := hr.1.2.2 _ _ h
  rw [List.map_cons, e] at k1
  rw [e] at h1
  exact lv_aload C.1 C.2.1 hd h1 k1
theorem s_aloadN {i : Nat} (h : lG L i = some vN) (C : cxM m D cA zv ρ A p R s mi args meth c) (hd : decode (cod m) pc = .ok (.aload i, 2)) (k : wN p l e R s mi args below meth c Q D cA zv A m cells slots ρ (pc + 2) L (vN :: st) G I J) : wN p l e R s mi args below meth c Q D cA zv A m cells slots ρ pc L (st) G I J := fun ls H locs hr => by
  exact lv_aloadN C.1 C.2.1 hd (hr.1.2.2 _ _ h) (k ls H locs hr)
theorem s_istore_n {i : Fin 4} {x : Int} (hs : sOk m L (.inl x :: st) G I J) (h : stK m L i.val = true) (C : cxM m D cA zv ρ A p R s mi args meth c) (hd : decode (cod m) pc = .ok (.istore_n i, 1)) (k : wN p l e R s mi args below meth c Q D cA zv A m cells slots ρ (pc + 1) (L.set i.val (some (.inl x))) (st) G I J) : wN p l e R s mi args below meth c Q D cA zv A m cells slots ρ pc L (.inl x :: st) G I J := fun ls H locs hr => by
  refine lv_istore_n C.1 C.2.1 hd rfl hr.1.has (by rw [← hs.2.2.2.2]; exact stK_lt h) rfl (fun ls' hl => ?_)
  exact k ls' H locs ⟨lH.put C.2.2.2.2.2.2.2.2.2.2.2 hs.2.2.2.1 h rfl hl, hr.2⟩
theorem s_istore {i : Nat} {x : Int} (hs : sOk m L (.inl x :: st) G I J) (h : stK m L i = true) (C : cxM m D cA zv ρ A p R s mi args meth c) (hd : decode (cod m) pc = .ok (.istore i, 2)) (k : wN p l e R s mi args below meth c Q D cA zv A m cells slots ρ (pc + 2) (L.set i (some (.inl x))) (st) G I J) : wN p l e R s mi args below meth c Q D cA zv A m cells slots ρ pc L (.inl x :: st) G I J := fun ls H locs hr => by
  refine lv_istore C.1 C.2.1 hd hr.1.has (by rw [← hs.2.2.2.2]; exact stK_lt h) rfl (fun ls' hl => ?_)
  exact k ls' H locs ⟨lH.put C.2.2.2.2.2.2.2.2.2.2.2 hs.2.2.2.1 h rfl hl, hr.2⟩
theorem s_astore_n {i : Fin 4} {a : Nat} (hs : sOk m L (vR a :: st) G I J) (h : stK m L i.val = true) (ha : a ≠ 1050) (C : cxM m D cA zv ρ A p R s mi args meth c) (hd : decode (cod m) pc = .ok (.astore_n i, 1)) (k : wN p l e R s mi args below meth c Q D cA zv A m cells slots ρ (pc + 1) (L.set i.val (some (vR a))) (st) G I J) : wN p l e R s mi args below meth c Q D cA zv A m cells slots ρ pc L (vR a :: st) G I J := fun ls H locs hr => by
  have e : cv zv ρ (vR a) = .ref (ρ a) := if_neg ha
  rw [List.map_cons, e]
  refine lv_astore_n C.1 C.2.1 hd rfl hr.1.has (by rw [← hs.2.2.2.2]; exact stK_lt h) rfl (fun ls' hl => ?_)
  exact k ls' H locs ⟨lH.put C.2.2.2.2.2.2.2.2.2.2.2 hs.2.2.2.1 h e.symm hl, hr.2⟩
theorem s_astoreN_n {i : Fin 4} (hs : sOk m L (vN :: st) G I J) (h : stK m L i.val = true) (C : cxM m D cA zv ρ A p R s mi args meth c) (hd : decode (cod m) pc = .ok (.astore_n i, 1)) (k : wN p l e R s mi args below meth c Q D cA zv A m cells slots ρ (pc + 1) (L.set i.val (some vN)) (st) G I J) : wN p l e R s mi args below meth c Q D cA zv A m cells slots ρ pc L (vN :: st) G I J := fun ls H locs hr => by
  refine lv_astore_nN C.1 C.2.1 hd rfl hr.1.has (by rw [← hs.2.2.2.2]; exact stK_lt h) rfl (fun ls' hl => ?_)
  exact k ls' H locs ⟨lH.put C.2.2.2.2.2.2.2.2.2.2.2 hs.2.2.2.1 h rfl hl, hr.2⟩
theorem s_astore {i : Nat} {a : Nat} (hs : sOk m L (vR a :: st) G I J) (h : stK m L i = true) (ha : a ≠ 1050) (C : cxM m D cA zv ρ A p R s mi args meth c) (hd : decode (cod m) pc = .ok (.astore i, 2)) (k : wN p l e R s mi args below meth c Q D cA zv A m cells slots ρ (pc + 2) (L.set i (some (vR a))) (st) G I J) : wN p l e R s mi args below meth c Q D cA zv A m cells slots ρ pc L (vR a :: st) G I J := fun ls H locs hr => by
  have e : cv zv ρ (vR a) = .ref (ρ a) := if_neg ha
  rw [List.map_cons, e]
  refine lv_astore C.1 C.2.1 hd hr.1.has (by rw [← hs.2.2.2.2]; exact stK_lt h) rfl (fun ls' hl => ?_)
  exact k ls' H locs ⟨lH.put C.2.2.2.2.2.2.2.2.2.2.2 hs.2.2.2.1 h e.symm hl, hr.2⟩
theorem s_astoreN {i : Nat} (hs : sOk m L (vN :: st) G I J) (h : stK m L i = true) (C : cxM m D cA zv ρ A p R s mi args meth c) (hd : decode (cod m) pc = .ok (.astore i, 2)) (k : wN p l e R s mi args below meth c Q D cA zv A m cells slots ρ (pc + 2) (L.set i (some vN)) (st) G I J) : wN p l e R s mi args below meth c Q D cA zv A m cells slots ρ pc L (vN :: st) G I J := fun ls H locs hr => by
  refine lv_astoreN C.1 C.2.1 hd hr.1.has (by rw [← hs.2.2.2.2]; exact stK_lt h) rfl (fun ls' hl => ?_)
  exact k ls' H locs ⟨lH.put C.2.2.2.2.2.2.2.2.2.2.2 hs.2.2.2.1 h rfl hl, hr.2⟩
theorem s_lstore_n {i : Fin 4} {x : Int} (hs : sOk m L (.inr (.inl x) :: st) G I J) (h : i.val + 1 < L.length) (hp : i.val = 0 ∨ lngT m (i.val - 1) = false) (C : cxM m D cA zv ρ A p R s mi args meth c) (hd : decode (cod m) pc = .ok (.lstore_n i, 1)) (k : wN p l e R s mi args below meth c Q D cA zv A m cells slots ρ (pc + 1) ((L.set i.val (some (.inr (.inl x)))).set (i.val + 1) none) (st) G I J) : wN p l e R s mi args below meth c Q D cA zv A m cells slots ρ pc L (.inr (.inl x) :: st) G I J := fun ls H locs hr => by
  refine lv_lstore_n C.1 C.2.1 hd rfl hr.1.has (by rw [← hs.2.2.2.2]; exact h) rfl (fun ls' hl => ?_)
  exact k ls' H locs ⟨lH.putL C.2.2.2.2.2.2.2.2.2.2.2 hs.2.2.2.1 h hp hl, hr.2⟩
theorem s_iinc {i : Nat} {x v : Int} (hs : sOk m L st G I J) (hg : lG L i = some (.inl x)) (h : stK m L i = true) (C : cxM m D cA zv ρ A p R s mi args meth c) (hd : decode (cod m) pc = .ok (.iinc i v, 3)) (k : wN p l e R s mi args below meth c Q D cA zv A m cells slots ρ (pc + 3) (L.set i (some (.inl (x + v)))) (st) G I J) : wN p l e R s mi args below meth c Q D cA zv A m cells slots ρ pc L (st) G I J := fun ls H locs hr => by
  obtain ⟨k0, hk0⟩ := List.mem_iff_getElem?.mp (lvL_mem (zv := zv) (ρ := ρ) (q := (i, Value.int (Int32.ofInt x))).mpr ⟨_, hg, rfl⟩)
  refine lv_iinc C.1 C.2.1 (v := Int32.ofInt (x + v)) hd hr.1.has hk0 (by rw [Int32.ofInt_add]) (by rw [← hs.2.2.2.2]; exact stK_lt h) rfl (fun ls' hl => ?_)
  exact k ls' H locs ⟨lH.put C.2.2.2.2.2.2.2.2.2.2.2 hs.2.2.2.1 h rfl hl, hr.2⟩
theorem s_iadd {x y : Int} (C : cxM m D cA zv ρ A p R s mi args meth c) (hd : decode (cod m) pc = .ok (.iadd, 1)) (k : wN p l e R s mi args below meth c Q D cA zv A m cells slots ρ (pc + 1) L (.inl (x + y) :: st) G I J) : wN p l e R s mi args below meth c Q D cA zv A m cells slots ρ pc L (.inl y :: .inl x :: st) G I J := fun ls H locs hr => by
  have k1 := k ls H locs hr
  rw [List.map_cons, show cv zv ρ (.inl (x + y)) = .int (Int32.ofInt (x + y)) from rfl, Int32.ofInt_add] at k1
  exact lv_iadd C.1 C.2.1 hd k1
theorem s_isub {x y : Int} (C : cxM m D cA zv ρ A p R s mi args meth c) (hd : decode (cod m) pc = .ok (.isub, 1)) (k : wN p l e R s mi args below meth c Q D cA zv A m cells slots ρ (pc + 1) L (.inl (x - y) :: st) G I J) : wN p l e R s mi args below meth c Q D cA zv A m cells slots ρ pc L (.inl y :: .inl x :: st) G I J := fun ls H locs hr => by
  have k1 := k ls H locs hr
  rw [List.map_cons, show cv zv ρ (.inl (x - y)) = .int (Int32.ofInt (x - y)) from rfl, Int32.ofInt_sub] at k1
  exact lv_isub C.1 C.2.1 hd k1
theorem s_imul {x y : Int} (C : cxM m D cA zv ρ A p R s mi args meth c) (hd : decode (cod m) pc = .ok (.imul, 1)) (k : wN p l e R s mi args below meth c Q D cA zv A m cells slots ρ (pc + 1) L (.inl (x * y) :: st) G I J) : wN p l e R s mi args below meth c Q D cA zv A m cells slots ρ pc L (.inl y :: .inl x :: st) G I J := fun ls H locs hr => by
  have k1 := k ls H locs hr
  rw [List.map_cons, show cv zv ρ (.inl (x * y)) = .int (Int32.ofInt (x * y)) from rfl, Int32.ofInt_mul] at k1
  exact lv_imul C.1 C.2.1 hd k1
theorem s_iand {x y : Int} (C : cxM m D cA zv ρ A p R s mi args meth c) (hd : decode (cod m) pc = .ok (.iand, 1)) (k : wN p l e R s mi args below meth c Q D cA zv A m cells slots ρ (pc + 1) L (.inl (bAnd x y) :: st) G I J) : wN p l e R s mi args below meth c Q D cA zv A m cells slots ρ pc L (.inl y :: .inl x :: st) G I J := fun ls H locs hr => by
  have k1 := k ls H locs hr
  rw [List.map_cons, show cv zv ρ (.inl (bAnd x y)) = .int (Int32.ofInt (bAnd x y)) from rfl, n_u1] at k1
  exact lv_iand C.1 C.2.1 hd k1
theorem s_ior {x y : Int} (C : cxM m D cA zv ρ A p R s mi args meth c) (hd : decode (cod m) pc = .ok (.ior, 1)) (k : wN p l e R s mi args below meth c Q D cA zv A m cells slots ρ (pc + 1) L (.inl (bOr x y) :: st) G I J) : wN p l e R s mi args below meth c Q D cA zv A m cells slots ρ pc L (.inl y :: .inl x :: st) G I J := fun ls H locs hr => by
  have k1 := k ls H locs hr
  rw [List.map_cons, show cv zv ρ (.inl (bOr x y)) = .int (Int32.ofInt (bOr x y)) from rfl, n_u2] at k1
  exact lv_ior C.1 C.2.1 hd k1
theorem s_ixor {x y : Int} (C : cxM m D cA zv ρ A p R s mi args meth c) (hd : decode (cod m) pc = .ok (.ixor, 1)) (k : wN p l e R s mi args below meth c Q D cA zv A m cells slots ρ (pc + 1) L (.inl (bXor x y) :: st) G I J) : wN p l e R s mi args below meth c Q D cA zv A m cells slots ρ pc L (.inl y :: .inl x :: st) G I J := fun ls H locs hr => by
  have k1 := k ls H locs hr
  rw [List.map_cons, show cv zv ρ (.inl (bXor x y)) = .int (Int32.ofInt (bXor x y)) from rfl, n_u3] at k1
  exact lv_ixor C.1 C.2.1 hd k1
theorem s_ishl {x y : Int} (C : cxM m D cA zv ρ A p R s mi args meth c) (hd : decode (cod m) pc = .ok (.ishl, 1)) (k : wN p l e R s mi args below meth c Q D cA zv A m cells slots ρ (pc + 1) L (.inl (bShl x y) :: st) G I J) : wN p l e R s mi args below meth c Q D cA zv A m cells slots ρ pc L (.inl y :: .inl x :: st) G I J := fun ls H locs hr => by
  have k1 := k ls H locs hr
  rw [List.map_cons, show cv zv ρ (.inl (bShl x y)) = .int (Int32.ofInt (bShl x y)) from rfl, n_u4] at k1
  exact lv_ishl C.1 C.2.1 hd k1
theorem s_ishr {x y : Int} (C : cxM m D cA zv ρ A p R s mi args meth c) (hd : decode (cod m) pc = .ok (.ishr, 1)) (k : wN p l e R s mi args below meth c Q D cA zv A m cells slots ρ (pc + 1) L (.inl (bShr x y) :: st) G I J) : wN p l e R s mi args below meth c Q D cA zv A m cells slots ρ pc L (.inl y :: .inl x :: st) G I J := fun ls H locs hr => by
  have k1 := k ls H locs hr
  rw [List.map_cons, show cv zv ρ (.inl (bShr x y)) = .int (Int32.ofInt (bShr x y)) from rfl, n_u5] at k1
  exact lv_ishr C.1 C.2.1 hd k1
theorem s_idiv {x y : Int} (hx : ok32 x) (hy : ok32 y) (h0 : 0 ≤ x) (h1 : 0 < y) (C : cxM m D cA zv ρ A p R s mi args meth c) (hd : decode (cod m) pc = .ok (.idiv, 1)) (k : wN p l e R s mi args below meth c Q D cA zv A m cells slots ρ (pc + 1) L (.inl (x / y) :: st) G I J) : wN p l e R s mi args below meth c Q D cA zv A m cells slots ρ pc L (.inl y :: .inl x :: st) G I J := fun ls H locs hr => by
  have k1 := k ls H locs hr
  rw [List.map_cons, show cv zv ρ (.inl (x / y)) = .int (Int32.ofInt (x / y)) from rfl, ← n_div hx hy h0 h1] at k1
  exact lv_idiv C.1 C.2.1 hd (fun q => by have := (n_eq hy n_ok0).mp q; omega) k1
theorem s_irem {x y : Int} (hx : ok32 x) (hy : ok32 y) (h0 : 0 ≤ x) (h1 : 0 < y) (C : cxM m D cA zv ρ A p R s mi args meth c) (hd : decode (cod m) pc = .ok (.irem, 1)) (k : wN p l e R s mi args below meth c Q D cA zv A m cells slots ρ (pc + 1) L (.inl (x % y) :: st) G I J) : wN p l e R s mi args below meth c Q D cA zv A m cells slots ρ pc L (.inl y :: .inl x :: st) G I J := fun ls H locs hr => by
  have k1 := k ls H locs hr
  rw [List.map_cons, show cv zv ρ (.inl (x % y)) = .int (Int32.ofInt (x % y)) from rfl, ← n_rem hx hy h0 h1] at k1
  exact lv_irem C.1 C.2.1 hd (fun q => by have := (n_eq hy n_ok0).mp q; omega) k1
theorem s_iushr {x y : Int} (C : cxM m D cA zv ρ A p R s mi args meth c) (hd : decode (cod m) pc = .ok (.iushr, 1)) (k : wN p l e R s mi args below meth c Q D cA zv A m cells slots ρ (pc + 1) L (.inl (bUsr x y) :: st) G I J) : wN p l e R s mi args below meth c Q D cA zv A m cells slots ρ pc L (.inl y :: .inl x :: st) G I J := fun ls H locs hr => by
  exact lv_iushr C.1 C.2.1 hd (n_u6 x y).symm (k ls H locs hr)
theorem s_ladd {x y : Int} (C : cxM m D cA zv ρ A p R s mi args meth c) (hd : decode (cod m) pc = .ok (.ladd, 1)) (k : wN p l e R s mi args below meth c Q D cA zv A m cells slots ρ (pc + 1) L (.inr (.inl (x + y)) :: st) G I J) : wN p l e R s mi args below meth c Q D cA zv A m cells slots ρ pc L (.inr (.inl y) :: .inr (.inl x) :: st) G I J := fun ls H locs hr => by
  have k1 := k ls H locs hr
  rw [List.map_cons, show cv zv ρ (.inr (.inl (x + y))) = .long (Int64.ofInt (x + y)) from rfl, Int64.ofInt_add] at k1
  exact lv_ladd C.1 C.2.1 hd k1
theorem s_lsub {x y : Int} (C : cxM m D cA zv ρ A p R s mi args meth c) (hd : decode (cod m) pc = .ok (.lsub, 1)) (k : wN p l e R s mi args below meth c Q D cA zv A m cells slots ρ (pc + 1) L (.inr (.inl (x - y)) :: st) G I J) : wN p l e R s mi args below meth c Q D cA zv A m cells slots ρ pc L (.inr (.inl y) :: .inr (.inl x) :: st) G I J := fun ls H locs hr => by
  have k1 := k ls H locs hr
  rw [List.map_cons, show cv zv ρ (.inr (.inl (x - y))) = .long (Int64.ofInt (x - y)) from rfl, Int64.ofInt_sub] at k1
  exact lv_lsub C.1 C.2.1 hd k1
theorem s_land {x y : Int} (C : cxM m D cA zv ρ A p R s mi args meth c) (hd : decode (cod m) pc = .ok (.land, 1)) (k : wN p l e R s mi args below meth c Q D cA zv A m cells slots ρ (pc + 1) L (.inr (.inl (lAnd x y)) :: st) G I J) : wN p l e R s mi args below meth c Q D cA zv A m cells slots ρ pc L (.inr (.inl y) :: .inr (.inl x) :: st) G I J := fun ls H locs hr => by
  have k1 := k ls H locs hr
  rw [List.map_cons, show cv zv ρ (.inr (.inl (lAnd x y))) = .long (Int64.ofInt (lAnd x y)) from rfl, n_l1] at k1
  exact lv_land C.1 C.2.1 hd k1
theorem s_lor {x y : Int} (C : cxM m D cA zv ρ A p R s mi args meth c) (hd : decode (cod m) pc = .ok (.lor, 1)) (k : wN p l e R s mi args below meth c Q D cA zv A m cells slots ρ (pc + 1) L (.inr (.inl (lOr x y)) :: st) G I J) : wN p l e R s mi args below meth c Q D cA zv A m cells slots ρ pc L (.inr (.inl y) :: .inr (.inl x) :: st) G I J := fun ls H locs hr => by
  have k1 := k ls H locs hr
  rw [List.map_cons, show cv zv ρ (.inr (.inl (lOr x y))) = .long (Int64.ofInt (lOr x y)) from rfl, n_l2] at k1
  exact lv_lor C.1 C.2.1 hd k1
theorem s_lxor {x y : Int} (C : cxM m D cA zv ρ A p R s mi args meth c) (hd : decode (cod m) pc = .ok (.lxor, 1)) (k : wN p l e R s mi args below meth c Q D cA zv A m cells slots ρ (pc + 1) L (.inr (.inl (lXor x y)) :: st) G I J) : wN p l e R s mi args below meth c Q D cA zv A m cells slots ρ pc L (.inr (.inl y) :: .inr (.inl x) :: st) G I J := fun ls H locs hr => by
  have k1 := k ls H locs hr
  rw [List.map_cons, show cv zv ρ (.inr (.inl (lXor x y))) = .long (Int64.ofInt (lXor x y)) from rfl, n_l3] at k1
  exact lv_lxor C.1 C.2.1 hd k1
theorem s_lshl {x y : Int} (C : cxM m D cA zv ρ A p R s mi args meth c) (hd : decode (cod m) pc = .ok (.lshl, 1)) (k : wN p l e R s mi args below meth c Q D cA zv A m cells slots ρ (pc + 1) L (.inr (.inl (lShl x y)) :: st) G I J) : wN p l e R s mi args below meth c Q D cA zv A m cells slots ρ pc L (.inl y :: .inr (.inl x) :: st) G I J := fun ls H locs hr => by
  exact lv_lshl C.1 C.2.1 hd (n_l4 x y).symm (k ls H locs hr)
theorem s_lshr {x y : Int} (C : cxM m D cA zv ρ A p R s mi args meth c) (hd : decode (cod m) pc = .ok (.lshr, 1)) (k : wN p l e R s mi args below meth c Q D cA zv A m cells slots ρ (pc + 1) L (.inr (.inl (lShr x y)) :: st) G I J) : wN p l e R s mi args below meth c Q D cA zv A m cells slots ρ pc L (.inl y :: .inr (.inl x) :: st) G I J := fun ls H locs hr => by
  exact lv_lshr C.1 C.2.1 hd (n_l5 x y).symm (k ls H locs hr)
theorem s_lushr {x y : Int} (C : cxM m D cA zv ρ A p R s mi args meth c) (hd : decode (cod m) pc = .ok (.lushr, 1)) (k : wN p l e R s mi args below meth c Q D cA zv A m cells slots ρ (pc + 1) L (.inr (.inl (lUsr x y)) :: st) G I J) : wN p l e R s mi args below meth c Q D cA zv A m cells slots ρ pc L (.inl y :: .inr (.inl x) :: st) G I J := fun ls H locs hr => by
  exact lv_lushr C.1 C.2.1 hd (n_l6 x y).symm (k ls H locs hr)
theorem s_lcmp {x y : Int} (hx : ok64 x) (hy : ok64 y) (C : cxM m D cA zv ρ A p R s mi args meth c) (hd : decode (cod m) pc = .ok (.lcmp, 1)) (k : wN p l e R s mi args below meth c Q D cA zv A m cells slots ρ (pc + 1) L (.inl (cLcm x y) :: st) G I J) : wN p l e R s mi args below meth c Q D cA zv A m cells slots ρ pc L (.inr (.inl y) :: .inr (.inl x) :: st) G I J := fun ls H locs hr => by
  have k1 := k ls H locs hr
  rw [List.map_cons, show cv zv ρ (.inl (cLcm x y)) = .int (Int32.ofInt (cLcm x y)) from rfl, ← n_cm hx hy] at k1
  exact W.lcmp C.1 C.2.1 hd k1
theorem s_i2l {x : Int} (hx : ok32 x) (C : cxM m D cA zv ρ A p R s mi args meth c) (hd : decode (cod m) pc = .ok (.i2l, 1)) (k : wN p l e R s mi args below meth c Q D cA zv A m cells slots ρ (pc + 1) L (.inr (.inl x) :: st) G I J) : wN p l e R s mi args below meth c Q D cA zv A m cells slots ρ pc L (.inl x :: st) G I J := fun ls H locs hr => by
  exact lv_i2l C.1 C.2.1 hd (n_c4 hx) (k ls H locs hr)
theorem s_l2i {x : Int} (C : cxM m D cA zv ρ A p R s mi args meth c) (hd : decode (cod m) pc = .ok (.l2i, 1)) (k : wN p l e R s mi args below meth c Q D cA zv A m cells slots ρ (pc + 1) L (.inl (cL2i x) :: st) G I J) : wN p l e R s mi args below meth c Q D cA zv A m cells slots ρ pc L (.inr (.inl x) :: st) G I J := fun ls H locs hr => by
  exact lv_l2i C.1 C.2.1 hd (n_c1 x).symm (k ls H locs hr)
theorem s_i2b {x : Int} (C : cxM m D cA zv ρ A p R s mi args meth c) (hd : decode (cod m) pc = .ok (.i2b, 1)) (k : wN p l e R s mi args below meth c Q D cA zv A m cells slots ρ (pc + 1) L (.inl (cI2b x) :: st) G I J) : wN p l e R s mi args below meth c Q D cA zv A m cells slots ρ pc L (.inl x :: st) G I J := fun ls H locs hr => by
  exact lv_i2b C.1 C.2.1 hd (n_c2 x).symm (k ls H locs hr)
theorem s_i2c {x : Int} (C : cxM m D cA zv ρ A p R s mi args meth c) (hd : decode (cod m) pc = .ok (.i2c, 1)) (k : wN p l e R s mi args below meth c Q D cA zv A m cells slots ρ (pc + 1) L (.inl (cI2c x) :: st) G I J) : wN p l e R s mi args below meth c Q D cA zv A m cells slots ρ pc L (.inl x :: st) G I J := fun ls H locs hr => by
  exact lv_i2c C.1 C.2.1 hd (n_c3 x).symm (k ls H locs hr)
theorem s_dup {v : aV} (h : cat1 v = true) (C : cxM m D cA zv ρ A p R s mi args meth c) (hd : decode (cod m) pc = .ok (.dup, 1)) (k : wN p l e R s mi args below meth c Q D cA zv A m cells slots ρ (pc + 1) L (v :: v :: st) G I J) : wN p l e R s mi args below meth c Q D cA zv A m cells slots ρ pc L (v :: st) G I J := fun ls H locs hr => by
  exact lv_dup C.1 C.2.1 hd (by rw [cv_cat C.2.2.2.2.2.2.2.2.2.2.2, h]; rfl) (k ls H locs hr)
theorem s_dup_x1 {v u : aV} (h : cat1 v = true) (h2 : cat1 u = true) (C : cxM m D cA zv ρ A p R s mi args meth c) (hd : decode (cod m) pc = .ok (.dup_x1, 1)) (k : wN p l e R s mi args below meth c Q D cA zv A m cells slots ρ (pc + 1) L (v :: u :: v :: st) G I J) : wN p l e R s mi args below meth c Q D cA zv A m cells slots ρ pc L (v :: u :: st) G I J := fun ls H locs hr => by
  exact lv_dup_x1 C.1 C.2.1 hd (by rw [cv_cat C.2.2.2.2.2.2.2.2.2.2.2, h]; rfl) (by rw [cv_cat C.2.2.2.2.2.2.2.2.2.2.2, h2]; rfl) (k ls H locs hr)
theorem s_dup2 {v u : aV} (h : cat1 v = true) (h2 : cat1 u = true) (C : cxM m D cA zv ρ A p R s mi args meth c) (hd : decode (cod m) pc = .ok (.dup2, 1)) (k : wN p l e R s mi args below meth c Q D cA zv A m cells slots ρ (pc + 1) L (v :: u :: v :: u :: st) G I J) : wN p l e R s mi args below meth c Q D cA zv A m cells slots ρ pc L (v :: u :: st) G I J := fun ls H locs hr => by
  exact lv_dup2_11 C.1 C.2.1 hd (by rw [cv_cat C.2.2.2.2.2.2.2.2.2.2.2, h]; rfl) (by rw [cv_cat C.2.2.2.2.2.2.2.2.2.2.2, h2]; rfl) (k ls H locs hr)
theorem s_pop {v : aV} (h : cat1 v = true) (C : cxM m D cA zv ρ A p R s mi args meth c) (hd : decode (cod m) pc = .ok (.pop, 1)) (k : wN p l e R s mi args below meth c Q D cA zv A m cells slots ρ (pc + 1) L (st) G I J) : wN p l e R s mi args below meth c Q D cA zv A m cells slots ρ pc L (v :: st) G I J := fun ls H locs hr => by
  exact lv_pop C.1 C.2.1 hd (by rw [cv_cat C.2.2.2.2.2.2.2.2.2.2.2, h]; rfl) (k ls H locs hr)
theorem s_goto {o : Int} (h : 0 ≤ (pc : Int) + o) (C : cxM m D cA zv ρ A p R s mi args meth c) (hd : decode (cod m) pc = .ok (.goto o, 3)) (k : wN p l e R s mi args below meth c Q D cA zv A m cells slots ρ (((pc : Int) + o).toNat) L (st) G I J) : wN p l e R s mi args below meth c Q D cA zv A m cells slots ρ pc L (st) G I J := fun ls H locs hr => by
  exact lv_goto C.1 C.2.1 hd (by omega) (k ls H locs hr)
def wB (b : Bool) (x y : Prop) : Prop := (b = true → x) ∧ (b = false → y)
theorem s_ic_eq {x y o : Int} (hx : ok32 x) (hy : ok32 y) (C : cxM m D cA zv ρ A p R s mi args meth c) (h : 0 ≤ (pc : Int) + o) (hd : decode (cod m) pc = .ok (.if_icmp .eq o, 3)) (kt : cnd .eq x y = true → wN p l e R s mi args below meth c Q D cA zv A m cells slots ρ ((pc : Int) + o).toNat L st G I J) (kf : cnd .eq x y = false → wN p l e R s mi args below meth c Q D cA zv A m cells slots ρ (pc + 3) L st G I J) : wN p l e R s mi args below meth c Q D cA zv A m cells slots ρ pc L (.inl y :: .inl x :: st) G I J := fun ls H locs hr => by
  refine lv_icmp_eq C.1 C.2.1 hd (tgt := ((pc : Int) + o).toNat) (by omega) (fun q => kt ?_ ls H locs hr) (fun q => kf ?_ ls H locs hr)
  · exact decide_eq_true ((n_eq hx hy).mp q)
  · exact decide_eq_false (fun z => q ((n_eq hx hy).mpr z))
theorem s_if_eq {x o : Int} (hx : ok32 x) (C : cxM m D cA zv ρ A p R s mi args meth c) (h : 0 ≤ (pc : Int) + o) (hd : decode (cod m) pc = .ok (.ifCond .eq o, 3)) (kt : cnd .eq x 0 = true → wN p l e R s mi args below meth c Q D cA zv A m cells slots ρ ((pc : Int) + o).toNat L st G I J) (kf : cnd .eq x 0 = false → wN p l e R s mi args below meth c Q D cA zv A m cells slots ρ (pc + 3) L st G I J) : wN p l e R s mi args below meth c Q D cA zv A m cells slots ρ pc L (.inl x :: st) G I J := fun ls H locs hr => by
  refine lv_if_eq C.1 C.2.1 hd (tgt := ((pc : Int) + o).toNat) (by omega) (fun q => kt ?_ ls H locs hr) (fun q => kf ?_ ls H locs hr)
  · exact decide_eq_true ((n_eq hx n_ok0).mp q)
  · exact decide_eq_false (fun z => q ((n_eq hx n_ok0).mpr z))
theorem s_ic_ne {x y o : Int} (hx : ok32 x) (hy : ok32 y) (C : cxM m D cA zv ρ A p R s mi args meth c) (h : 0 ≤ (pc : Int) + o) (hd : decode (cod m) pc = .ok (.if_icmp .ne o, 3)) (kt : cnd .ne x y = true → wN p l e R s mi args below meth c Q D cA zv A m cells slots ρ ((pc : Int) + o).toNat L st G I J) (kf : cnd .ne x y = false → wN p l e R s mi args below meth c Q D cA zv A m cells slots ρ (pc + 3) L st G I J) : wN p l e R s mi args below meth c Q D cA zv A m cells slots ρ pc L (.inl y :: .inl x :: st) G I J := fun ls H locs hr => by
  refine lv_icmp_ne C.1 C.2.1 hd (tgt := ((pc : Int) + o).toNat) (by omega) (fun q => kt ?_ ls H locs hr) (fun q => kf ?_ ls H locs hr)
  · exact decide_eq_true ((not_congr (n_eq hx hy)).mp q)
  · exact decide_eq_false (fun z => z ((n_eq hx hy).mp q))
theorem s_if_ne {x o : Int} (hx : ok32 x) (C : cxM m D cA zv ρ A p R s mi args meth c) (h : 0 ≤ (pc : Int) + o) (hd : decode (cod m) pc = .ok (.ifCond .ne o, 3)) (kt : cnd .ne x 0 = true → wN p l e R s mi args below meth c Q D cA zv A m cells slots ρ ((pc : Int) + o).toNat L st G I J) (kf : cnd .ne x 0 = false → wN p l e R s mi args below meth c Q D cA zv A m cells slots ρ (pc + 3) L st G I J) : wN p l e R s mi args below meth c Q D cA zv A m cells slots ρ pc L (.inl x :: st) G I J := fun ls H locs hr => by
  refine lv_if_ne C.1 C.2.1 hd (tgt := ((pc : Int) + o).toNat) (by omega) (fun q => kt ?_ ls H locs hr) (fun q => kf ?_ ls H locs hr)
  · exact decide_eq_true ((not_congr (n_eq hx n_ok0)).mp q)
  · exact decide_eq_false (fun z => z ((n_eq hx n_ok0).mp q))
theorem s_ic_lt {x y o : Int} (hx : ok32 x) (hy : ok32 y) (C : cxM m D cA zv ρ A p R s mi args meth c) (h : 0 ≤ (pc : Int) + o) (hd : decode (cod m) pc = .ok (.if_icmp .lt o, 3)) (kt : cnd .lt x y = true → wN p l e R s mi args below meth c Q D cA zv A m cells slots ρ ((pc : Int) + o).toNat L st G I J) (kf : cnd .lt x y = false → wN p l e R s mi args below meth c Q D cA zv A m cells slots ρ (pc + 3) L st G I J) : wN p l e R s mi args below meth c Q D cA zv A m cells slots ρ pc L (.inl y :: .inl x :: st) G I J := fun ls H locs hr => by
  refine lv_icmp_lt C.1 C.2.1 hd (tgt := ((pc : Int) + o).toNat) (by omega) (fun q => kt ?_ ls H locs hr) (fun q => kf ?_ ls H locs hr)
  · exact decide_eq_true ((n_lt hx hy).mp q)
  · exact decide_eq_false (fun z => q ((n_lt hx hy).mpr z))
theorem s_if_lt {x o : Int} (hx : ok32 x) (C : cxM m D cA zv ρ A p R s mi args meth c) (h : 0 ≤ (pc : Int) + o) (hd : decode (cod m) pc = .ok (.ifCond .lt o, 3)) (kt : cnd .lt x 0 = true → wN p l e R s mi args below meth c Q D cA zv A m cells slots ρ ((pc : Int) + o).toNat L st G I J) (kf : cnd .lt x 0 = false → wN p l e R s mi args below meth c Q D cA zv A m cells slots ρ (pc + 3) L st G I J) : wN p l e R s mi args below meth c Q D cA zv A m cells slots ρ pc L (.inl x :: st) G I J := fun ls H locs hr => by
  refine lv_if_lt C.1 C.2.1 hd (tgt := ((pc : Int) + o).toNat) (by omega) (fun q => kt ?_ ls H locs hr) (fun q => kf ?_ ls H locs hr)
  · exact decide_eq_true ((n_lt hx n_ok0).mp q)
  · exact decide_eq_false (fun z => q ((n_lt hx n_ok0).mpr z))
theorem s_ic_ge {x y o : Int} (hx : ok32 x) (hy : ok32 y) (C : cxM m D cA zv ρ A p R s mi args meth c) (h : 0 ≤ (pc : Int) + o) (hd : decode (cod m) pc = .ok (.if_icmp .ge o, 3)) (kt : cnd .ge x y = true → wN p l e R s mi args below meth c Q D cA zv A m cells slots ρ ((pc : Int) + o).toNat L st G I J) (kf : cnd .ge x y = false → wN p l e R s mi args below meth c Q D cA zv A m cells slots ρ (pc + 3) L st G I J) : wN p l e R s mi args below meth c Q D cA zv A m cells slots ρ pc L (.inl y :: .inl x :: st) G I J := fun ls H locs hr => by
  refine lv_icmp_ge C.1 C.2.1 hd (tgt := ((pc : Int) + o).toNat) (by omega) (fun q => kt ?_ ls H locs hr) (fun q => kf ?_ ls H locs hr)
  · exact decide_eq_true ((n_le hy hx).mp q)
  · exact decide_eq_false (fun z => q ((n_le hy hx).mpr z))
theorem s_if_ge {x o : Int} (hx : ok32 x) (C : cxM m D cA zv ρ A p R s mi args meth c) (h : 0 ≤ (pc : Int) + o) (hd : decode (cod m) pc = .ok (.ifCond .ge o, 3)) (kt : cnd .ge x 0 = true → wN p l e R s mi args below meth c Q D cA zv A m cells slots ρ ((pc : Int) + o).toNat L st G I J) (kf : cnd .ge x 0 = false → wN p l e R s mi args below meth c Q D cA zv A m cells slots ρ (pc + 3) L st G I J) : wN p l e R s mi args below meth c Q D cA zv A m cells slots ρ pc L (.inl x :: st) G I J := fun ls H locs hr => by
  refine lv_if_ge C.1 C.2.1 hd (tgt := ((pc : Int) + o).toNat) (by omega) (fun q => kt ?_ ls H locs hr) (fun q => kf ?_ ls H locs hr)
  · exact decide_eq_true ((n_le n_ok0 hx).mp q)
  · exact decide_eq_false (fun z => q ((n_le n_ok0 hx).mpr z))
theorem s_ic_gt {x y o : Int} (hx : ok32 x) (hy : ok32 y) (C : cxM m D cA zv ρ A p R s mi args meth c) (h : 0 ≤ (pc : Int) + o) (hd : decode (cod m) pc = .ok (.if_icmp .gt o, 3)) (kt : cnd .gt x y = true → wN p l e R s mi args below meth c Q D cA zv A m cells slots ρ ((pc : Int) + o).toNat L st G I J) (kf : cnd .gt x y = false → wN p l e R s mi args below meth c Q D cA zv A m cells slots ρ (pc + 3) L st G I J) : wN p l e R s mi args below meth c Q D cA zv A m cells slots ρ pc L (.inl y :: .inl x :: st) G I J := fun ls H locs hr => by
  refine lv_icmp_gt C.1 C.2.1 hd (tgt := ((pc : Int) + o).toNat) (by omega) (fun q => kt ?_ ls H locs hr) (fun q => kf ?_ ls H locs hr)
  · exact decide_eq_true ((n_lt hy hx).mp q)
  · exact decide_eq_false (fun z => q ((n_lt hy hx).mpr z))
theorem s_if_gt {x o : Int} (hx : ok32 x) (C : cxM m D cA zv ρ A p R s mi args meth c) (h : 0 ≤ (pc : Int) + o) (hd : decode (cod m) pc = .ok (.ifCond .gt o, 3)) (kt : cnd .gt x 0 = true → wN p l e R s mi args below meth c Q D cA zv A m cells slots ρ ((pc : Int) + o).toNat L st G I J) (kf : cnd .gt x 0 = false → wN p l e R s mi args below meth c Q D cA zv A m cells slots ρ (pc + 3) L st G I J) : wN p l e R s mi args below meth c Q D cA zv A m cells slots ρ pc L (.inl x :: st) G I J := fun ls H locs hr => by
  refine lv_if_gt C.1 C.2.1 hd (tgt := ((pc : Int) + o).toNat) (by omega) (fun q => kt ?_ ls H locs hr) (fun q => kf ?_ ls H locs hr)
  · exact decide_eq_true ((n_lt n_ok0 hx).mp q)
  · exact decide_eq_false (fun z => q ((n_lt n_ok0 hx).mpr z))
theorem s_ic_le {x y o : Int} (hx : ok32 x) (hy : ok32 y) (C : cxM m D cA zv ρ A p R s mi args meth c) (h : 0 ≤ (pc : Int) + o) (hd : decode (cod m) pc = .ok (.if_icmp .le o, 3)) (kt : cnd .le x y = true → wN p l e R s mi args below meth c Q D cA zv A m cells slots ρ ((pc : Int) + o).toNat L st G I J) (kf : cnd .le x y = false → wN p l e R s mi args below meth c Q D cA zv A m cells slots ρ (pc + 3) L st G I J) : wN p l e R s mi args below meth c Q D cA zv A m cells slots ρ pc L (.inl y :: .inl x :: st) G I J := fun ls H locs hr => by
  refine lv_icmp_le C.1 C.2.1 hd (tgt := ((pc : Int) + o).toNat) (by omega) (fun q => kt ?_ ls H locs hr) (fun q => kf ?_ ls H locs hr)
  · exact decide_eq_true ((n_le hx hy).mp q)
  · exact decide_eq_false (fun z => q ((n_le hx hy).mpr z))
theorem s_if_le {x o : Int} (hx : ok32 x) (C : cxM m D cA zv ρ A p R s mi args meth c) (h : 0 ≤ (pc : Int) + o) (hd : decode (cod m) pc = .ok (.ifCond .le o, 3)) (kt : cnd .le x 0 = true → wN p l e R s mi args below meth c Q D cA zv A m cells slots ρ ((pc : Int) + o).toNat L st G I J) (kf : cnd .le x 0 = false → wN p l e R s mi args below meth c Q D cA zv A m cells slots ρ (pc + 3) L st G I J) : wN p l e R s mi args below meth c Q D cA zv A m cells slots ρ pc L (.inl x :: st) G I J := fun ls H locs hr => by
  refine lv_if_le C.1 C.2.1 hd (tgt := ((pc : Int) + o).toNat) (by omega) (fun q => kt ?_ ls H locs hr) (fun q => kf ?_ ls H locs hr)
  · exact decide_eq_true ((n_le hx n_ok0).mp q)
  · exact decide_eq_false (fun z => q ((n_le hx n_ok0).mpr z))
theorem s_ifnn {a : Nat} {o : Int} (C : cxM m D cA zv ρ A p R s mi args meth c) (ha : a ≠ 1050) (h : 0 ≤ (pc : Int) + o) (hd : decode (cod m) pc = .ok (.ifnonnull o, 3)) (k : wN p l e R s mi args below meth c Q D cA zv A m cells slots ρ ((pc : Int) + o).toNat L st G I J) : wN p l e R s mi args below meth c Q D cA zv A m cells slots ρ pc L (vR a :: st) G I J := fun ls H locs hr => by
  rw [List.map_cons, show cv zv ρ (vR a) = .ref (ρ a) from if_neg ha]
  exact lv_ifnonnull C.1 C.2.1 hd (by omega) (k ls H locs hr)
theorem s_ifnn0 {o : Int} (C : cxM m D cA zv ρ A p R s mi args meth c) (hd : decode (cod m) pc = .ok (.ifnonnull o, 3)) (k : wN p l e R s mi args below meth c Q D cA zv A m cells slots ρ (pc + 3) L st G I J) : wN p l e R s mi args below meth c Q D cA zv A m cells slots ρ pc L (vN :: st) G I J := fun ls H locs hr => lv_ifnonnullN C.1 C.2.1 hd (k ls H locs hr)
theorem s_tabO {x d lo hi : Int} {os : Array Int} {n : Nat} (C : cxM m D cA zv ρ A p R s mi args meth c) (hx : ok32 x) (h1 : x < lo ∨ hi < x) (h : 0 ≤ (pc : Int) + d) (hd : decode (cod m) pc = .ok (.tableswitch d lo hi os, n)) (k : wN p l e R s mi args below meth c Q D cA zv A m cells slots ρ ((pc : Int) + d).toNat L st G I J) : wN p l e R s mi args below meth c Q D cA zv A m cells slots ρ pc L (.inl x :: st) G I J := fun ls H locs hr => lv_tableOut C.1 C.2.1 hd (by rw [n_t32 hx]; exact h1) (by omega) (k ls H locs hr)
theorem s_tabI {x d lo hi o : Int} {os : Array Int} {n : Nat} (C : cxM m D cA zv ρ A p R s mi args meth c) (hx : ok32 x) (h1 : ¬ (x < lo ∨ hi < x)) (ho : os[(x - lo).toNat]? = some o) (h : 0 ≤ (pc : Int) + o) (hd : decode (cod m) pc = .ok (.tableswitch d lo hi os, n)) (k : wN p l e R s mi args below meth c Q D cA zv A m cells slots ρ ((pc : Int) + o).toNat L st G I J) : wN p l e R s mi args below meth c Q D cA zv A m cells slots ρ pc L (.inl x :: st) G I J := fun ls H locs hr => lv_tableIn C.1 C.2.1 hd (by rw [n_t32 hx]; exact fun q => h1 (Or.inl q)) (by rw [n_t32 hx]; exact fun q => h1 (Or.inr q)) (by rw [n_t32 hx]; exact ho) (by omega) (k ls H locs hr)
theorem s_look {x d : Int} {ps : Array (Int × Int)} {n : Nat} (C : cxM m D cA zv ρ A p R s mi args meth c) (hx : ok32 x) (hp : (ps.toList.zip (ps.toList.drop 1)).all (fun (a, next) => a.1 < next.1) = true) (h : 0 ≤ (pc : Int) + Op.lookupswitch.offset ps.toList d x) (hd : decode (cod m) pc = .ok (.lookupswitch d ps, n)) (k : wN p l e R s mi args below meth c Q D cA zv A m cells slots ρ ((pc : Int) + Op.lookupswitch.offset ps.toList d x).toNat L st G I J) : wN p l e R s mi args below meth c Q D cA zv A m cells slots ρ pc L (.inl x :: st) G I J := fun ls H locs hr => lv_lookup C.1 C.2.1 hd hp (by rw [n_t32 hx]) (by omega) (k ls H locs hr)
end ST
