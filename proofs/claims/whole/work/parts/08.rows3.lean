/-! rows of the heap, written: array stores, copies, new cells, the natives -/
theorem zE_fun {cA : Nat → ClassId} {ρ : Nat → Nat} {G : aG} {J I' : aI} {a n : Nat} (h : (SH a).1 = n) (h0 : n ≠ 0) (h2 : n ≠ 2) {f : Nat → Int32} (hf : ∀ j : Nat, f j = Int32.ofInt (I' a (j : Int))) : zE cA ρ G I' J a = .inl (cA n, ((SH a).2, .inl f)) := by
  rw [zE_int h h0 h2]
  congr 3
  congr 1
  funext j
  exact (hf j).symm
theorem zE_funL {cA : Nat → ClassId} {ρ : Nat → Nat} {G : aG} {I J' : aI} {a : Nat} (h : (SH a).1 = 2) {f : Nat → Int64} (hf : ∀ j : Nat, f j = Int64.ofInt (J' a (j : Int))) : zE cA ρ G I J' a = .inl (cA 2, ((SH a).2, .inr (.inl f))) := by
  rw [zE_lng h]
  congr 3
  congr 2
  funext j
  exact (hf j).symm
theorem upd_mset {I : aI} {a : Nat} {j x : Int} {v : Int32} (g0 : 0 ≤ j) (hv : v = Int32.ofInt x) (i : Nat) : upd (fun j => Int32.ofInt (I a (j : Int))) j.toNat v i = Int32.ofInt (mset I a j x a (i : Int)) := by
  unfold upd mset
  by_cases h : i = j.toNat
  · rw [if_pos h, if_pos ⟨rfl, by omega⟩, hv]
  · rw [if_neg h, if_neg (by omega)]
theorem updL_mset {J : aI} {a : Nat} {j x : Int} (g0 : 0 ≤ j) (i : Nat) : vp_updL (fun j => Int64.ofInt (J a (j : Int))) j.toNat (Int64.ofInt x) i = Int64.ofInt (mset J a j x a (i : Int)) := by
  unfold vp_updL mset
  by_cases h : i = j.toNat
  · rw [if_pos h, if_pos ⟨rfl, by omega⟩]
  · rw [if_neg h, if_neg (by omega)]
section ST
variable {p : Program} {l : Launch} {e : Env} {R : Room} {s : State} {mi : MethodId} {args : Array Value} {below : List Frame} {meth : Method} {c : Code} {Q : State → Prop} {D : va_G} {cA : Nat → ClassId} {zv : Value} {A : Nat → Prop} {m cells slots : Nat} {ρ : Nat → Nat} {pc : Nat} {L : List (Option aV)} {st : List aV} {G : aG} {I J : aI}
theorem s_iast {a : Nat} {j x : Int} (C : cxM m D cA zv ρ A p R s mi args meth c) (hm : mOk G I J) (hj : ok32 j) (h0 : (SH a).1 = 1) (ha : a < G.1) (g0 : 0 ≤ j) (g1 : j < (SH a).2) (hd : decode (cod m) pc = .ok (.iastore, 1)) (kk : wN p l e R s mi args below meth c Q D cA zv A m cells slots ρ (pc + 1) L st G (mset I a j x) J) : wN p l e R s mi args below meth c Q D cA zv A m cells slots ρ pc L (.inl x :: .inl j :: vR a :: st) G I J := fun ls H locs hr => by
  have he := zW_at (cA := cA) (ρ := ρ) (I := I) (J := J) ha
  rw [zE_int h0 (by decide) (by decide)] at he
  rw [List.map_cons, List.map_cons, List.map_cons, cv_ref (by have := hm.1; omega)]
  refine va_iast C.1 C.2.1 C.2.2.2.2.2.1 hr.2.1 hr.2.2.1 hr.2.2.2 a 0 he rfl (n_in hj g0 g1) hd (fun H1 locs1 hP hD hS => ?_)
  rw [n_cl hj, zW_set (G' := G) (I' := mset I a j x) (J' := J) rfl (fun _ => zE_fun h0 (by decide) (by decide) (upd_mset g0 rfl)) (fun b hb => zE_otherI fun k => mset_ne (Or.inl hb))] at hP hD
  exact kk ls H1 locs1 ⟨hr.1, hP, hD, hS⟩
theorem s_bast {a : Nat} {j x : Int} (C : cxM m D cA zv ρ A p R s mi args meth c) (hm : mOk G I J) (hj : ok32 j) (h0 : ((SH a).1 = 3 ∧ -128 ≤ x ∧ x ≤ 127) ∨ ((SH a).1 = 4 ∧ (x = 0 ∨ x = 1))) (ha : a < G.1) (g0 : 0 ≤ j) (g1 : j < (SH a).2) (hd : decode (cod m) pc = .ok (.bastore, 1)) (kk : wN p l e R s mi args below meth c Q D cA zv A m cells slots ρ (pc + 1) L st G (mset I a j x) J) : wN p l e R s mi args below meth c Q D cA zv A m cells slots ρ pc L (.inl x :: .inl j :: vR a :: st) G I J := fun ls H locs hr => by
  have he := zW_at (cA := cA) (ρ := ρ) (I := I) (J := J) ha
  rw [List.map_cons, List.map_cons, List.map_cons, cv_ref (by have := hm.1; omega)]
  rcases h0 with ⟨h0, hx⟩ | ⟨h0, hx⟩
  · rw [zE_int h0 (by decide) (by decide)] at he
    refine va_bast C.1 C.2.1 C.2.2.2.2.2.1 hr.2.1 hr.2.2.1 hr.2.2.2 a 2 he rfl (n_in hj g0 g1) hd (fun H1 locs1 hP hD hS => ?_)
    rw [n_cl hj, zW_set (G' := G) (I' := mset I a j x) (J' := J) rfl (fun _ => zE_fun h0 (by decide) (by decide) (upd_mset g0 (by rw [vp_nar_byte, n_nb hx]))) (fun b hb => zE_otherI fun k => mset_ne (Or.inl hb))] at hP hD
    exact kk ls H1 locs1 ⟨hr.1, hP, hD, hS⟩
  · rw [zE_int h0 (by decide) (by decide)] at he
    refine va_zast C.1 C.2.1 C.2.2.2.2.2.1 hr.2.1 hr.2.2.1 hr.2.2.2 a 3 he rfl (n_in hj g0 g1) hd (fun H1 locs1 hP hD hS => ?_)
    rw [n_cl hj, zW_set (G' := G) (I' := mset I a j x) (J' := J) rfl (fun _ => zE_fun h0 (by decide) (by decide) (upd_mset g0 (by rcases hx with rfl | rfl <;> rfl))) (fun b hb => zE_otherI fun k => mset_ne (Or.inl hb))] at hP hD
    exact kk ls H1 locs1 ⟨hr.1, hP, hD, hS⟩
theorem s_last {a : Nat} {j x : Int} (C : cxM m D cA zv ρ A p R s mi args meth c) (hm : mOk G I J) (hj : ok32 j) (h0 : (SH a).1 = 2) (ha : a < G.1) (g0 : 0 ≤ j) (g1 : j < (SH a).2) (hd : decode (cod m) pc = .ok (.lastore, 1)) (kk : wN p l e R s mi args below meth c Q D cA zv A m cells slots ρ (pc + 1) L st G I (mset J a j x)) : wN p l e R s mi args below meth c Q D cA zv A m cells slots ρ pc L (.inr (.inl x) :: .inl j :: vR a :: st) G I J := fun ls H locs hr => by
  have he := zW_at (cA := cA) (ρ := ρ) (I := I) (J := J) ha
  rw [zE_lng h0] at he
  rw [List.map_cons, List.map_cons, List.map_cons, cv_ref (by have := hm.1; omega)]
  refine va_last C.1 C.2.1 C.2.2.2.2.2.1 hr.2.1 hr.2.2.1 hr.2.2.2 a 1 he rfl (n_in hj g0 g1) hd (fun H1 locs1 hP hD hS => ?_)
  rw [n_cl hj, zW_set (G' := G) (I' := I) (J' := mset J a j x) rfl (fun _ => zE_funL h0 (updL_mset g0)) (fun b hb => zE_otherJ fun k => mset_ne (Or.inl hb))] at hP hD
  exact kk ls H1 locs1 ⟨hr.1, hP, hD, hS⟩
theorem cats_le {st : List aV} (hz : zv.category = 1) : ((st.map (cv zv ρ)).map fun v => v.category).sum = cats st := by
  unfold cats
  rw [List.map_map]
  congr 1
  apply List.map_congr_left
  intro v _
  exact cv_cat hz
theorem mx_room : nativeFrameWords "java/lang/System" "arraycopy" 5 + 11 ≤ 50 := by decide +kernel
theorem cpy_mcpy {I : aI} {a b : Nat} {sp dp n : Int} (h1 : 0 ≤ sp) (h2 : 0 ≤ dp) (h3 : 0 ≤ n) (i : Nat) : va_cpy (fun j => Int32.ofInt (I a (j : Int))) (fun j => Int32.ofInt (I b (j : Int))) sp.toNat dp.toNat n.toNat i = Int32.ofInt (mcpy I a sp b dp n b (i : Int)) := by
  unfold va_cpy mcpy
  by_cases h : dp.toNat ≤ i ∧ i < dp.toNat + n.toNat
  · rw [if_pos h, if_pos ⟨rfl, by omega, by omega⟩]
    show Int32.ofInt (I a ((sp.toNat + (i - dp.toNat) : Nat) : Int)) = Int32.ofInt (I a (sp + ((i : Int) - dp)))
    rw [show ((sp.toNat + (i - dp.toNat) : Nat) : Int) = sp + ((i : Int) - dp) by omega]
  · rw [if_neg h, if_neg (by omega)]
theorem cpy_mcpyL {J : aI} {a b : Nat} {sp dp n : Int} (h1 : 0 ≤ sp) (h2 : 0 ≤ dp) (h3 : 0 ≤ n) (i : Nat) : va_cpy (fun j => Int64.ofInt (J a (j : Int))) (fun j => Int64.ofInt (J b (j : Int))) sp.toNat dp.toNat n.toNat i = Int64.ofInt (mcpy J a sp b dp n b (i : Int)) := by
  unfold va_cpy mcpy
  by_cases h : dp.toNat ≤ i ∧ i < dp.toNat + n.toNat
  · rw [if_pos h, if_pos ⟨rfl, by omega, by omega⟩]
    show Int64.ofInt (J a ((sp.toNat + (i - dp.toNat) : Nat) : Int)) = Int64.ofInt (J a (sp + ((i : Int) - dp)))
    rw [show ((sp.toNat + (i - dp.toNat) : Nat) : Int) = sp + ((i : Int) - dp) by omega]
  · rw [if_neg h, if_neg (by omega)]
theorem mcpy_ne {I : aI} {a b q : Nat} {sp dp n j : Int} (h : q ≠ b) : mcpy I a sp b dp n q j = I q j := by
  unfold mcpy
  rw [if_neg (fun z => h z.1)]
theorem n_nn {x : Int} (h : ok32 x) (h0 : 0 ≤ x) : ¬ Int32.ofInt x < 0 := fun q => by
  have := (n_lt h n_ok0).mp q
  omega
theorem s_cpyI {a b i : Nat} {sp dp n : Int} (C : cxM m D cA zv ρ A p R s mi args meth c) (hl : Jvm.Cond.methodLink (oNm (oNum m)) i arraycopyName ∈ WSg) (hm : mOk G I J) (k1 : ok32 sp) (k2 : ok32 dp) (k3 : ok32 n) (hk : (SH a).1 = 1 ∨ (SH a).1 = 3) (hab : (SH a).1 = (SH b).1) (ha : a < G.1) (hb : b < G.1) (h1 : 0 ≤ sp) (h2 : 0 ≤ dp) (h3 : 0 ≤ n) (h4 : sp + n ≤ (SH a).2) (h5 : dp + n ≤ (SH b).2) (hc : cats st ≤ 8)
    (hd : decode (cod m) pc = .ok (.invokestatic i, 3)) (kk : wN p l e R s mi args below meth c Q D cA zv A m cells slots ρ (pc + 3) L st G (mcpy I a sp b dp n) J) : wN p l e R s mi args below meth c Q D cA zv A m cells slots ρ pc L (.inl n :: .inl dp :: vR b :: .inl sp :: vR a :: st) G I J := fun ls H locs hr => by
  have hea := zW_at (cA := cA) (ρ := ρ) (I := I) (J := J) ha
  have heb := zW_at (cA := cA) (ρ := ρ) (I := I) (J := J) hb
  have hg := hm.1
  simp only [List.map_cons]
  rw [cv_ref (a := a) (by omega), cv_ref (a := b) (by omega)]
  have hloc : ((st.map (cv zv ρ)).map fun v => v.category).sum + (nativeFrameWords "java/lang/System" "arraycopy" 5 + 11) ≤ R.locals := by
    rw [cats_le C.2.2.2.2.2.2.2.2.2.2.2]
    have := mx_room
    have := C.2.2.2.2.2.2.2.2.2.2.1
    omega
  have w1 := C.2.2.2.2.1 _ hl
  have w2 := C.2.2.2.2.1 _ (inP_mem tb_one1)
  have w3 := C.2.2.2.2.1 _ (inP_mem tb_one2)
  have w4 := C.2.2.2.2.1 _ (inP_mem tb_one3)
  have hml : c.maxLocals = ls.size := by rw [C.2.2.1, hr.1.1]
  rcases hk with hk | hk
  · rw [zE_int hk (by decide) (by decide)] at hea
    rw [zE_int (hab ▸ hk) (by decide) (by decide)] at heb
    refine va_copyi (ty := .int) C.1 C.2.1 hml C.2.2.2.1 w1 w2 w3 w4 C.2.2.2.2.2.1 hr.2.1 hr.2.2.1 hr.2.2.2 a b 0 0 hea heb rfl rfl rfl (n_nn k1 h1) (n_nn k2 h2) (n_nn k3 h3) (by rw [n_cl k1, n_cl k3]; omega) (by rw [n_cl k2, n_cl k3]; omega) (fun _ _ => rfl) C.2.2.2.2.2.2.2.2.2.1 hloc hd (fun H1 locs1 hP hD hS => ?_)
    rw [n_cl k1, n_cl k2, n_cl k3, zW_set (G' := G) (I' := mcpy I a sp b dp n) (J' := J) rfl (fun _ => zE_fun (hab ▸ hk) (by decide) (by decide) (cpy_mcpy h1 h2 h3)) (fun q hq => zE_otherI fun k => mcpy_ne hq)] at hP hD
    exact kk ls H1 locs1 ⟨hr.1, hP, hD, hS⟩
  · rw [zE_int hk (by decide) (by decide)] at hea
    rw [zE_int (hab ▸ hk) (by decide) (by decide)] at heb
    refine va_copyi (ty := .byte) C.1 C.2.1 hml C.2.2.2.1 w1 w2 w3 w4 C.2.2.2.2.2.1 hr.2.1 hr.2.2.1 hr.2.2.2 a b 2 2 hea heb rfl rfl rfl (n_nn k1 h1) (n_nn k2 h2) (n_nn k3 h3) (by rw [n_cl k1, n_cl k3]; omega) (by rw [n_cl k2, n_cl k3]; omega) (fun _ _ => n_fb (hm.2.2.2.2.2 a _ hk)) C.2.2.2.2.2.2.2.2.2.1 hloc hd (fun H1 locs1 hP hD hS => ?_)
    rw [n_cl k1, n_cl k2, n_cl k3, zW_set (G' := G) (I' := mcpy I a sp b dp n) (J' := J) rfl (fun _ => zE_fun (hab ▸ hk) (by decide) (by decide) (cpy_mcpy h1 h2 h3)) (fun q hq => zE_otherI fun k => mcpy_ne hq)] at hP hD
    exact kk ls H1 locs1 ⟨hr.1, hP, hD, hS⟩
theorem s_cpyJ {a b i : Nat} {sp dp n : Int} (C : cxM m D cA zv ρ A p R s mi args meth c) (hl : Jvm.Cond.methodLink (oNm (oNum m)) i arraycopyName ∈ WSg) (hm : mOk G I J) (k1 : ok32 sp) (k2 : ok32 dp) (k3 : ok32 n) (hk : (SH a).1 = 2) (hab : (SH a).1 = (SH b).1) (ha : a < G.1) (hb : b < G.1) (h1 : 0 ≤ sp) (h2 : 0 ≤ dp) (h3 : 0 ≤ n) (h4 : sp + n ≤ (SH a).2) (h5 : dp + n ≤ (SH b).2) (hc : cats st ≤ 8)
    (hd : decode (cod m) pc = .ok (.invokestatic i, 3)) (kk : wN p l e R s mi args below meth c Q D cA zv A m cells slots ρ (pc + 3) L st G I (mcpy J a sp b dp n)) : wN p l e R s mi args below meth c Q D cA zv A m cells slots ρ pc L (.inl n :: .inl dp :: vR b :: .inl sp :: vR a :: st) G I J := fun ls H locs hr => by
  have hea := zW_at (cA := cA) (ρ := ρ) (I := I) (J := J) ha
  have heb := zW_at (cA := cA) (ρ := ρ) (I := I) (J := J) hb
  have hg := hm.1
  simp only [List.map_cons]
  rw [cv_ref (a := a) (by omega), cv_ref (a := b) (by omega)]
  have hloc : ((st.map (cv zv ρ)).map fun v => v.category).sum + (nativeFrameWords "java/lang/System" "arraycopy" 5 + 11) ≤ R.locals := by
    rw [cats_le C.2.2.2.2.2.2.2.2.2.2.2]
    have := mx_room
    have := C.2.2.2.2.2.2.2.2.2.2.1
    omega
  have w1 := C.2.2.2.2.1 _ hl
  have w2 := C.2.2.2.2.1 _ (inP_mem tb_one1)
  have w3 := C.2.2.2.2.1 _ (inP_mem tb_one2)
  have w4 := C.2.2.2.2.1 _ (inP_mem tb_one3)
  have hml : c.maxLocals = ls.size := by rw [C.2.2.1, hr.1.1]
  rw [zE_lng hk] at hea
  rw [zE_lng (hab ▸ hk)] at heb
  refine va_copyl (ty := .long) C.1 C.2.1 hml C.2.2.2.1 w1 w2 w3 w4 C.2.2.2.2.2.1 hr.2.1 hr.2.2.1 hr.2.2.2 a b 1 1 hea heb rfl rfl rfl (n_nn k1 h1) (n_nn k2 h2) (n_nn k3 h3) (by rw [n_cl k1, n_cl k3]; omega) (by rw [n_cl k2, n_cl k3]; omega) (fun _ _ => rfl) C.2.2.2.2.2.2.2.2.2.1 hloc hd (fun H1 locs1 hP hD hS => ?_)
  rw [n_cl k1, n_cl k2, n_cl k3, zW_set (G' := G) (I' := I) (J' := mcpy J a sp b dp n) rfl (fun _ => zE_funL (hab ▸ hk) (cpy_mcpyL h1 h2 h3)) (fun q hq => zE_otherJ fun k => mcpy_ne hq)] at hP hD
  exact kk ls H1 locs1 ⟨hr.1, hP, hD, hS⟩
theorem s_max {i : Nat} {x y : Int} (C : cxM m D cA zv ρ A p R s mi args meth c) (hl : Jvm.Cond.methodLink (oNm (oNum m)) i Lib.Math.max.name ∈ WSg) (hx : ok32 x) (hy : ok32 y) (hc : cats st ≤ 8) (hcl : cells ≤ R.cells) (hsl : slots ≤ R.slots) (hd : decode (cod m) pc = .ok (.invokestatic i, 3)) (kk : wN p l e R s mi args below meth c Q D cA zv A m cells slots ρ (pc + 3) L (.inl (max x y) :: st) G I J) : wN p l e R s mi args below meth c Q D cA zv A m cells slots ρ pc L (.inl y :: .inl x :: st) G I J := fun ls H locs hr => by
  have k1 := kk ls H locs hr
  rw [List.map_cons, show cv zv ρ (.inl (max x y)) = .int (Int32.ofInt (max x y)) from rfl, ← n_mx hx hy] at k1
  exact va_mmax C.1 C.2.1 (by rw [C.2.2.1, hr.1.1]) C.2.2.2.1 (C.2.2.2.2.1 _ hl) (C.2.2.2.2.1 _ (inP_mem tb_one8)) (C.2.2.2.2.1 _ (inP_mem tb_one10)) (C.2.2.2.2.1 _ cw_max) C.2.2.2.2.2.2.2.2.2.1 (by rw [cats_le C.2.2.2.2.2.2.2.2.2.2.2]; have := C.2.2.2.2.2.2.2.2.2.2.1; omega) hcl hsl hd k1
theorem s_min {i : Nat} {x y : Int} (C : cxM m D cA zv ρ A p R s mi args meth c) (hl : Jvm.Cond.methodLink (oNm (oNum m)) i Lib.Math.min.name ∈ WSg) (hx : ok32 x) (hy : ok32 y) (hc : cats st ≤ 8) (hcl : cells ≤ R.cells) (hsl : slots ≤ R.slots) (hd : decode (cod m) pc = .ok (.invokestatic i, 3)) (kk : wN p l e R s mi args below meth c Q D cA zv A m cells slots ρ (pc + 3) L (.inl (min x y) :: st) G I J) : wN p l e R s mi args below meth c Q D cA zv A m cells slots ρ pc L (.inl y :: .inl x :: st) G I J := fun ls H locs hr => by
  have k1 := kk ls H locs hr
  rw [List.map_cons, show cv zv ρ (.inl (min x y)) = .int (Int32.ofInt (min x y)) from rfl, ← n_mn hx hy] at k1
  exact va_mmin C.1 C.2.1 (by rw [C.2.2.1, hr.1.1]) C.2.2.2.1 (C.2.2.2.2.1 _ hl) (C.2.2.2.2.1 _ (inP_mem tb_one9)) (C.2.2.2.2.1 _ (inP_mem tb_one10)) (C.2.2.2.2.1 _ cw_min) C.2.2.2.2.2.2.2.2.2.1 (by rw [cats_le C.2.2.2.2.2.2.2.2.2.2.2]; have := C.2.2.2.2.2.2.2.2.2.2.1; omega) hcl hsl hd k1
theorem s_obj {i a : Nat} (C : cxM m D cA zv ρ A p R s mi args meth c) (hl : Jvm.Cond.methodLink (oNm (oNum m)) i objectInit ∈ WSg) (ha : a ≠ 1050) (hc : cats st ≤ 8) (hd : decode (cod m) pc = .ok (.invokespecial i, 3)) (kk : wN p l e R s mi args below meth c Q D cA zv A m cells slots ρ (pc + 3) L st G I J) : wN p l e R s mi args below meth c Q D cA zv A m cells slots ρ pc L (vR a :: st) G I J := fun ls H locs hr => by
  have k1 := kk ls H locs hr
  rw [List.map_cons, cv_ref ha]
  refine W.objInit C.1 C.2.1 C.2.2.2.1 (C.2.2.2.2.1 _ hl) (C.2.2.2.2.1 _ (inP_mem tb_one0)) (C.2.2.2.2.1 _ cw_obj) rfl (by show ls.size = _; rw [C.2.2.1, hr.1.1]) rfl hd C.2.2.2.2.2.2.2.2.2.1 (by rw [cats_le C.2.2.2.2.2.2.2.2.2.2.2]; have := C.2.2.2.2.2.2.2.2.2.2.1; show 2 * 0 + _ + 12 ≤ _; omega) ?_
  exact W.eq (g2 := F0 mi (pc + 3) ls (st.map (cv zv ρ))) rfl k1
/-- a new cell beside the others -/
theorem zW_new {q : Nat} {ex : va_E} (hm : mOk G I J) (hn : G.1 < 1000) (he : zE cA (fun x => if x = G.1 then q else ρ x) (G.1 + 1, G.2) I J G.1 = ex) : zW cA ρ G I J ++ [(q, ex)] = zW cA (fun x => if x = G.1 then q else ρ x) (G.1 + 1, G.2) I J := by
  unfold zW
  rw [List.range_succ, List.map_append]
  congr 1
  · apply List.map_congr_left
    intro b hb
    have hb := List.mem_range.mp hb
    show (ρ b, zE cA ρ G I J b) = ((if b = G.1 then q else ρ b), zE cA (fun x => if x = G.1 then q else ρ x) G I J b)
    rw [if_neg (by omega), zE_ext (fun a ha => if_neg (by omega)) hm]
  · show [(q, ex)] = [((if G.1 = G.1 then q else ρ G.1), _)]
    rw [if_pos rfl, he]
theorem zExt_new {q : Nat} (hn : G.1 < 1000) : zExt ρ (fun x => if x = G.1 then q else ρ x) G.1 := fun a ha => if_neg (by omega)
theorem cls_in {i ci : Nat} (h : clsR m i = some ci) : ci < 13 ∧ Jvm.Cond.classLink (oNm (oNum m)) i (clT ci).1 ∈ WSg ∧ Jvm.Cond.instantiable (clT ci).1 (clT ci).2.2 ∈ WSg ∧ Jvm.Cond.initialized (clT ci).1 ∈ WSg := by
  obtain ⟨y, hy⟩ := zp_all tb_cln tb_cls (lk_mem h)
  unfold clsOk at hy
  split at hy
  · simp only [Bool.and_eq_true, decide_eq_true_eq] at hy
    exact ⟨hy.1.1.1, inP_mem hy.1.1.2, inP_mem hy.1.2, inP_mem hy.2⟩
  · cases hy
theorem s_new {i ci : Nat} (C : cxM m D cA zv ρ A p R s mi args meth c) (hm : mOk G I J) (hn : G.1 < 1000) (hi : clsR m i = some ci) (h0 : SH G.1 = (0, ci)) (hcl : cells + 1 ≤ R.cells) (hsl : slots + nfd ci ≤ R.slots) (hst : ∀ v ∈ st, vOk G.1 v) (hL : ∀ k v, lG L k = some v → vOk G.1 v) (hd : decode (cod m) pc = .ok (.new i, 3))
    (kk : ∀ q : Nat, wN p l e R s mi args below meth c Q D cA zv A m (cells + 1) (slots + nfd ci) (fun x => if x = G.1 then q else ρ x) (pc + 3) L (vR G.1 :: st) (G.1 + 1, G.2) I J) : wN p l e R s mi args below meth c Q D cA zv A m cells slots ρ pc L st G I J := fun ls H locs hr => by
  obtain ⟨hc, w1, w2, w3⟩ := cls_in hi
  have hnf := (f_kin hc).1
  have hz := hm.2.2.2.2.1 G.1 (Nat.le_refl _) hn
  refine va_new (Ts := WSg) (ci := ci) (fs := (List.range (nfd ci)).map (fun k => zF ρ G I J G.1 (fkd ci k).1 k)) C.1 C.2.1 C.2.2.2.2.1 (f_uws hc) (tyC ci) (f_typ hc) C.2.2.2.1 (C.2.2.2.2.1 _ w1) (C.2.2.2.2.1 _ w2) (C.2.2.2.2.1 _ w3) C.2.2.2.2.2.1 hr.2.1 hr.2.2.1 hr.2.2.2 C.2.2.2.2.2.2.1 (clT_at hc) (fun j hj => ?_) hcl (by rw [← hnf]; exact hsl) hd (fun q H1 hP hD hS => ?_)
  · rw [← hnf] at hj
    show _ = ((List.range (nfd ci)).map _).getD j Value.null
    rw [List.getD_eq_getElem?_getD, List.getElem?_map, List.getElem?_range hj]
    show _ = zF ρ G I J G.1 (fkd ci j).1 j
    unfold zF
    rcases ((f_kin hc).2.2 j hj).2.2 with ⟨q1, q2⟩ | ⟨q1, q2⟩ | ⟨q1, q2⟩ | ⟨q1, q2⟩
    · rw [q1, q2, if_neg (by decide), if_neg (by decide), (hz j).1]; rfl
    · rw [q1, q2, if_pos rfl, (hz j).2.1]; rfl
    · rw [q1, if_neg (by decide), if_pos rfl, (hz j).2.2]
      cases ht : tyC ci j with
      | object n => rfl
      | array n => rfl
      | _ => rw [ht] at q2; cases q2
    · rw [q1, q2, if_neg (by decide), if_neg (by decide), (hz j).1]; rfl
  · have k1 := kk q ls H1 locs
    rw [← hnf]
    have hex : zE cA (fun x => if x = G.1 then q else ρ x) (G.1 + 1, G.2) I J G.1 = .inr (ci, (List.range (nfd ci)).map (fun k => zF ρ G I J G.1 (fkd ci k).1 k)) := by
      rw [zE_obj (by rw [h0]), h0]
      congr 2
      apply List.map_congr_left
      intro k _
      unfold zF
      simp only [(hz k).2.2]
      rfl
    rw [zW_new hm hn hex] at hP hD
    have k2 := k1 ⟨lH.ext (zExt_new hn) hr.1 hL, hP, hD, hS⟩
    rw [List.map_cons, cv_ref (by omega), if_pos rfl, show st.map (cv zv (fun x => if x = G.1 then q else ρ x)) = st.map (cv zv ρ) from List.map_congr_left (fun v hv => cv_ext (zExt_new hn) (hst v hv))] at k2
    exact k2
theorem s_newa {t : ArrayType} {n : Int} {ty : FieldType} {t0 : Nat} (C : cxM m D cA zv ρ A p R s mi args meth c) (hm : mOk G I J) (hn : G.1 < 1000) (hk : ok32 n) (g0 : 0 ≤ n) (g1 : n < 100000) (hty : newarray.typeOf t = ty) (ht0 : (tyL cA)[t0]? = some (cA (akd t), ty)) (hw : Jvm.Cond.arrayClass ty ∈ WSg) (hra : ∀ cB : ClassId, va_RA s cB ty → s.vm.findClass ("[" ++ ty.toString) = some cB) (h0 : SH G.1 = (akd t, n.toNat)) (hbytes : n.toNat * componentBytes ty ≤ 536870912)
    (hdf : (akd t ≠ 0 ∧ akd t ≠ 2 ∧ defaultValue ty = .int 0) ∨ (akd t = 2 ∧ defaultValue ty = .long 0)) (hcl : cells + 1 ≤ R.cells) (hsl : slots + n.toNat ≤ R.slots) (hst : ∀ v ∈ st, vOk G.1 v) (hL : ∀ k v, lG L k = some v → vOk G.1 v) (hd : decode (cod m) pc = .ok (.newarray t, 2))
    (kk : ∀ q : Nat, wN p l e R s mi args below meth c Q D cA zv A m (cells + 1) (slots + n.toNat) (fun x => if x = G.1 then q else ρ x) (pc + 2) L (vR G.1 :: st) (G.1 + 1, G.2) I J) : wN p l e R s mi args below meth c Q D cA zv A m cells slots ρ pc L (.inl n :: st) G I J := fun ls H locs hr => by
  have hz := hm.2.2.2.2.1 G.1 (Nat.le_refl _) hn
  have hKA := (C.2.2.2.2.2.1).2 t0 _ ht0
  have hfc := hra _ hKA.2
  have key : ∀ (a0 : vp_A), (∀ cB : ClassId, vp_cell cB a0 = arrV cB n.toNat (fun _ => defaultValue ty)) → (∀ q, zE cA (fun x => if x = G.1 then q else ρ x) (G.1 + 1, G.2) I J G.1 = .inl (cA (akd t), a0)) → W p l e R s mi args below meth c H locs cells slots Q (F0 mi pc ls (List.map (cv zv ρ) (.inl n :: st))) := by
    intro a0 ha hex
    refine va_newa (a0 := a0) C.1 C.2.1 (by rw [hty]; exact C.2.2.2.2.1 _ hw) hty C.2.2.2.2.2.1 hr.2.1 hr.2.2.1 hr.2.2.2 C.2.2.2.2.2.2.1 ha (n_nn hk g0) (n_cl hk) hbytes hcl hsl hd (fun q cB H1 hK hP hD hS => ?_)
    have hcB := hra cB (hK.2 4 (cB, ty) rfl).2
    have hce : cB = cA (akd t) := Option.some.inj (hcB.symm.trans hfc)
    subst hce
    rw [zW_new hm hn (hex q)] at hP hD
    have k2 := kk q ls H1 locs ⟨lH.ext (zExt_new hn) hr.1 hL, hP, hD, hS⟩
    rw [List.map_cons, cv_ref (by omega), if_pos rfl, show st.map (cv zv (fun x => if x = G.1 then q else ρ x)) = st.map (cv zv ρ) from List.map_congr_left (fun v hv => cv_ext (zExt_new hn) (hst v hv))] at k2
    exact k2
  rcases hdf with ⟨q0, q2, qd⟩ | ⟨q2, qd⟩
  · refine key (n.toNat, .inl (fun _ => 0)) (fun cB => by rw [vp_cell_i, qd]) (fun q => ?_)
    rw [zE_fun (n := akd t) (by rw [h0]) q0 q2 (f := fun _ => 0) (fun j => by rw [(hz j).1]; rfl), h0]
  · refine key (n.toNat, .inr (.inl (fun _ => 0))) (fun cB => by rw [vp_cell_l, qd]) (fun q => ?_)
    rw [zE_funL (by rw [h0, q2]) (f := fun _ => 0) (fun j => by rw [(hz j).2.1]; rfl), h0, q2]
end ST
