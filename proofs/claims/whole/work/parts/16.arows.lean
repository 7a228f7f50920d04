/-! rows of At: the small machine, an instruction a row, backwards -/
theorem go_mono : ∀ (f k d m : Nat) (S : aS) (r : Option aV × aG × aI × aI), go f d m S = some r → go (f + k) d m S = some r
  | 0, _, _, _, _, _, h => by cases h
  | f + 1, k, d, m, (pc, L, st, G, I, J), r, h => by
    rw [show f + 1 + k = (f + k) + 1 by omega]
    unfold go at h ⊢
    split at h
    · cases h
    · rename_i S' hst
      exact go_mono f k d m S' r h
    · exact h
    · rename_i y as rest hst
      cases d with
      | zero => cases h
      | succ d =>
        dsimp only at h ⊢
        split at h
        · cases h
        · rename_i v G' I' J' hg
          rw [go_mono f k d y _ _ hg]
          exact go_mono f k (d + 1) m _ r h
theorem e_get {m i pc : Nat} {L : List (Option aV)} {st : List aV} {G : aG} {I J : aI} : exI m (.getfield i) 3 pc L st G I J = exGet m i pc L st G I J := rfl
theorem e_put {m i pc : Nat} {L : List (Option aV)} {st : List aV} {G : aG} {I J : aI} : exI m (.putfield i) 3 pc L st G I J = exPut m i pc L st G I J := rfl
theorem e_ild {m pc : Nat} {L : List (Option aV)} {st : List aV} {G : aG} {I J : aI} : exI m .iaload 1 pc L st G I J = exALoad [1] m pc L st G I J := rfl
theorem e_bld {m pc : Nat} {L : List (Option aV)} {st : List aV} {G : aG} {I J : aI} : exI m .baload 1 pc L st G I J = exALoad [3, 4] m pc L st G I J := rfl
theorem e_lld {m pc : Nat} {L : List (Option aV)} {st : List aV} {G : aG} {I J : aI} : exI m .laload 1 pc L st G I J = exLLoad pc L st G I J := rfl
theorem e_ist {m pc : Nat} {L : List (Option aV)} {st : List aV} {G : aG} {I J : aI} : exI m .iastore 1 pc L st G I J = exIStore pc L st G I J := rfl
theorem e_bst {m pc : Nat} {L : List (Option aV)} {st : List aV} {G : aG} {I J : aI} : exI m .bastore 1 pc L st G I J = exBStore pc L st G I J := rfl
theorem e_lst {m pc : Nat} {L : List (Option aV)} {st : List aV} {G : aG} {I J : aI} : exI m .lastore 1 pc L st G I J = exLStore pc L st G I J := rfl
theorem e_len {m pc : Nat} {L : List (Option aV)} {st : List aV} {G : aG} {I J : aI} : exI m .arraylength 1 pc L st G I J = exLen m pc L st G I J := rfl
theorem e_new {m i pc : Nat} {L : List (Option aV)} {st : List aV} {G : aG} {I J : aI} : exI m (.new i) 3 pc L st G I J = exNew m i pc L st G I J := rfl
theorem e_nwa {m pc : Nat} {t : ArrayType} {L : List (Option aV)} {st : List aV} {G : aG} {I J : aI} : exI m (.newarray t) 2 pc L st G I J = exNewA t pc L st G I J := rfl
section AT
variable {d m pc pc' : Nat} {L L' : List (Option aV)} {st st' : List aV} {G G' : aG} {I J I' J' : aI} {Q : Option aV → aG → aI → aI → Prop}
theorem A_nx (h : stp m pc L st G I J = some (.inl (pc', L', st', G', I', J'))) (k : At d m pc' L' st' G' I' J' Q) : At d m pc L st G I J Q := by
  obtain ⟨f, v, G2, I2, J2, hg, hq⟩ := k
  refine ⟨f + 1, v, G2, I2, J2, ?_, hq⟩
  unfold go
  rw [h]
  exact hg
theorem A_ret {v : Option aV} (h : stp m pc L st G I J = some (.inr (.inl v))) (k : Q v G I J) : At d m pc L st G I J Q := by
  refine ⟨1, v, G, I, J, ?_, k⟩
  unfold go
  rw [h]
theorem A_call {y : Nat} {as rest : List aV} (h : stp m pc L st G I J = some (.inr (.inr (y, as, rest)))) (k : At d y 0 (ent (mxl y) as) [] G I J (fun v G' I' J' => At (d + 1) m (pc + 3) L (v.toList ++ rest) G' I' J' Q)) : At (d + 1) m pc L st G I J Q := by
  obtain ⟨f1, v1, G1, I1, J1, h1, f2, v2, G2, I2, J2, h2, hq⟩ := k
  refine ⟨f1 + f2 + 1, v2, G2, I2, J2, ?_, hq⟩
  unfold go
  rw [h]
  dsimp only
  rw [go_mono f1 f2 _ _ _ _ h1]
  dsimp only
  rw [show f1 + f2 = f2 + f1 by omega]
  exact go_mono f2 f1 _ _ _ _ h2
theorem At.imp {Q' : Option aV → aG → aI → aI → Prop} (h : At d m pc L st G I J Q) (k : ∀ v G' I' J', Q v G' I' J' → Q' v G' I' J') : At d m pc L st G I J Q' := by
  obtain ⟨f, v, G2, I2, J2, hg, hq⟩ := h
  exact ⟨f, v, G2, I2, J2, hg, k _ _ _ _ hq⟩
theorem stp_of {i : Instr} {n : Nat} (hd : decode (cod m) pc = .ok (i, n)) : stp m pc L st G I J = exI m i n pc L st G I J := by
  unfold stp
  rw [hd]
theorem a_iconst {v : Int} (g : ok32 v) (hd : decode (cod m) pc = .ok (.iconst v, 1)) (k : At d m (pc + 1) L (vI v :: st) G I J Q) : At d m pc L (st) G I J Q := A_nx (by rw [stp_of hd]; show psI v _ _ _ _ _ _ = _; unfold psI; rw [if_pos g]; rfl) k
theorem a_bipush {v : Int} (g : -128 ≤ v ∧ v ≤ 127) (hd : decode (cod m) pc = .ok (.bipush v, 2)) (k : At d m (pc + 2) L (vI v :: st) G I J Q) : At d m pc L (st) G I J Q := A_nx (by rw [stp_of hd]; show (if _ then psI v _ _ _ _ _ _ else none) = _; rw [if_pos g]; unfold psI; rw [if_pos ⟨by omega, by omega⟩]; rfl) k
theorem a_sipush {v : Int} (g : -32768 ≤ v ∧ v ≤ 32767) (hd : decode (cod m) pc = .ok (.sipush v, 3)) (k : At d m (pc + 3) L (vI v :: st) G I J Q) : At d m pc L (st) G I J Q := A_nx (by rw [stp_of hd]; show (if _ then psI v _ _ _ _ _ _ else none) = _; rw [if_pos g]; unfold psI; rw [if_pos ⟨by omega, by omega⟩]; rfl) k
theorem a_ldc {i : Nat} {v : Int} (h : cstL.lookup (oNum m, i) = some (.inl v)) (g : ok32 v) (hd : decode (cod m) pc = .ok (.ldc i, 2)) (k : At d m (pc + 2) L (vI v :: st) G I J Q) : At d m pc L (st) G I J Q := A_nx (by rw [stp_of hd]; simp only [exI, h, psI, nx, if_pos g]) k
theorem a_ldcw {i : Nat} {v : Int} (h : cstL.lookup (oNum m, i) = some (.inl v)) (g : ok32 v) (hd : decode (cod m) pc = .ok (.ldc_w i, 3)) (k : At d m (pc + 3) L (vI v :: st) G I J Q) : At d m pc L (st) G I J Q := A_nx (by rw [stp_of hd]; simp only [exI, h, psI, nx, if_pos g]) k
theorem a_ldc2 {i : Nat} {v : Int} (h : cslL.lookup (oNum m, i) = some v) (g : ok64 v) (hd : decode (cod m) pc = .ok (.ldc2_w i, 3)) (k : At d m (pc + 3) L (vL v :: st) G I J Q) : At d m pc L (st) G I J Q := A_nx (by rw [stp_of hd]; simp only [exI, h, nx, if_pos g]) k
theorem a_ldcS {i j : Nat} (h0 : cstL.lookup (oNum m, i) = none) (h1 : oNum m = 8) (h : strI.lookup i = some j) (hd : decode (cod m) pc = .ok (.ldc i, 2)) (k : At d m (pc + 2) L (vR (1002 + j) :: st) G I J Q) : At d m pc L (st) G I J Q := A_nx (by rw [stp_of hd]; simp only [exI, h0, h, nx, if_pos h1]) k
theorem a_lconst {v : Fin 2} (hd : decode (cod m) pc = .ok (.lconst v, 1)) (k : At d m (pc + 1) L (vL (v.val : Int) :: st) G I J Q) : At d m pc L (st) G I J Q := A_nx (by rw [stp_of hd]; rfl) k
theorem a_null (hd : decode (cod m) pc = .ok (.aconst_null, 1)) (k : At d m (pc + 1) L (vN :: st) G I J Q) : At d m pc L (st) G I J Q := A_nx (by rw [stp_of hd]; rfl) k
theorem a_iload_n {i : Fin 4} {x : Int} (h : lG L i.val = some (vI x)) (hd : decode (cod m) pc = .ok (.iload_n i, 1)) (k : At d m (pc + 1) L (vI x :: st) G I J Q) : At d m pc L (st) G I J Q := A_nx (by rw [stp_of hd]; simp only [exI, ldI, h, nx]) k
theorem a_lload_n {i : Fin 4} {x : Int} (h : lG L i.val = some (vL x)) (hd : decode (cod m) pc = .ok (.lload_n i, 1)) (k : At d m (pc + 1) L (vL x :: st) G I J Q) : At d m pc L (st) G I J Q := A_nx (by rw [stp_of hd]; simp only [exI, ldL, h, nx]) k
theorem a_aload_n {i : Fin 4} {a : Nat} (h : lG L i.val = some (vR a)) (g : a ≠ 1050) (hd : decode (cod m) pc = .ok (.aload_n i, 1)) (k : At d m (pc + 1) L (vR a :: st) G I J Q) : At d m pc L (st) G I J Q := A_nx (by rw [stp_of hd]; simp only [exI, ldA, h, nx, if_neg (show ¬ some a = some 1050 from fun q => g (Option.some.inj q))]) k
theorem a_istore_n {i : Fin 4} {x : Int} (h : stK m L i.val = true) (hd : decode (cod m) pc = .ok (.istore_n i, 1)) (k : At d m (pc + 1) (L.set i.val (some (vI x))) (st) G I J Q) : At d m pc L (vI x :: st) G I J Q := A_nx (by rw [stp_of hd]; simp only [exI, stI, nx, if_pos h]) k
theorem a_astore_n {i : Fin 4} {a : Nat} (h : stK m L i.val = true) (g : a ≠ 1050) (hd : decode (cod m) pc = .ok (.astore_n i, 1)) (k : At d m (pc + 1) (L.set i.val (some (vR a))) (st) G I J Q) : At d m pc L (vR a :: st) G I J Q := A_nx (by rw [stp_of hd]; simp only [exI, stA, nx, if_pos (show _ ∧ _ from ⟨h, show some a ≠ some 1050 from fun q => g (Option.some.inj q)⟩)]) k
theorem a_iload {i : Nat} {x : Int} (h : lG L i = some (vI x)) (hd : decode (cod m) pc = .ok (.iload i, 2)) (k : At d m (pc + 2) L (vI x :: st) G I J Q) : At d m pc L (st) G I J Q := A_nx (by rw [stp_of hd]; simp only [exI, ldI, h, nx]) k
theorem a_aload {i : Nat} {a : Nat} (h : lG L i = some (vR a)) (g : a ≠ 1050) (hd : decode (cod m) pc = .ok (.aload i, 2)) (k : At d m (pc + 2) L (vR a :: st) G I J Q) : At d m pc L (st) G I J Q := A_nx (by rw [stp_of hd]; simp only [exI, ldA, h, nx, if_neg (show ¬ some a = some 1050 from fun q => g (Option.some.inj q))]) k
theorem a_istore {i : Nat} {x : Int} (h : stK m L i = true) (hd : decode (cod m) pc = .ok (.istore i, 2)) (k : At d m (pc + 2) (L.set i (some (vI x))) (st) G I J Q) : At d m pc L (vI x :: st) G I J Q := A_nx (by rw [stp_of hd]; simp only [exI, stI, nx, if_pos h]) k
theorem a_astore {i : Nat} {a : Nat} (h : stK m L i = true) (g : a ≠ 1050) (hd : decode (cod m) pc = .ok (.astore i, 2)) (k : At d m (pc + 2) (L.set i (some (vR a))) (st) G I J Q) : At d m pc L (vR a :: st) G I J Q := A_nx (by rw [stp_of hd]; simp only [exI, stA, nx, if_pos (show _ ∧ _ from ⟨h, show some a ≠ some 1050 from fun q => g (Option.some.inj q)⟩)]) k
theorem a_lstore_n {i : Fin 4} {x : Int} (h : i.val + 1 < L.length ∧ (i.val = 0 ∨ lngT m (i.val - 1) = false) ∧ lngT m i.val = true ∧ lngT m (i.val + 1) = false) (hd : decode (cod m) pc = .ok (.lstore_n i, 1)) (k : At d m (pc + 1) ((L.set i.val (some (vL x))).set (i.val + 1) none) (st) G I J Q) : At d m pc L (vL x :: st) G I J Q := A_nx (by rw [stp_of hd]; simp only [exI, stL, nx, if_pos h]) k
theorem a_iinc {i : Nat} {x v : Int} (hg : lG L i = some (vI x)) (h : stK m L i = true) (g : ok32 (x + v)) (hd : decode (cod m) pc = .ok (.iinc i v, 3)) (k : At d m (pc + 3) (L.set i (some (vI (x + v)))) (st) G I J Q) : At d m pc L (st) G I J Q := A_nx (by rw [stp_of hd]; simp only [exI, hg, nx, if_pos (show _ ∧ _ from ⟨g, h⟩)]) k
theorem a_iadd {x y : Int} (g : ok32 (x + y)) (hd : decode (cod m) pc = .ok (.iadd, 1)) (k : At d m (pc + 1) L (vI (x + y) :: st) G I J Q) : At d m pc L (vI y :: vI x :: st) G I J Q := A_nx (by rw [stp_of hd]; simp only [exI, exB, nx, if_pos g]) k
theorem a_isub {x y : Int} (g : ok32 (x - y)) (hd : decode (cod m) pc = .ok (.isub, 1)) (k : At d m (pc + 1) L (vI (x - y) :: st) G I J Q) : At d m pc L (vI y :: vI x :: st) G I J Q := A_nx (by rw [stp_of hd]; simp only [exI, exB, nx, if_pos g]) k
theorem a_imul {x y : Int} (g : ok32 (x * y)) (hd : decode (cod m) pc = .ok (.imul, 1)) (k : At d m (pc + 1) L (vI (x * y) :: st) G I J Q) : At d m pc L (vI y :: vI x :: st) G I J Q := A_nx (by rw [stp_of hd]; simp only [exI, exB, nx, if_pos g]) k
theorem a_idiv {x y : Int} (g : 0 ≤ x ∧ 0 < y) (hd : decode (cod m) pc = .ok (.idiv, 1)) (k : At d m (pc + 1) L (vI (x / y) :: st) G I J Q) : At d m pc L (vI y :: vI x :: st) G I J Q := A_nx (by rw [stp_of hd]; simp only [exI, exD, nx, if_pos g]) k
theorem a_irem {x y : Int} (g : 0 ≤ x ∧ 0 < y) (hd : decode (cod m) pc = .ok (.irem, 1)) (k : At d m (pc + 1) L (vI (x % y) :: st) G I J Q) : At d m pc L (vI y :: vI x :: st) G I J Q := A_nx (by rw [stp_of hd]; simp only [exI, exD, nx, if_pos g]) k
theorem a_iand {x y : Int} (hd : decode (cod m) pc = .ok (.iand, 1)) (k : At d m (pc + 1) L (vI (bAnd x y) :: st) G I J Q) : At d m pc L (vI y :: vI x :: st) G I J Q := A_nx (by rw [stp_of hd]; rfl) k
theorem a_ior {x y : Int} (hd : decode (cod m) pc = .ok (.ior, 1)) (k : At d m (pc + 1) L (vI (bOr x y) :: st) G I J Q) : At d m pc L (vI y :: vI x :: st) G I J Q := A_nx (by rw [stp_of hd]; rfl) k
theorem a_ixor {x y : Int} (hd : decode (cod m) pc = .ok (.ixor, 1)) (k : At d m (pc + 1) L (vI (bXor x y) :: st) G I J Q) : At d m pc L (vI y :: vI x :: st) G I J Q := A_nx (by rw [stp_of hd]; rfl) k
theorem a_ishl {x y : Int} (hd : decode (cod m) pc = .ok (.ishl, 1)) (k : At d m (pc + 1) L (vI (bShl x y) :: st) G I J Q) : At d m pc L (vI y :: vI x :: st) G I J Q := A_nx (by rw [stp_of hd]; rfl) k
theorem a_ishr {x y : Int} (hd : decode (cod m) pc = .ok (.ishr, 1)) (k : At d m (pc + 1) L (vI (bShr x y) :: st) G I J Q) : At d m pc L (vI y :: vI x :: st) G I J Q := A_nx (by rw [stp_of hd]; rfl) k
theorem a_iushr {x y : Int} (hd : decode (cod m) pc = .ok (.iushr, 1)) (k : At d m (pc + 1) L (vI (bUsr x y) :: st) G I J Q) : At d m pc L (vI y :: vI x :: st) G I J Q := A_nx (by rw [stp_of hd]; rfl) k
theorem a_ladd {x y : Int} (g : ok64 (x + y)) (hd : decode (cod m) pc = .ok (.ladd, 1)) (k : At d m (pc + 1) L (vL (x + y) :: st) G I J Q) : At d m pc L (vL y :: vL x :: st) G I J Q := A_nx (by rw [stp_of hd]; simp only [exI, exL, nx, if_pos g]) k
theorem a_lsub {x y : Int} (g : ok64 (x - y)) (hd : decode (cod m) pc = .ok (.lsub, 1)) (k : At d m (pc + 1) L (vL (x - y) :: st) G I J Q) : At d m pc L (vL y :: vL x :: st) G I J Q := A_nx (by rw [stp_of hd]; simp only [exI, exL, nx, if_pos g]) k
theorem a_land {x y : Int} (hd : decode (cod m) pc = .ok (.land, 1)) (k : At d m (pc + 1) L (vL (lAnd x y) :: st) G I J Q) : At d m pc L (vL y :: vL x :: st) G I J Q := A_nx (by rw [stp_of hd]; rfl) k
theorem a_lor {x y : Int} (hd : decode (cod m) pc = .ok (.lor, 1)) (k : At d m (pc + 1) L (vL (lOr x y) :: st) G I J Q) : At d m pc L (vL y :: vL x :: st) G I J Q := A_nx (by rw [stp_of hd]; rfl) k
theorem a_lxor {x y : Int} (hd : decode (cod m) pc = .ok (.lxor, 1)) (k : At d m (pc + 1) L (vL (lXor x y) :: st) G I J Q) : At d m pc L (vL y :: vL x :: st) G I J Q := A_nx (by rw [stp_of hd]; rfl) k
theorem a_lshl {x y : Int} (hd : decode (cod m) pc = .ok (.lshl, 1)) (k : At d m (pc + 1) L (vL (lShl x y) :: st) G I J Q) : At d m pc L (vI y :: vL x :: st) G I J Q := A_nx (by rw [stp_of hd]; rfl) k
theorem a_lshr {x y : Int} (hd : decode (cod m) pc = .ok (.lshr, 1)) (k : At d m (pc + 1) L (vL (lShr x y) :: st) G I J Q) : At d m pc L (vI y :: vL x :: st) G I J Q := A_nx (by rw [stp_of hd]; rfl) k
theorem a_lushr {x y : Int} (hd : decode (cod m) pc = .ok (.lushr, 1)) (k : At d m (pc + 1) L (vL (lUsr x y) :: st) G I J Q) : At d m pc L (vI y :: vL x :: st) G I J Q := A_nx (by rw [stp_of hd]; rfl) k
theorem a_lcmp {x y : Int} (hd : decode (cod m) pc = .ok (.lcmp, 1)) (k : At d m (pc + 1) L (vI (cLcm x y) :: st) G I J Q) : At d m pc L (vL y :: vL x :: st) G I J Q := A_nx (by rw [stp_of hd]; rfl) k
theorem a_i2l {x : Int} (hd : decode (cod m) pc = .ok (.i2l, 1)) (k : At d m (pc + 1) L (vL x :: st) G I J Q) : At d m pc L (vI x :: st) G I J Q := A_nx (by rw [stp_of hd]; rfl) k
theorem a_l2i {x : Int} (hd : decode (cod m) pc = .ok (.l2i, 1)) (k : At d m (pc + 1) L (vI (cL2i x) :: st) G I J Q) : At d m pc L (vL x :: st) G I J Q := A_nx (by rw [stp_of hd]; rfl) k
theorem a_i2b {x : Int} (hd : decode (cod m) pc = .ok (.i2b, 1)) (k : At d m (pc + 1) L (vI (cI2b x) :: st) G I J Q) : At d m pc L (vI x :: st) G I J Q := A_nx (by rw [stp_of hd]; rfl) k
theorem a_i2c {x : Int} (hd : decode (cod m) pc = .ok (.i2c, 1)) (k : At d m (pc + 1) L (vI (cI2c x) :: st) G I J Q) : At d m pc L (vI x :: st) G I J Q := A_nx (by rw [stp_of hd]; rfl) k
theorem a_dup {v : aV} (g : cat1 v = true) (hd : decode (cod m) pc = .ok (.dup, 1)) (k : At d m (pc + 1) L (v :: v :: st) G I J Q) : At d m pc L (v :: st) G I J Q := A_nx (by rw [stp_of hd]; simp only [exI, nx, if_pos g]) k
theorem a_dup_x1 {v u : aV} (g : cat1 v = true) (g2 : cat1 u = true) (hd : decode (cod m) pc = .ok (.dup_x1, 1)) (k : At d m (pc + 1) L (v :: u :: v :: st) G I J Q) : At d m pc L (v :: u :: st) G I J Q := A_nx (by rw [stp_of hd]; simp only [exI, nx, if_pos (show _ ∧ _ from ⟨g, g2⟩)]) k
theorem a_dup2 {v u : aV} (g : cat1 v = true) (g2 : cat1 u = true) (hd : decode (cod m) pc = .ok (.dup2, 1)) (k : At d m (pc + 1) L (v :: u :: v :: u :: st) G I J Q) : At d m pc L (v :: u :: st) G I J Q := A_nx (by rw [stp_of hd]; simp only [exI, nx, if_pos (show _ ∧ _ from ⟨g, g2⟩)]) k
theorem a_pop {v : aV} (g : cat1 v = true) (hd : decode (cod m) pc = .ok (.pop, 1)) (k : At d m (pc + 1) L (st) G I J Q) : At d m pc L (v :: st) G I J Q := A_nx (by rw [stp_of hd]; simp only [exI, nx, if_pos g]) k
theorem a_goto {o : Int} {t : Nat} (g : (pc : Int) + o = t) (hd : decode (cod m) pc = .ok (.goto o, 3)) (k : At d m (t) L (st) G I J Q) : At d m pc L (st) G I J Q := A_nx (by rw [stp_of hd]; simp only [exI, nx, if_pos (show 0 ≤ (pc : Int) + o by omega), show ((pc : Int) + o).toNat = t by omega]) k
theorem a_if_eq {x : Int} {o : Int} {t : Nat} (g : (pc : Int) + o = t) (hd : decode (cod m) pc = .ok (.ifCond .eq o, 3)) (kt : x = 0 → At d m t L st G I J Q) (kf : ¬ x = 0 → At d m (pc + 3) L st G I J Q) : At d m pc L (vI x :: st) G I J Q := by
  by_cases h : cnd .eq x 0 = true
  · exact A_nx (by rw [stp_of hd]; simp only [exI, brn, nx, if_pos (show 0 ≤ (pc : Int) + o by omega), if_pos h, show ((pc : Int) + o).toNat = t by omega]) (kt (by simpa [cnd] using h))
  · exact A_nx (by rw [stp_of hd]; simp only [exI, brn, nx, if_pos (show 0 ≤ (pc : Int) + o by omega), if_neg h]) (kf (by simp [cnd] at h; omega))
theorem a_if_ne {x : Int} {o : Int} {t : Nat} (g : (pc : Int) + o = t) (hd : decode (cod m) pc = .ok (.ifCond .ne o, 3)) (kt : ¬ x = 0 → At d m t L st G I J Q) (kf : x = 0 → At d m (pc + 3) L st G I J Q) : At d m pc L (vI x :: st) G I J Q := by
  by_cases h : cnd .ne x 0 = true
  · exact A_nx (by rw [stp_of hd]; simp only [exI, brn, nx, if_pos (show 0 ≤ (pc : Int) + o by omega), if_pos h, show ((pc : Int) + o).toNat = t by omega]) (kt (by simpa [cnd] using h))
  · exact A_nx (by rw [stp_of hd]; simp only [exI, brn, nx, if_pos (show 0 ≤ (pc : Int) + o by omega), if_neg h]) (kf (by simp [cnd] at h; omega))
theorem a_if_lt {x : Int} {o : Int} {t : Nat} (g : (pc : Int) + o = t) (hd : decode (cod m) pc = .ok (.ifCond .lt o, 3)) (kt : x < 0 → At d m t L st G I J Q) (kf : 0 ≤ x → At d m (pc + 3) L st G I J Q) : At d m pc L (vI x :: st) G I J Q := by
  by_cases h : cnd .lt x 0 = true
  · exact A_nx (by rw [stp_of hd]; simp only [exI, brn, nx, if_pos (show 0 ≤ (pc : Int) + o by omega), if_pos h, show ((pc : Int) + o).toNat = t by omega]) (kt (by simpa [cnd] using h))
  · exact A_nx (by rw [stp_of hd]; simp only [exI, brn, nx, if_pos (show 0 ≤ (pc : Int) + o by omega), if_neg h]) (kf (by simp [cnd] at h; omega))
theorem a_if_ge {x : Int} {o : Int} {t : Nat} (g : (pc : Int) + o = t) (hd : decode (cod m) pc = .ok (.ifCond .ge o, 3)) (kt : 0 ≤ x → At d m t L st G I J Q) (kf : x < 0 → At d m (pc + 3) L st G I J Q) : At d m pc L (vI x :: st) G I J Q := by
  by_cases h : cnd .ge x 0 = true
  · exact A_nx (by rw [stp_of hd]; simp only [exI, brn, nx, if_pos (show 0 ≤ (pc : Int) + o by omega), if_pos h, show ((pc : Int) + o).toNat = t by omega]) (kt (by simpa [cnd] using h))
  · exact A_nx (by rw [stp_of hd]; simp only [exI, brn, nx, if_pos (show 0 ≤ (pc : Int) + o by omega), if_neg h]) (kf (by simp [cnd] at h; omega))
theorem a_if_gt {x : Int} {o : Int} {t : Nat} (g : (pc : Int) + o = t) (hd : decode (cod m) pc = .ok (.ifCond .gt o, 3)) (kt : 0 < x → At d m t L st G I J Q) (kf : x ≤ 0 → At d m (pc + 3) L st G I J Q) : At d m pc L (vI x :: st) G I J Q := by
  by_cases h : cnd .gt x 0 = true
  · exact A_nx (by rw [stp_of hd]; simp only [exI, brn, nx, if_pos (show 0 ≤ (pc : Int) + o by omega), if_pos h, show ((pc : Int) + o).toNat = t by omega]) (kt (by simpa [cnd] using h))
  · exact A_nx (by rw [stp_of hd]; simp only [exI, brn, nx, if_pos (show 0 ≤ (pc : Int) + o by omega), if_neg h]) (kf (by simp [cnd] at h; omega))
theorem a_if_le {x : Int} {o : Int} {t : Nat} (g : (pc : Int) + o = t) (hd : decode (cod m) pc = .ok (.ifCond .le o, 3)) (kt : x ≤ 0 → At d m t L st G I J Q) (kf : 0 < x → At d m (pc + 3) L st G I J Q) : At d m pc L (vI x :: st) G I J Q := by
  by_cases h : cnd .le x 0 = true
  · exact A_nx (by rw [stp_of hd]; simp only [exI, brn, nx, if_pos (show 0 ≤ (pc : Int) + o by omega), if_pos h, show ((pc : Int) + o).toNat = t by omega]) (kt (by simpa [cnd] using h))
  · exact A_nx (by rw [stp_of hd]; simp only [exI, brn, nx, if_pos (show 0 ≤ (pc : Int) + o by omega), if_neg h]) (kf (by simp [cnd] at h; omega))
theorem a_ic_eq {x y : Int} {o : Int} {t : Nat} (g : (pc : Int) + o = t) (hd : decode (cod m) pc = .ok (.if_icmp .eq o, 3)) (kt : x = y → At d m t L st G I J Q) (kf : ¬ x = y → At d m (pc + 3) L st G I J Q) : At d m pc L (vI y :: vI x :: st) G I J Q := by
  by_cases h : cnd .eq x y = true
  · exact A_nx (by rw [stp_of hd]; simp only [exI, brn, nx, if_pos (show 0 ≤ (pc : Int) + o by omega), if_pos h, show ((pc : Int) + o).toNat = t by omega]) (kt (by simpa [cnd] using h))
  · exact A_nx (by rw [stp_of hd]; simp only [exI, brn, nx, if_pos (show 0 ≤ (pc : Int) + o by omega), if_neg h]) (kf (by simp [cnd] at h; omega))
theorem a_ic_ne {x y : Int} {o : Int} {t : Nat} (g : (pc : Int) + o = t) (hd : decode (cod m) pc = .ok (.if_icmp .ne o, 3)) (kt : ¬ x = y → At d m t L st G I J Q) (kf : x = y → At d m (pc + 3) L st G I J Q) : At d m pc L (vI y :: vI x :: st) G I J Q := by
  by_cases h : cnd .ne x y = true
  · exact A_nx (by rw [stp_of hd]; simp only [exI, brn, nx, if_pos (show 0 ≤ (pc : Int) + o by omega), if_pos h, show ((pc : Int) + o).toNat = t by omega]) (kt (by simpa [cnd] using h))
  · exact A_nx (by rw [stp_of hd]; simp only [exI, brn, nx, if_pos (show 0 ≤ (pc : Int) + o by omega), if_neg h]) (kf (by simp [cnd] at h; omega))
theorem a_ic_lt {x y : Int} {o : Int} {t : Nat} (g : (pc : Int) + o = t) (hd : decode (cod m) pc = .ok (.if_icmp .lt o, 3)) (kt : x < y → At d m t L st G I J Q) (kf : y ≤ x → At d m (pc + 3) L st G I J Q) : At d m pc L (vI y :: vI x :: st) G I J Q := by
  by_cases h : cnd .lt x y = true
  · exact A_nx (by rw [stp_of hd]; simp only [exI, brn, nx, if_pos (show 0 ≤ (pc : Int) + o by omega), if_pos h, show ((pc : Int) + o).toNat = t by omega]) (kt (by simpa [cnd] using h))
  · exact A_nx (by rw [stp_of hd]; simp only [exI, brn, nx, if_pos (show 0 ≤ (pc : Int) + o by omega), if_neg h]) (kf (by simp [cnd] at h; omega))
theorem a_ic_ge {x y : Int} {o : Int} {t : Nat} (g : (pc : Int) + o = t) (hd : decode (cod m) pc = .ok (.if_icmp .ge o, 3)) (kt : y ≤ x → At d m t L st G I J Q) (kf : x < y → At d m (pc + 3) L st G I J Q) : At d m pc L (vI y :: vI x :: st) G I J Q := by
  by_cases h : cnd .ge x y = true
  · exact A_nx (by rw [stp_of hd]; simp only [exI, brn, nx, if_pos (show 0 ≤ (pc : Int) + o by omega), if_pos h, show ((pc : Int) + o).toNat = t by omega]) (kt (by simpa [cnd] using h))
  · exact A_nx (by rw [stp_of hd]; simp only [exI, brn, nx, if_pos (show 0 ≤ (pc : Int) + o by omega), if_neg h]) (kf (by simp [cnd] at h; omega))
theorem a_ic_gt {x y : Int} {o : Int} {t : Nat} (g : (pc : Int) + o = t) (hd : decode (cod m) pc = .ok (.if_icmp .gt o, 3)) (kt : y < x → At d m t L st G I J Q) (kf : x ≤ y → At d m (pc + 3) L st G I J Q) : At d m pc L (vI y :: vI x :: st) G I J Q := by
  by_cases h : cnd .gt x y = true
  · exact A_nx (by rw [stp_of hd]; simp only [exI, brn, nx, if_pos (show 0 ≤ (pc : Int) + o by omega), if_pos h, show ((pc : Int) + o).toNat = t by omega]) (kt (by simpa [cnd] using h))
  · exact A_nx (by rw [stp_of hd]; simp only [exI, brn, nx, if_pos (show 0 ≤ (pc : Int) + o by omega), if_neg h]) (kf (by simp [cnd] at h; omega))
theorem a_ic_le {x y : Int} {o : Int} {t : Nat} (g : (pc : Int) + o = t) (hd : decode (cod m) pc = .ok (.if_icmp .le o, 3)) (kt : x ≤ y → At d m t L st G I J Q) (kf : y < x → At d m (pc + 3) L st G I J Q) : At d m pc L (vI y :: vI x :: st) G I J Q := by
  by_cases h : cnd .le x y = true
  · exact A_nx (by rw [stp_of hd]; simp only [exI, brn, nx, if_pos (show 0 ≤ (pc : Int) + o by omega), if_pos h, show ((pc : Int) + o).toNat = t by omega]) (kt (by simpa [cnd] using h))
  · exact A_nx (by rw [stp_of hd]; simp only [exI, brn, nx, if_pos (show 0 ≤ (pc : Int) + o by omega), if_neg h]) (kf (by simp [cnd] at h; omega))
theorem a_ifnn {a : Nat} {o : Int} {t : Nat} (g : (pc : Int) + o = t) (h : a ≠ 1050) (hd : decode (cod m) pc = .ok (.ifnonnull o, 3)) (k : At d m t L st G I J Q) : At d m pc L (vR a :: st) G I J Q := A_nx (by rw [stp_of hd]; simp only [exI, brn, nx, if_neg (show ¬ some a = some 1050 from fun q => h (Option.some.inj q)), if_pos (show 0 ≤ (pc : Int) + o by omega), if_pos (show (some a).isSome = true from rfl), show ((pc : Int) + o).toNat = t by omega]) k
theorem a_ifnn0 {o : Int} {t : Nat} (g : (pc : Int) + o = t) (hd : decode (cod m) pc = .ok (.ifnonnull o, 3)) (k : At d m (pc + 3) L st G I J Q) : At d m pc L (vN :: st) G I J Q := A_nx (by rw [stp_of hd]; simp only [exI, brn, nx, if_neg (show ¬ (none : Option Nat) = some 1050 from fun q => by cases q), if_pos (show 0 ≤ (pc : Int) + o by omega), if_neg (show ¬ (none : Option Nat).isSome = true from by decide)]) k
theorem a_tabO {x e lo hi : Int} {os : Array Int} {n t : Nat} (h : x < lo ∨ hi < x) (g : (pc : Int) + e = t) (hd : decode (cod m) pc = .ok (.tableswitch e lo hi os, n)) (k : At d m t L st G I J Q) : At d m pc L (vI x :: st) G I J Q := A_nx (by rw [stp_of hd]; simp only [exI, nx, if_pos h, if_pos (show 0 ≤ (pc : Int) + e by omega), show ((pc : Int) + e).toNat = t by omega]) k
theorem a_tabI {x e lo hi o : Int} {os : Array Int} {n t : Nat} (h : ¬ (x < lo ∨ hi < x)) (ho : os[(x - lo).toNat]? = some o) (g : (pc : Int) + o = t) (hd : decode (cod m) pc = .ok (.tableswitch e lo hi os, n)) (k : At d m t L st G I J Q) : At d m pc L (vI x :: st) G I J Q := A_nx (by rw [stp_of hd]; simp only [exI, nx, if_neg h, ho, if_pos (show 0 ≤ (pc : Int) + o by omega), show ((pc : Int) + o).toNat = t by omega]) k
theorem a_look {x e o : Int} {ps : Array (Int × Int)} {n t : Nat} (hp : (ps.toList.zip (ps.toList.drop 1)).all (fun (a, next) => a.1 < next.1) = true) (ho : Op.lookupswitch.offset ps.toList e x = o) (g : (pc : Int) + o = t) (hd : decode (cod m) pc = .ok (.lookupswitch e ps, n)) (k : At d m t L st G I J Q) : At d m pc L (vI x :: st) G I J Q := A_nx (by rw [stp_of hd]; simp only [exI, nx, ho, if_pos (show _ ∧ 0 ≤ (pc : Int) + o from ⟨hp, by omega⟩), show ((pc : Int) + o).toNat = t by omega]) k
def getOk (m i a ci k kd : Nat) : Bool := decide (fldR m i = some (ci, k)) && decide (SH a = (0, ci)) && decide (k < nfd ci) && decide ((fkd ci k).1 = kd)
theorem getOk_sp {m i a ci k kd : Nat} (h : getOk m i a ci k kd = true) : fldR m i = some (ci, k) ∧ SH a = (0, ci) ∧ k < nfd ci ∧ (fkd ci k).1 = kd := by
  unfold getOk at h
  simp only [Bool.and_eq_true, decide_eq_true_eq] at h
  exact ⟨h.1.1.1, h.1.1.2, h.1.2, h.2⟩
theorem a_getI {i a ci k kd : Nat} (h : getOk m i a ci k kd = true) (h0 : kd = 0 ∨ kd = 3) (ha : a < G.1) (hd : decode (cod m) pc = .ok (.getfield i, 3)) (kk : At d m (pc + 3) L (vI (I a k) :: st) G I J Q) : At d m pc L (vR a :: st) G I J Q := by
  obtain ⟨h1, h2, h3, h4⟩ := getOk_sp h
  refine A_nx (by rw [stp_of hd]; rw [e_get]; unfold exGet; (try dsimp only); rw [h1]; (try dsimp only); rw [h2, if_pos ⟨rfl, rfl, ha, h3⟩, h4]; unfold fval; rw [if_neg (by omega), if_neg (by omega)]; rfl) kk
theorem a_getJ {i a ci k : Nat} (h : getOk m i a ci k 1 = true) (ha : a < G.1) (hd : decode (cod m) pc = .ok (.getfield i, 3)) (kk : At d m (pc + 3) L (vL (J a k) :: st) G I J Q) : At d m pc L (vR a :: st) G I J Q := by
  obtain ⟨h1, h2, h3, h4⟩ := getOk_sp h
  refine A_nx (by rw [stp_of hd]; rw [e_get]; unfold exGet; (try dsimp only); rw [h1]; (try dsimp only); rw [h2, if_pos ⟨rfl, rfl, ha, h3⟩, h4]; unfold fval; rw [if_pos rfl]; rfl) kk
theorem a_getR {i a ci k : Nat} {r : Option Nat} (h : getOk m i a ci k 2 = true) (ha : a < G.1) (hr : G.2 a k = r) (hd : decode (cod m) pc = .ok (.getfield i, 3)) (kk : At d m (pc + 3) L (.inr (.inr r) :: st) G I J Q) : At d m pc L (vR a :: st) G I J Q := by
  obtain ⟨h1, h2, h3, h4⟩ := getOk_sp h
  refine A_nx (by rw [stp_of hd]; rw [e_get]; unfold exGet; (try dsimp only); rw [h1]; (try dsimp only); rw [h2, if_pos ⟨rfl, rfl, ha, h3⟩, h4]; unfold fval; rw [if_neg (by decide), if_pos rfl, hr]; rfl) kk
theorem a_getS {i a : Nat} {k : Nat} (h1 : fldR m i = some (50, k)) (h : (SH a).1 = 11) (hd : decode (cod m) pc = .ok (.getfield i, 3)) (kk : At d m (pc + 3) L ((if k = 0 then vR (1012 + (SH a).2) else vI 0) :: st) G I J Q) : At d m pc L (vR a :: st) G I J Q := A_nx (by rw [stp_of hd]; rw [e_get]; unfold exGet; (try dsimp only); rw [h1]; (try dsimp only); rw [if_neg (by omega), if_pos ⟨h, rfl⟩]; rfl) kk
theorem a_putI {i a ci k : Nat} {x : Int} (h : getOk m i a ci k 0 = true) (hf : finOk m ci k = true) (ha : a < G.1) (hd : decode (cod m) pc = .ok (.putfield i, 3)) (kk : At d m (pc + 3) L st G (mset I a k x) J Q) : At d m pc L (vI x :: vR a :: st) G I J Q := by
  obtain ⟨h1, h2, h3, h4⟩ := getOk_sp h
  refine A_nx (by rw [stp_of hd]; rw [e_put]; unfold exPut; (try dsimp only); rw [h1]; (try dsimp only); rw [h2, if_pos ⟨rfl, rfl, ha, h3, hf⟩, h4]; rfl) kk
theorem a_putZ {i a ci k : Nat} {x : Int} (h : getOk m i a ci k 3 = true) (hf : finOk m ci k = true) (ha : a < G.1) (g : x = 0 ∨ x = 1) (hd : decode (cod m) pc = .ok (.putfield i, 3)) (kk : At d m (pc + 3) L st G (mset I a k x) J Q) : At d m pc L (vI x :: vR a :: st) G I J Q := by
  obtain ⟨h1, h2, h3, h4⟩ := getOk_sp h
  refine A_nx (by rw [stp_of hd]; rw [e_put]; unfold exPut; (try dsimp only); rw [h1]; (try dsimp only); rw [h2, if_pos ⟨rfl, rfl, ha, h3, hf⟩, h4]; show (if x = 0 ∨ x = 1 then nx (pc + 3) L st G (mset I a (k : Int) x) J else none) = _; rw [if_pos g]; rfl) kk
theorem a_putJ {i a ci k : Nat} {x : Int} (h : getOk m i a ci k 1 = true) (hf : finOk m ci k = true) (ha : a < G.1) (hd : decode (cod m) pc = .ok (.putfield i, 3)) (kk : At d m (pc + 3) L st G I (mset J a k x) Q) : At d m pc L (vL x :: vR a :: st) G I J Q := by
  obtain ⟨h1, h2, h3, h4⟩ := getOk_sp h
  refine A_nx (by rw [stp_of hd]; rw [e_put]; unfold exPut; (try dsimp only); rw [h1]; (try dsimp only); rw [h2, if_pos ⟨rfl, rfl, ha, h3, hf⟩, h4]; rfl) kk
theorem a_putR {i a ci k : Nat} {r : Option Nat} (h : getOk m i a ci k 2 = true) (hf : finOk m ci k = true) (ha : a < G.1) (g : r ≠ some 1050) (hd : decode (cod m) pc = .ok (.putfield i, 3)) (kk : At d m (pc + 3) L st (gset G a k r) I J Q) : At d m pc L (.inr (.inr r) :: vR a :: st) G I J Q := by
  obtain ⟨h1, h2, h3, h4⟩ := getOk_sp h
  refine A_nx (by rw [stp_of hd]; rw [e_put]; unfold exPut; (try dsimp only); rw [h1]; (try dsimp only); rw [h2, if_pos ⟨rfl, rfl, ha, h3, hf⟩, h4]; show (if r = some 1050 then none else nx (pc + 3) L st (gset G a (k : Int) r) I J) = _; rw [if_neg g]; rfl) kk
theorem a_gets {i : Nat} {v : aV} (h : sttR m i = some v) (hd : decode (cod m) pc = .ok (.getstatic i, 3)) (kk : At d m (pc + 3) L (v :: st) G I J Q) : At d m pc L st G I J Q := A_nx (by rw [stp_of hd]; simp only [exI, h, nx]) kk
theorem a_iald {a n : Nat} {j : Int} (h : SH a = (1, n)) (ha : a < G.1) (g0 : 0 ≤ j) (g1 : j < n) (hd : decode (cod m) pc = .ok (.iaload, 1)) (k : At d m (pc + 1) L (vI (I a j) :: st) G I J Q) : At d m pc L (vI j :: vR a :: st) G I J Q := A_nx (by rw [stp_of hd]; rw [e_ild]; unfold exALoad; (try dsimp only); rw [h, if_pos (by simp), if_pos ⟨by simp, ha, g0, g1⟩]; rfl) k
theorem a_bald {a n kd : Nat} {j : Int} (h : SH a = (kd, n)) (hk : kd = 3 ∨ kd = 4) (ha : a < G.1) (g0 : 0 ≤ j) (g1 : j < n) (hd : decode (cod m) pc = .ok (.baload, 1)) (k : At d m (pc + 1) L (vI (I a j) :: st) G I J Q) : At d m pc L (vI j :: vR a :: st) G I J Q := A_nx (by rw [stp_of hd]; rw [e_bld]; unfold exALoad; (try dsimp only); rw [h, if_pos (by (try dsimp only); omega), if_pos ⟨by rcases hk with rfl | rfl <;> simp, ha, g0, g1⟩]; rfl) k
theorem a_kald {a n : Nat} {j : Int} (h : SH a = (10, n)) (g0 : 0 ≤ j) (g1 : j < n) (hd : decode (cod m) pc = .ok (.iaload, 1)) (k : At d m (pc + 1) L (vI (KI a j) :: st) G I J Q) : At d m pc L (vI j :: vR a :: st) G I J Q := A_nx (by rw [stp_of hd]; rw [e_ild]; unfold exALoad; (try dsimp only); rw [h, if_neg (by simp), if_neg (by simp), if_pos ⟨Or.inl ⟨rfl, by simp⟩, g0, g1⟩]; rfl) k
theorem a_kbld {a : Nat} {j : Int} (h : (SH a).1 = 12) (g0 : 0 ≤ j) (g1 : j < (SH a).2) (hd : decode (cod m) pc = .ok (.baload, 1)) (k : At d m (pc + 1) L (vI (KI a j) :: st) G I J Q) : At d m pc L (vI j :: vR a :: st) G I J Q := A_nx (by rw [stp_of hd]; rw [e_bld]; unfold exALoad; (try dsimp only); rw [if_neg (by omega), if_neg (by omega), if_pos ⟨Or.inr ⟨h, by decide⟩, g0, g1⟩]; rfl) k
theorem a_scr {j : Int} (hm : m = 0) (g0 : 0 ≤ j) (g1 : j < I 1061 0) (hd : decode (cod m) pc = .ok (.iaload, 1)) (k : At d m (pc + 1) L (vI (I 1060 j) :: st) G I J Q) : At d m pc L (vI j :: vR 1060 :: st) G I J Q := A_nx (by rw [stp_of hd]; rw [e_ild]; unfold exALoad; (try dsimp only); rw [show SH 1060 = (13, 0) from rfl, if_neg (by simp), if_pos rfl, if_pos ⟨by simp, hm, rfl, g0, g1⟩]; rfl) k
theorem a_lald {a n : Nat} {j : Int} (h : SH a = (2, n)) (ha : a < G.1) (g0 : 0 ≤ j) (g1 : j < n) (hd : decode (cod m) pc = .ok (.laload, 1)) (k : At d m (pc + 1) L (vL (J a j) :: st) G I J Q) : At d m pc L (vI j :: vR a :: st) G I J Q := A_nx (by rw [stp_of hd]; rw [e_lld]; unfold exLLoad; (try dsimp only); rw [h, if_pos ⟨rfl, ha, g0, g1⟩]; rfl) k
theorem a_iast {a n : Nat} {j x : Int} (h : SH a = (1, n)) (ha : a < G.1) (g0 : 0 ≤ j) (g1 : j < n) (hd : decode (cod m) pc = .ok (.iastore, 1)) (k : At d m (pc + 1) L st G (mset I a j x) J Q) : At d m pc L (vI x :: vI j :: vR a :: st) G I J Q := A_nx (by rw [stp_of hd]; rw [e_ist]; unfold exIStore; (try dsimp only); rw [h, if_pos ⟨rfl, ha, g0, g1⟩]; rfl) k
theorem a_bast {a n : Nat} {j x : Int} (h : SH a = (3, n)) (ha : a < G.1) (g0 : 0 ≤ j) (g1 : j < n) (g : -128 ≤ x ∧ x ≤ 127) (hd : decode (cod m) pc = .ok (.bastore, 1)) (k : At d m (pc + 1) L st G (mset I a j x) J Q) : At d m pc L (vI x :: vI j :: vR a :: st) G I J Q := A_nx (by rw [stp_of hd]; rw [e_bst]; unfold exBStore; (try dsimp only); rw [h, if_pos ⟨Or.inl ⟨rfl, g⟩, ha, g0, g1⟩]; rfl) k
theorem a_zast {a n : Nat} {j x : Int} (h : SH a = (4, n)) (ha : a < G.1) (g0 : 0 ≤ j) (g1 : j < n) (g : x = 0 ∨ x = 1) (hd : decode (cod m) pc = .ok (.bastore, 1)) (k : At d m (pc + 1) L st G (mset I a j x) J Q) : At d m pc L (vI x :: vI j :: vR a :: st) G I J Q := A_nx (by rw [stp_of hd]; rw [e_bst]; unfold exBStore; (try dsimp only); rw [h, if_pos ⟨Or.inr ⟨rfl, g⟩, ha, g0, g1⟩]; rfl) k
theorem a_last {a n : Nat} {j x : Int} (h : SH a = (2, n)) (ha : a < G.1) (g0 : 0 ≤ j) (g1 : j < n) (hd : decode (cod m) pc = .ok (.lastore, 1)) (k : At d m (pc + 1) L st G I (mset J a j x) Q) : At d m pc L (vL x :: vI j :: vR a :: st) G I J Q := A_nx (by rw [stp_of hd]; rw [e_lst]; unfold exLStore; (try dsimp only); rw [h, if_pos ⟨rfl, ha, g0, g1⟩]; rfl) k
theorem a_klen {a : Nat} (h : (SH a).1 = 12) (hd : decode (cod m) pc = .ok (.arraylength, 1)) (k : At d m (pc + 1) L (vI ((SH a).2 : Int) :: st) G I J Q) : At d m pc L (vR a :: st) G I J Q := A_nx (by rw [stp_of hd]; rw [e_len]; unfold exLen; (try dsimp only); rw [if_pos h]; rfl) k
theorem a_slen (hm : m = 0) (hd : decode (cod m) pc = .ok (.arraylength, 1)) (k : At d m (pc + 1) L (vI (I 1061 0) :: st) G I J Q) : At d m pc L (vR 1060 :: st) G I J Q := A_nx (by rw [stp_of hd]; rw [e_len]; unfold exLen; (try dsimp only); rw [if_neg (by decide), if_pos ⟨rfl, hm, rfl⟩]; rfl) k
theorem a_new {i ci n : Nat} (h : clsR m i = some ci) (hn : G.1 = n) (h0 : SH n = (0, ci)) (h1 : n < 1000) (hd : decode (cod m) pc = .ok (.new i, 3)) (k : At d m (pc + 3) L (vR n :: st) (n + 1, G.2) I J Q) : At d m pc L st G I J Q := A_nx (by subst hn; rw [stp_of hd]; rw [e_new]; unfold exNew; rw [h]; (try dsimp only); rw [if_pos ⟨h0, h1⟩]; rfl) k
theorem a_newa {t : ArrayType} {x : Int} {n : Nat} (hn : G.1 = n) (h0 : SH n = (akd t, x.toNat)) (h1 : akd t ≠ 99 ∧ 0 ≤ x ∧ x < 100000 ∧ n < 1000) (hd : decode (cod m) pc = .ok (.newarray t, 2)) (k : At d m (pc + 2) L (vR n :: st) (n + 1, G.2) I J Q) : At d m pc L (vI x :: st) G I J Q := A_nx (by subst hn; rw [stp_of hd]; rw [e_nwa]; unfold exNewA; (try dsimp only); rw [if_pos ⟨h0, h1.1, h1.2.1, h1.2.2.1, h1.2.2.2⟩]; rfl) k
theorem a_cpyI {i a b na nb kd : Nat} {sp dp n : Int} (hm : mthR m i = some (6, 0)) (h1 : SH a = (kd, na)) (h2 : SH b = (kd, nb)) (hk : kd = 1 ∨ kd = 3) (ha : a < G.1) (hb : b < G.1) (g0 : 0 ≤ sp) (g1 : 0 ≤ dp) (g2 : 0 ≤ n) (g3 : sp + n ≤ na) (g4 : dp + n ≤ nb) (hc : cats st ≤ 8) (hd : decode (cod m) pc = .ok (.invokestatic i, 3)) (k : At d m (pc + 3) L st G (mcpy I a sp b dp n) J Q) : At d m pc L (vI n :: vI dp :: vR b :: vI sp :: vR a :: st) G I J Q := A_nx (by rw [stp_of hd]; simp only [exI, hm]; rw [if_neg (by decide), if_pos (by trivial)]; unfold exCopy; (try dsimp only); rw [h1, h2, if_pos ⟨rfl, ha, hb, g0, g1, g2, g3, g4, hc⟩, if_pos hk]; rfl) k
theorem a_cpyJ {i a b na nb : Nat} {sp dp n : Int} (hm : mthR m i = some (6, 0)) (h1 : SH a = (2, na)) (h2 : SH b = (2, nb)) (ha : a < G.1) (hb : b < G.1) (g0 : 0 ≤ sp) (g1 : 0 ≤ dp) (g2 : 0 ≤ n) (g3 : sp + n ≤ na) (g4 : dp + n ≤ nb) (hc : cats st ≤ 8) (hd : decode (cod m) pc = .ok (.invokestatic i, 3)) (k : At d m (pc + 3) L st G I (mcpy J a sp b dp n) Q) : At d m pc L (vI n :: vI dp :: vR b :: vI sp :: vR a :: st) G I J Q := A_nx (by rw [stp_of hd]; simp only [exI, hm]; rw [if_neg (by decide), if_pos (by trivial)]; unfold exCopy; (try dsimp only); rw [h1, h2, if_pos ⟨rfl, ha, hb, g0, g1, g2, g3, g4, hc⟩, if_neg (by simp), if_pos rfl]; rfl) k
theorem a_max {i : Nat} {x y : Int} (hm : mthR m i = some (7, 0)) (hc : cats st ≤ 8) (hd : decode (cod m) pc = .ok (.invokestatic i, 3)) (k : At d m (pc + 3) L (vI (max x y) :: st) G I J Q) : At d m pc L (vI y :: vI x :: st) G I J Q := A_nx (by rw [stp_of hd]; simp only [exI, hm]; rw [if_neg (by decide), if_neg (by decide), if_pos (by trivial)]; unfold exMx; (try dsimp only); rw [if_pos hc]; rfl) k
theorem a_min {i : Nat} {x y : Int} (hm : mthR m i = some (8, 0)) (hc : cats st ≤ 8) (hd : decode (cod m) pc = .ok (.invokestatic i, 3)) (k : At d m (pc + 3) L (vI (min x y) :: st) G I J Q) : At d m pc L (vI y :: vI x :: st) G I J Q := A_nx (by rw [stp_of hd]; simp only [exI, hm]; rw [if_neg (by decide), if_neg (by decide), if_neg (by decide), if_pos (by trivial)]; unfold exMx; (try dsimp only); rw [if_pos hc]; rfl) k
theorem a_obj {i a : Nat} (hm : mthR m i = some (5, 0)) (h : (SH a).1 = 0) (hc : cats st ≤ 8) (hd : decode (cod m) pc = .ok (.invokespecial i, 3)) (k : At d m (pc + 3) L st G I J Q) : At d m pc L (vR a :: st) G I J Q := A_nx (by rw [stp_of hd]; simp only [exI, hm]; rw [if_neg (by decide), if_pos (by trivial), if_pos ⟨h, hc⟩]; rfl) k
theorem a_iret {x : Int} (g : retOk (rty m) x = true) (hd : decode (cod m) pc = .ok (.ireturn, 1)) (k : Q (some (vI x)) G I J) : At d m pc L [vI x] G I J Q := A_ret (by rw [stp_of hd]; simp only [exI, if_pos g]) k
theorem a_lret {x : Int} (g : rty m = some .long) (hd : decode (cod m) pc = .ok (.lreturn, 1)) (k : Q (some (vL x)) G I J) : At d m pc L [vL x] G I J Q := A_ret (by rw [stp_of hd]; simp only [exI, if_pos g]) k
theorem a_aret {a : Nat} (g : isRT (rty m) = true) (h : a ≠ 1050) (hd : decode (cod m) pc = .ok (.areturn, 1)) (k : Q (some (vR a)) G I J) : At d m pc L [vR a] G I J Q := A_ret (by rw [stp_of hd]; simp only [exI, if_pos (show _ ∧ _ from ⟨g, show some a ≠ some 1050 from fun q => h (Option.some.inj q)⟩)]) k
theorem a_vret (g : rty m = none) (hd : decode (cod m) pc = .ok (.return_, 1)) (k : Q none G I J) : At d m pc L [] G I J Q := A_ret (by rw [stp_of hd]; simp only [exI, if_pos g]) k
/-- calls: the arguments lie on the stack, the last one on top -/
theorem a_calS {i y n : Nat} {E : List (Option aV)} (hm : mthR m i = some (1, y)) (hn : npr y = n) (h1 : n ≤ st.length) (hc : cats (st.drop n) ≤ 8) (he : entOk y ((st.take n).reverse) = true) (hE : ent (mxl y) ((st.take n).reverse) = E) (hd : decode (cod m) pc = .ok (.invokestatic i, 3)) (k : At d y 0 E [] G I J (fun v G' I' J' => At (d + 1) m (pc + 3) L (v.toList ++ st.drop n) G' I' J' Q)) : At (d + 1) m pc L st G I J Q := by
  subst hn
  subst hE
  exact A_call (by rw [stp_of hd]; simp only [exI, hm]; rw [if_pos (by trivial)]; unfold exCall; rw [if_pos rfl, if_pos ⟨h1, hc, he⟩]) k
theorem a_calV {i y n kd : Nat} {v : aV} {rest : List aV} {E : List (Option aV)} (hm : mthR m i = some (kd, y)) (hk : kd = 0 ∨ kd = 4) (hn : npr y = n) (h1 : st.drop n = v :: rest) (hr : rcv y G v = true) (hc : cats rest ≤ 8) (he : entOk y (v :: (st.take n).reverse) = true) (hE : ent (mxl y) (v :: (st.take n).reverse) = E) (hd : decode (cod m) pc = .ok (.invokevirtual i, 3)) (k : At d y 0 E [] G I J (fun v G' I' J' => At (d + 1) m (pc + 3) L (v.toList ++ rest) G' I' J' Q)) : At (d + 1) m pc L st G I J Q := by
  subst hn
  subst hE
  exact A_call (by rw [stp_of hd]; simp only [exI, hm]; rw [if_pos hk]; unfold exCall; rw [if_neg (by omega), h1]; (try dsimp only); rw [if_pos ⟨hr, hc, he⟩]) k
theorem a_calI {i y n kd : Nat} {v : aV} {rest : List aV} {E : List (Option aV)} (hm : mthR m i = some (kd, y)) (hk : kd = 2 ∨ kd = 3) (hn : npr y = n) (h1 : st.drop n = v :: rest) (hr : rcv y G v = true) (hc : cats rest ≤ 8) (he : entOk y (v :: (st.take n).reverse) = true) (hE : ent (mxl y) (v :: (st.take n).reverse) = E) (hd : decode (cod m) pc = .ok (.invokespecial i, 3)) (k : At d y 0 E [] G I J (fun v G' I' J' => At (d + 1) m (pc + 3) L (v.toList ++ rest) G' I' J' Q)) : At (d + 1) m pc L st G I J Q := by
  subst hn
  subst hE
  exact A_call (by rw [stp_of hd]; simp only [exI, hm]; rw [if_pos hk]; unfold exCall; rw [if_neg (by omega), h1]; (try dsimp only); rw [if_pos ⟨hr, hc, he⟩]) k
theorem rcv_0 {y a o : Nat} (h : SH a = (0, o)) (ho : oNum y = o) (ha : a < G.1) : rcv y G (vR a) = true := by
  show (((SH a).1 == 0 && (SH a).2 == oNum y && decide (a < G.1)) || ((SH a).1 == 11 && oNum y == 20)) = true
  rw [h, ho]
  simp [ha]
theorem rcv_11 {y a : Nat} (h : (SH a).1 = 11) (ho : oNum y = 20) : rcv y G (vR a) = true := by
  show (((SH a).1 == 0 && (SH a).2 == oNum y && decide (a < G.1)) || ((SH a).1 == 11 && oNum y == 20)) = true
  rw [h, ho]
  rfl
end AT
