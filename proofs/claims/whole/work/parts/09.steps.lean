/-! one step: whatever the small machine does in a step that is no call and no end, the machine does -/
section ST
variable {p : Program} {l : Launch} {e : Env} {R : Room} {s : State} {mi : MethodId} {args : Array Value} {below : List Frame} {meth : Method} {c : Code} {Q : State → Prop} {D : va_G} {cA : Nat → ClassId} {zv : Value} {A : Nat → Prop} {m cells slots : Nat} {ρ : Nat → Nat} {pc pc' : Nat} {L L' : List (Option aV)} {st st' : List aV} {G G' : aG} {I J I' J' : aI}

theorem k_0 {n : Nat} (kk : ∀ ρ', zExt ρ ρ' n → wN p l e R s mi args below meth c Q D cA zv A m (cells + (n - n)) (slots + (SZ n - SZ n)) ρ' pc' L' st' G' I' J') : wN p l e R s mi args below meth c Q D cA zv A m cells slots ρ pc' L' st' G' I' J' := by
  have h := kk ρ zExt.rf
  rw [Nat.sub_self, Nat.sub_self] at h
  exact h
theorem v_1 {v : aV} (hs : sOk m L (v :: st) G I J) : vOk G.1 v := hs.2.1 _ List.mem_cons_self
theorem v_2 {u v : aV} (hs : sOk m L (u :: v :: st) G I J) : vOk G.1 v := hs.2.1 _ (List.mem_cons_of_mem _ List.mem_cons_self)
theorem v_3 {u v w : aV} (hs : sOk m L (u :: v :: w :: st) G I J) : vOk G.1 w := hs.2.1 _ (List.mem_cons_of_mem _ (List.mem_cons_of_mem _ List.mem_cons_self))
theorem v_4 {u v w x : aV} (hs : sOk m L (u :: v :: w :: x :: st) G I J) : vOk G.1 x := hs.2.1 _ (List.mem_cons_of_mem _ (List.mem_cons_of_mem _ (List.mem_cons_of_mem _ List.mem_cons_self)))
theorem s_ifc {cc : Jvm.ClassFile.Cond} {x : Int} {o : Int} (C : cxM m D cA zv ρ A p R s mi args meth c) (hx : ok32 x) (h : 0 ≤ (pc : Int) + o) (hd : decode (cod m) pc = .ok (.ifCond cc o, 3)) (kt : cnd cc x 0 = true → wN p l e R s mi args below meth c Q D cA zv A m cells slots ρ ((pc : Int) + o).toNat L st G I J) (kf : cnd cc x 0 = false → wN p l e R s mi args below meth c Q D cA zv A m cells slots ρ (pc + 3) L st G I J) : wN p l e R s mi args below meth c Q D cA zv A m cells slots ρ pc L (.inl x :: st) G I J := by
  cases cc
  · exact s_if_eq hx C h hd kt kf
  · exact s_if_ne hx C h hd kt kf
  · exact s_if_lt hx C h hd kt kf
  · exact s_if_ge hx C h hd kt kf
  · exact s_if_gt hx C h hd kt kf
  · exact s_if_le hx C h hd kt kf
theorem s_icc {cc : Jvm.ClassFile.Cond} {x y : Int} {o : Int} (C : cxM m D cA zv ρ A p R s mi args meth c) (hx : ok32 x) (hy : ok32 y) (h : 0 ≤ (pc : Int) + o) (hd : decode (cod m) pc = .ok (.if_icmp cc o, 3)) (kt : cnd cc x y = true → wN p l e R s mi args below meth c Q D cA zv A m cells slots ρ ((pc : Int) + o).toNat L st G I J) (kf : cnd cc x y = false → wN p l e R s mi args below meth c Q D cA zv A m cells slots ρ (pc + 3) L st G I J) : wN p l e R s mi args below meth c Q D cA zv A m cells slots ρ pc L (.inl y :: .inl x :: st) G I J := by
  cases cc
  · exact s_ic_eq hx hy C h hd kt kf
  · exact s_ic_ne hx hy C h hd kt kf
  · exact s_ic_lt hx hy C h hd kt kf
  · exact s_ic_ge hx hy C h hd kt kf
  · exact s_ic_gt hx hy C h hd kt kf
  · exact s_ic_le hx hy C h hd kt kf
theorem x_iadd (C : cxM m D cA zv ρ A p R s mi args meth c) (hs : sOk m L st G I J) (hd : decode (cod m) pc = .ok (.iadd, 1)) (h : exB (fun x y => x + y) pc L st G I J = some (.inl (pc', L', st', G', I', J'))) (kk : ∀ ρ', zExt ρ ρ' G.1 → wN p l e R s mi args below meth c Q D cA zv A m (cells + (G'.1 - G.1)) (slots + (SZ G'.1 - SZ G.1)) ρ' pc' L' st' G' I' J') : wN p l e R s mi args below meth c Q D cA zv A m cells slots ρ pc L st G I J := by
  unfold exB at h
  split at h
  · split at h
    · unfold nx at h
      cases h
      exact s_iadd C hd (k_0 kk)
    · cases h
  · cases h
theorem x_isub (C : cxM m D cA zv ρ A p R s mi args meth c) (hs : sOk m L st G I J) (hd : decode (cod m) pc = .ok (.isub, 1)) (h : exB (fun x y => x - y) pc L st G I J = some (.inl (pc', L', st', G', I', J'))) (kk : ∀ ρ', zExt ρ ρ' G.1 → wN p l e R s mi args below meth c Q D cA zv A m (cells + (G'.1 - G.1)) (slots + (SZ G'.1 - SZ G.1)) ρ' pc' L' st' G' I' J') : wN p l e R s mi args below meth c Q D cA zv A m cells slots ρ pc L st G I J := by
  unfold exB at h
  split at h
  · split at h
    · unfold nx at h
      cases h
      exact s_isub C hd (k_0 kk)
    · cases h
  · cases h
theorem x_imul (C : cxM m D cA zv ρ A p R s mi args meth c) (hs : sOk m L st G I J) (hd : decode (cod m) pc = .ok (.imul, 1)) (h : exB (fun x y => x * y) pc L st G I J = some (.inl (pc', L', st', G', I', J'))) (kk : ∀ ρ', zExt ρ ρ' G.1 → wN p l e R s mi args below meth c Q D cA zv A m (cells + (G'.1 - G.1)) (slots + (SZ G'.1 - SZ G.1)) ρ' pc' L' st' G' I' J') : wN p l e R s mi args below meth c Q D cA zv A m cells slots ρ pc L st G I J := by
  unfold exB at h
  split at h
  · split at h
    · unfold nx at h
      cases h
      exact s_imul C hd (k_0 kk)
    · cases h
  · cases h
theorem x_iand (C : cxM m D cA zv ρ A p R s mi args meth c) (hs : sOk m L st G I J) (hd : decode (cod m) pc = .ok (.iand, 1)) (h : exBu bAnd pc L st G I J = some (.inl (pc', L', st', G', I', J'))) (kk : ∀ ρ', zExt ρ ρ' G.1 → wN p l e R s mi args below meth c Q D cA zv A m (cells + (G'.1 - G.1)) (slots + (SZ G'.1 - SZ G.1)) ρ' pc' L' st' G' I' J') : wN p l e R s mi args below meth c Q D cA zv A m cells slots ρ pc L st G I J := by
  unfold exBu at h
  split at h
  · unfold nx at h
    cases h
    exact s_iand C hd (k_0 kk)
  · cases h
theorem x_ior (C : cxM m D cA zv ρ A p R s mi args meth c) (hs : sOk m L st G I J) (hd : decode (cod m) pc = .ok (.ior, 1)) (h : exBu bOr pc L st G I J = some (.inl (pc', L', st', G', I', J'))) (kk : ∀ ρ', zExt ρ ρ' G.1 → wN p l e R s mi args below meth c Q D cA zv A m (cells + (G'.1 - G.1)) (slots + (SZ G'.1 - SZ G.1)) ρ' pc' L' st' G' I' J') : wN p l e R s mi args below meth c Q D cA zv A m cells slots ρ pc L st G I J := by
  unfold exBu at h
  split at h
  · unfold nx at h
    cases h
    exact s_ior C hd (k_0 kk)
  · cases h
theorem x_ixor (C : cxM m D cA zv ρ A p R s mi args meth c) (hs : sOk m L st G I J) (hd : decode (cod m) pc = .ok (.ixor, 1)) (h : exBu bXor pc L st G I J = some (.inl (pc', L', st', G', I', J'))) (kk : ∀ ρ', zExt ρ ρ' G.1 → wN p l e R s mi args below meth c Q D cA zv A m (cells + (G'.1 - G.1)) (slots + (SZ G'.1 - SZ G.1)) ρ' pc' L' st' G' I' J') : wN p l e R s mi args below meth c Q D cA zv A m cells slots ρ pc L st G I J := by
  unfold exBu at h
  split at h
  · unfold nx at h
    cases h
    exact s_ixor C hd (k_0 kk)
  · cases h
theorem x_ishl (C : cxM m D cA zv ρ A p R s mi args meth c) (hs : sOk m L st G I J) (hd : decode (cod m) pc = .ok (.ishl, 1)) (h : exBu bShl pc L st G I J = some (.inl (pc', L', st', G', I', J'))) (kk : ∀ ρ', zExt ρ ρ' G.1 → wN p l e R s mi args below meth c Q D cA zv A m (cells + (G'.1 - G.1)) (slots + (SZ G'.1 - SZ G.1)) ρ' pc' L' st' G' I' J') : wN p l e R s mi args below meth c Q D cA zv A m cells slots ρ pc L st G I J := by
  unfold exBu at h
  split at h
  · unfold nx at h
    cases h
    exact s_ishl C hd (k_0 kk)
  · cases h
theorem x_ishr (C : cxM m D cA zv ρ A p R s mi args meth c) (hs : sOk m L st G I J) (hd : decode (cod m) pc = .ok (.ishr, 1)) (h : exBu bShr pc L st G I J = some (.inl (pc', L', st', G', I', J'))) (kk : ∀ ρ', zExt ρ ρ' G.1 → wN p l e R s mi args below meth c Q D cA zv A m (cells + (G'.1 - G.1)) (slots + (SZ G'.1 - SZ G.1)) ρ' pc' L' st' G' I' J') : wN p l e R s mi args below meth c Q D cA zv A m cells slots ρ pc L st G I J := by
  unfold exBu at h
  split at h
  · unfold nx at h
    cases h
    exact s_ishr C hd (k_0 kk)
  · cases h
theorem x_iushr (C : cxM m D cA zv ρ A p R s mi args meth c) (hs : sOk m L st G I J) (hd : decode (cod m) pc = .ok (.iushr, 1)) (h : exBu bUsr pc L st G I J = some (.inl (pc', L', st', G', I', J'))) (kk : ∀ ρ', zExt ρ ρ' G.1 → wN p l e R s mi args below meth c Q D cA zv A m (cells + (G'.1 - G.1)) (slots + (SZ G'.1 - SZ G.1)) ρ' pc' L' st' G' I' J') : wN p l e R s mi args below meth c Q D cA zv A m cells slots ρ pc L st G I J := by
  unfold exBu at h
  split at h
  · unfold nx at h
    cases h
    exact s_iushr C hd (k_0 kk)
  · cases h
theorem x_idiv (C : cxM m D cA zv ρ A p R s mi args meth c) (hs : sOk m L st G I J) (hd : decode (cod m) pc = .ok (.idiv, 1)) (h : exD (fun x y => x / y) pc L st G I J = some (.inl (pc', L', st', G', I', J'))) (kk : ∀ ρ', zExt ρ ρ' G.1 → wN p l e R s mi args below meth c Q D cA zv A m (cells + (G'.1 - G.1)) (slots + (SZ G'.1 - SZ G.1)) ρ' pc' L' st' G' I' J') : wN p l e R s mi args below meth c Q D cA zv A m cells slots ρ pc L st G I J := by
  unfold exD at h
  split at h
  · split at h
    · rename_i hh
      unfold nx at h
      cases h
      exact s_idiv (v_2 hs) (v_1 hs) hh.1 hh.2 C hd (k_0 kk)
    · cases h
  · cases h
theorem x_irem (C : cxM m D cA zv ρ A p R s mi args meth c) (hs : sOk m L st G I J) (hd : decode (cod m) pc = .ok (.irem, 1)) (h : exD (fun x y => x % y) pc L st G I J = some (.inl (pc', L', st', G', I', J'))) (kk : ∀ ρ', zExt ρ ρ' G.1 → wN p l e R s mi args below meth c Q D cA zv A m (cells + (G'.1 - G.1)) (slots + (SZ G'.1 - SZ G.1)) ρ' pc' L' st' G' I' J') : wN p l e R s mi args below meth c Q D cA zv A m cells slots ρ pc L st G I J := by
  unfold exD at h
  split at h
  · split at h
    · rename_i hh
      unfold nx at h
      cases h
      exact s_irem (v_2 hs) (v_1 hs) hh.1 hh.2 C hd (k_0 kk)
    · cases h
  · cases h
theorem x_ladd (C : cxM m D cA zv ρ A p R s mi args meth c) (hs : sOk m L st G I J) (hd : decode (cod m) pc = .ok (.ladd, 1)) (h : exL (fun x y => x + y) pc L st G I J = some (.inl (pc', L', st', G', I', J'))) (kk : ∀ ρ', zExt ρ ρ' G.1 → wN p l e R s mi args below meth c Q D cA zv A m (cells + (G'.1 - G.1)) (slots + (SZ G'.1 - SZ G.1)) ρ' pc' L' st' G' I' J') : wN p l e R s mi args below meth c Q D cA zv A m cells slots ρ pc L st G I J := by
  unfold exL at h
  split at h
  · split at h
    · unfold nx at h
      cases h
      exact s_ladd C hd (k_0 kk)
    · cases h
  · cases h
theorem x_lsub (C : cxM m D cA zv ρ A p R s mi args meth c) (hs : sOk m L st G I J) (hd : decode (cod m) pc = .ok (.lsub, 1)) (h : exL (fun x y => x - y) pc L st G I J = some (.inl (pc', L', st', G', I', J'))) (kk : ∀ ρ', zExt ρ ρ' G.1 → wN p l e R s mi args below meth c Q D cA zv A m (cells + (G'.1 - G.1)) (slots + (SZ G'.1 - SZ G.1)) ρ' pc' L' st' G' I' J') : wN p l e R s mi args below meth c Q D cA zv A m cells slots ρ pc L st G I J := by
  unfold exL at h
  split at h
  · split at h
    · unfold nx at h
      cases h
      exact s_lsub C hd (k_0 kk)
    · cases h
  · cases h
theorem x_land (C : cxM m D cA zv ρ A p R s mi args meth c) (hs : sOk m L st G I J) (hd : decode (cod m) pc = .ok (.land, 1)) (h : exLu lAnd pc L st G I J = some (.inl (pc', L', st', G', I', J'))) (kk : ∀ ρ', zExt ρ ρ' G.1 → wN p l e R s mi args below meth c Q D cA zv A m (cells + (G'.1 - G.1)) (slots + (SZ G'.1 - SZ G.1)) ρ' pc' L' st' G' I' J') : wN p l e R s mi args below meth c Q D cA zv A m cells slots ρ pc L st G I J := by
  unfold exLu at h
  split at h
  · unfold nx at h
    cases h
    exact s_land C hd (k_0 kk)
  · cases h
theorem x_lor (C : cxM m D cA zv ρ A p R s mi args meth c) (hs : sOk m L st G I J) (hd : decode (cod m) pc = .ok (.lor, 1)) (h : exLu lOr pc L st G I J = some (.inl (pc', L', st', G', I', J'))) (kk : ∀ ρ', zExt ρ ρ' G.1 → wN p l e R s mi args below meth c Q D cA zv A m (cells + (G'.1 - G.1)) (slots + (SZ G'.1 - SZ G.1)) ρ' pc' L' st' G' I' J') : wN p l e R s mi args below meth c Q D cA zv A m cells slots ρ pc L st G I J := by
  unfold exLu at h
  split at h
  · unfold nx at h
    cases h
    exact s_lor C hd (k_0 kk)
  · cases h
theorem x_lxor (C : cxM m D cA zv ρ A p R s mi args meth c) (hs : sOk m L st G I J) (hd : decode (cod m) pc = .ok (.lxor, 1)) (h : exLu lXor pc L st G I J = some (.inl (pc', L', st', G', I', J'))) (kk : ∀ ρ', zExt ρ ρ' G.1 → wN p l e R s mi args below meth c Q D cA zv A m (cells + (G'.1 - G.1)) (slots + (SZ G'.1 - SZ G.1)) ρ' pc' L' st' G' I' J') : wN p l e R s mi args below meth c Q D cA zv A m cells slots ρ pc L st G I J := by
  unfold exLu at h
  split at h
  · unfold nx at h
    cases h
    exact s_lxor C hd (k_0 kk)
  · cases h
theorem x_lshl (C : cxM m D cA zv ρ A p R s mi args meth c) (hs : sOk m L st G I J) (hd : decode (cod m) pc = .ok (.lshl, 1)) (h : exLs lShl pc L st G I J = some (.inl (pc', L', st', G', I', J'))) (kk : ∀ ρ', zExt ρ ρ' G.1 → wN p l e R s mi args below meth c Q D cA zv A m (cells + (G'.1 - G.1)) (slots + (SZ G'.1 - SZ G.1)) ρ' pc' L' st' G' I' J') : wN p l e R s mi args below meth c Q D cA zv A m cells slots ρ pc L st G I J := by
  unfold exLs at h
  split at h
  · unfold nx at h
    cases h
    exact s_lshl C hd (k_0 kk)
  · cases h
theorem x_lshr (C : cxM m D cA zv ρ A p R s mi args meth c) (hs : sOk m L st G I J) (hd : decode (cod m) pc = .ok (.lshr, 1)) (h : exLs lShr pc L st G I J = some (.inl (pc', L', st', G', I', J'))) (kk : ∀ ρ', zExt ρ ρ' G.1 → wN p l e R s mi args below meth c Q D cA zv A m (cells + (G'.1 - G.1)) (slots + (SZ G'.1 - SZ G.1)) ρ' pc' L' st' G' I' J') : wN p l e R s mi args below meth c Q D cA zv A m cells slots ρ pc L st G I J := by
  unfold exLs at h
  split at h
  · unfold nx at h
    cases h
    exact s_lshr C hd (k_0 kk)
  · cases h
theorem x_lushr (C : cxM m D cA zv ρ A p R s mi args meth c) (hs : sOk m L st G I J) (hd : decode (cod m) pc = .ok (.lushr, 1)) (h : exLs lUsr pc L st G I J = some (.inl (pc', L', st', G', I', J'))) (kk : ∀ ρ', zExt ρ ρ' G.1 → wN p l e R s mi args below meth c Q D cA zv A m (cells + (G'.1 - G.1)) (slots + (SZ G'.1 - SZ G.1)) ρ' pc' L' st' G' I' J') : wN p l e R s mi args below meth c Q D cA zv A m cells slots ρ pc L st G I J := by
  unfold exLs at h
  split at h
  · unfold nx at h
    cases h
    exact s_lushr C hd (k_0 kk)
  · cases h
theorem x_i2b (C : cxM m D cA zv ρ A p R s mi args meth c) (hs : sOk m L st G I J) (hd : decode (cod m) pc = .ok (.i2b, 1)) (h : exI1 cI2b pc L st G I J = some (.inl (pc', L', st', G', I', J'))) (kk : ∀ ρ', zExt ρ ρ' G.1 → wN p l e R s mi args below meth c Q D cA zv A m (cells + (G'.1 - G.1)) (slots + (SZ G'.1 - SZ G.1)) ρ' pc' L' st' G' I' J') : wN p l e R s mi args below meth c Q D cA zv A m cells slots ρ pc L st G I J := by
  unfold exI1 at h
  split at h
  · unfold nx at h
    cases h
    exact s_i2b C hd (k_0 kk)
  · cases h
theorem x_i2c (C : cxM m D cA zv ρ A p R s mi args meth c) (hs : sOk m L st G I J) (hd : decode (cod m) pc = .ok (.i2c, 1)) (h : exI1 cI2c pc L st G I J = some (.inl (pc', L', st', G', I', J'))) (kk : ∀ ρ', zExt ρ ρ' G.1 → wN p l e R s mi args below meth c Q D cA zv A m (cells + (G'.1 - G.1)) (slots + (SZ G'.1 - SZ G.1)) ρ' pc' L' st' G' I' J') : wN p l e R s mi args below meth c Q D cA zv A m cells slots ρ pc L st G I J := by
  unfold exI1 at h
  split at h
  · unfold nx at h
    cases h
    exact s_i2c C hd (k_0 kk)
  · cases h
theorem x_iload_n {i : Fin 4} (C : cxM m D cA zv ρ A p R s mi args meth c) (hs : sOk m L st G I J) (hd : decode (cod m) pc = .ok (.iload_n i, 1)) (h : ldI i.val (pc + 1) L st G I J = some (.inl (pc', L', st', G', I', J'))) (kk : ∀ ρ', zExt ρ ρ' G.1 → wN p l e R s mi args below meth c Q D cA zv A m (cells + (G'.1 - G.1)) (slots + (SZ G'.1 - SZ G.1)) ρ' pc' L' st' G' I' J') : wN p l e R s mi args below meth c Q D cA zv A m cells slots ρ pc L st G I J := by
  unfold ldI at h
  split at h
  · unfold nx at h
    cases h
    exact s_iload_n (by assumption) C hd (k_0 kk)
  · cases h
theorem x_lload_n {i : Fin 4} (C : cxM m D cA zv ρ A p R s mi args meth c) (hs : sOk m L st G I J) (hd : decode (cod m) pc = .ok (.lload_n i, 1)) (h : ldL i.val (pc + 1) L st G I J = some (.inl (pc', L', st', G', I', J'))) (kk : ∀ ρ', zExt ρ ρ' G.1 → wN p l e R s mi args below meth c Q D cA zv A m (cells + (G'.1 - G.1)) (slots + (SZ G'.1 - SZ G.1)) ρ' pc' L' st' G' I' J') : wN p l e R s mi args below meth c Q D cA zv A m cells slots ρ pc L st G I J := by
  unfold ldL at h
  split at h
  · unfold nx at h
    cases h
    exact s_lload_n (by assumption) C hd (k_0 kk)
  · cases h
theorem x_aload_n {i : Fin 4} (C : cxM m D cA zv ρ A p R s mi args meth c) (hs : sOk m L st G I J) (hd : decode (cod m) pc = .ok (.aload_n i, 1)) (h : ldA i.val (pc + 1) L st G I J = some (.inl (pc', L', st', G', I', J'))) (kk : ∀ ρ', zExt ρ ρ' G.1 → wN p l e R s mi args below meth c Q D cA zv A m (cells + (G'.1 - G.1)) (slots + (SZ G'.1 - SZ G.1)) ρ' pc' L' st' G' I' J') : wN p l e R s mi args below meth c Q D cA zv A m cells slots ρ pc L st G I J := by
  unfold ldA at h
  split at h
  · rename_i r hg
    split at h
    · cases h
    · rename_i hr
      unfold nx at h
      cases h
      cases r with
      | none => exact s_aloadN_n hg C hd (k_0 kk)
      | some a => exact s_aload_n hg (fun q => hr (by rw [q])) C hd (k_0 kk)
  · cases h
theorem x_istore_n {i : Fin 4} (C : cxM m D cA zv ρ A p R s mi args meth c) (hs : sOk m L st G I J) (hd : decode (cod m) pc = .ok (.istore_n i, 1)) (h : stI m i.val (pc + 1) L st G I J = some (.inl (pc', L', st', G', I', J'))) (kk : ∀ ρ', zExt ρ ρ' G.1 → wN p l e R s mi args below meth c Q D cA zv A m (cells + (G'.1 - G.1)) (slots + (SZ G'.1 - SZ G.1)) ρ' pc' L' st' G' I' J') : wN p l e R s mi args below meth c Q D cA zv A m cells slots ρ pc L st G I J := by
  unfold stI at h
  split at h
  · split at h
    · unfold nx at h
      cases h
      exact s_istore_n hs (by assumption) C hd (k_0 kk)
    · cases h
  · cases h
theorem x_astore_n {i : Fin 4} (C : cxM m D cA zv ρ A p R s mi args meth c) (hs : sOk m L st G I J) (hd : decode (cod m) pc = .ok (.astore_n i, 1)) (h : stA m i.val (pc + 1) L st G I J = some (.inl (pc', L', st', G', I', J'))) (kk : ∀ ρ', zExt ρ ρ' G.1 → wN p l e R s mi args below meth c Q D cA zv A m (cells + (G'.1 - G.1)) (slots + (SZ G'.1 - SZ G.1)) ρ' pc' L' st' G' I' J') : wN p l e R s mi args below meth c Q D cA zv A m cells slots ρ pc L st G I J := by
  unfold stA at h
  split at h
  · rename_i r st'
    split at h
    · rename_i hh
      unfold nx at h
      cases h
      cases r with
      | none => exact s_astoreN_n hs hh.1 C hd (k_0 kk)
      | some a => exact s_astore_n hs hh.1 (fun q => hh.2 (by rw [q])) C hd (k_0 kk)
    · cases h
  · cases h
theorem x_iload {i : Nat} (C : cxM m D cA zv ρ A p R s mi args meth c) (hs : sOk m L st G I J) (hd : decode (cod m) pc = .ok (.iload i, 2)) (h : ldI i (pc + 2) L st G I J = some (.inl (pc', L', st', G', I', J'))) (kk : ∀ ρ', zExt ρ ρ' G.1 → wN p l e R s mi args below meth c Q D cA zv A m (cells + (G'.1 - G.1)) (slots + (SZ G'.1 - SZ G.1)) ρ' pc' L' st' G' I' J') : wN p l e R s mi args below meth c Q D cA zv A m cells slots ρ pc L st G I J := by
  unfold ldI at h
  split at h
  · unfold nx at h
    cases h
    exact s_iload (by assumption) C hd (k_0 kk)
  · cases h
theorem x_aload {i : Nat} (C : cxM m D cA zv ρ A p R s mi args meth c) (hs : sOk m L st G I J) (hd : decode (cod m) pc = .ok (.aload i, 2)) (h : ldA i (pc + 2) L st G I J = some (.inl (pc', L', st', G', I', J'))) (kk : ∀ ρ', zExt ρ ρ' G.1 → wN p l e R s mi args below meth c Q D cA zv A m (cells + (G'.1 - G.1)) (slots + (SZ G'.1 - SZ G.1)) ρ' pc' L' st' G' I' J') : wN p l e R s mi args below meth c Q D cA zv A m cells slots ρ pc L st G I J := by
  unfold ldA at h
  split at h
  · rename_i r hg
    split at h
    · cases h
    · rename_i hr
      unfold nx at h
      cases h
      cases r with
      | none => exact s_aloadN hg C hd (k_0 kk)
      | some a => exact s_aload hg (fun q => hr (by rw [q])) C hd (k_0 kk)
  · cases h
theorem x_istore {i : Nat} (C : cxM m D cA zv ρ A p R s mi args meth c) (hs : sOk m L st G I J) (hd : decode (cod m) pc = .ok (.istore i, 2)) (h : stI m i (pc + 2) L st G I J = some (.inl (pc', L', st', G', I', J'))) (kk : ∀ ρ', zExt ρ ρ' G.1 → wN p l e R s mi args below meth c Q D cA zv A m (cells + (G'.1 - G.1)) (slots + (SZ G'.1 - SZ G.1)) ρ' pc' L' st' G' I' J') : wN p l e R s mi args below meth c Q D cA zv A m cells slots ρ pc L st G I J := by
  unfold stI at h
  split at h
  · split at h
    · unfold nx at h
      cases h
      exact s_istore hs (by assumption) C hd (k_0 kk)
    · cases h
  · cases h
theorem x_astore {i : Nat} (C : cxM m D cA zv ρ A p R s mi args meth c) (hs : sOk m L st G I J) (hd : decode (cod m) pc = .ok (.astore i, 2)) (h : stA m i (pc + 2) L st G I J = some (.inl (pc', L', st', G', I', J'))) (kk : ∀ ρ', zExt ρ ρ' G.1 → wN p l e R s mi args below meth c Q D cA zv A m (cells + (G'.1 - G.1)) (slots + (SZ G'.1 - SZ G.1)) ρ' pc' L' st' G' I' J') : wN p l e R s mi args below meth c Q D cA zv A m cells slots ρ pc L st G I J := by
  unfold stA at h
  split at h
  · rename_i r st'
    split at h
    · rename_i hh
      unfold nx at h
      cases h
      cases r with
      | none => exact s_astoreN hs hh.1 C hd (k_0 kk)
      | some a => exact s_astore hs hh.1 (fun q => hh.2 (by rw [q])) C hd (k_0 kk)
    · cases h
  · cases h
theorem x_lstore_n {i : Fin 4} (C : cxM m D cA zv ρ A p R s mi args meth c) (hs : sOk m L st G I J) (hd : decode (cod m) pc = .ok (.lstore_n i, 1)) (h : stL m i.val (pc + 1) L st G I J = some (.inl (pc', L', st', G', I', J'))) (kk : ∀ ρ', zExt ρ ρ' G.1 → wN p l e R s mi args below meth c Q D cA zv A m (cells + (G'.1 - G.1)) (slots + (SZ G'.1 - SZ G.1)) ρ' pc' L' st' G' I' J') : wN p l e R s mi args below meth c Q D cA zv A m cells slots ρ pc L st G I J := by
  unfold stL at h
  split at h
  · split at h
    · rename_i hh
      unfold nx at h
      cases h
      exact s_lstore_n hs hh.1 hh.2.1 C hd (k_0 kk)
    · cases h
  · cases h
theorem x_get {i : Nat} (C : cxM m D cA zv ρ A p R s mi args meth c) (hs : sOk m L st G I J) (hd : decode (cod m) pc = .ok (.getfield i, 3)) (h : exGet m i pc L st G I J = some (.inl (pc', L', st', G', I', J'))) (kk : ∀ ρ', zExt ρ ρ' G.1 → wN p l e R s mi args below meth c Q D cA zv A m (cells + (G'.1 - G.1)) (slots + (SZ G'.1 - SZ G.1)) ρ' pc' L' st' G' I' J') : wN p l e R s mi args below meth c Q D cA zv A m cells slots ρ pc L st G I J := by
  unfold exGet at h
  split at h
  · split at h
    · rename_i hf
      split at h
      · rename_i hh
        unfold nx at h
        cases h
        exact s_get C hs.2.2.1 hh.1 hh.2.1 hh.2.2.1 hh.2.2.2 hf hd (k_0 kk)
      · split at h
        · rename_i hh
          unfold nx at h
          cases h
          exact s_getS C hh.1 (by rw [hf, hh.2]) hd (k_0 kk)
        · cases h
    · cases h
  · cases h
theorem x_put {i : Nat} (C : cxM m D cA zv ρ A p R s mi args meth c) (hs : sOk m L st G I J) (hd : decode (cod m) pc = .ok (.putfield i, 3)) (h : exPut m i pc L st G I J = some (.inl (pc', L', st', G', I', J'))) (kk : ∀ ρ', zExt ρ ρ' G.1 → wN p l e R s mi args below meth c Q D cA zv A m (cells + (G'.1 - G.1)) (slots + (SZ G'.1 - SZ G.1)) ρ' pc' L' st' G' I' J') : wN p l e R s mi args below meth c Q D cA zv A m cells slots ρ pc L st G I J := by
  unfold exPut at h
  split at h
  · split at h
    · rename_i hf
      split at h
      · rename_i hh
        obtain ⟨h0, h1, ha, hk, hfin⟩ := hh
        split at h
        · rename_i hk0
          unfold nx at h
          cases h
          exact s_putI C hs.2.2.1 h0 h1 ha hk hf hfin (Or.inl hk0) hd (k_0 kk)
        · rename_i hk0
          split at h
          · rename_i hx0
            unfold nx at h
            cases h
            exact s_putI C hs.2.2.1 h0 h1 ha hk hf hfin (Or.inr ⟨hk0, hx0⟩) hd (k_0 kk)
          · cases h
        · rename_i hk0
          unfold nx at h
          cases h
          exact s_putJ C hs.2.2.1 h0 h1 ha hk hf hfin hk0 hd (k_0 kk)
        · rename_i hk0
          split at h
          · cases h
          · rename_i hr
            unfold nx at h
            cases h
            exact s_putR C hs.2.2.1 h0 h1 ha hk hf hfin hk0 hr hd (k_0 kk)
        · cases h
      · cases h
    · cases h
  · cases h
theorem x_iald (C : cxM m D cA zv ρ A p R s mi args meth c) (hs : sOk m L st G I J) (hx : zX m ρ A s I) (hd : decode (cod m) pc = .ok (.iaload, 1)) (h : exALoad [1] m pc L st G I J = some (.inl (pc', L', st', G', I', J'))) (kk : ∀ ρ', zExt ρ ρ' G.1 → wN p l e R s mi args below meth c Q D cA zv A m (cells + (G'.1 - G.1)) (slots + (SZ G'.1 - SZ G.1)) ρ' pc' L' st' G' I' J') : wN p l e R s mi args below meth c Q D cA zv A m cells slots ρ pc L st G I J := by
  unfold exALoad at h
  split at h
  · split at h
    · split at h
      · rename_i hh
        unfold nx at h
        cases h
        exact s_iald C hs.2.2.1 (v_1 hs) (by simpa using hh.1) hh.2.1 hh.2.2.1 hh.2.2.2 hd (k_0 kk)
      · cases h
    · split at h
      · split at h
        · rename_i hh
          unfold nx at h
          cases h
          obtain ⟨-, h0, rfl, h1, h2⟩ := hh
          exact s_sld C hx h0 (v_1 hs) h1 h2 hd (k_0 kk)
        · cases h
      · split at h
        · rename_i hh
          unfold nx at h
          cases h
          have h0 := hh.1
          rcases h0 with h0 | h0
          · exact s_kald C (v_1 hs) h0.1 hh.2.1 hh.2.2 hd (k_0 kk)
          · exact absurd h0.2 (by decide)
        · cases h
  · cases h
theorem x_bald (C : cxM m D cA zv ρ A p R s mi args meth c) (hs : sOk m L st G I J) (hd : decode (cod m) pc = .ok (.baload, 1)) (h : exALoad [3, 4] m pc L st G I J = some (.inl (pc', L', st', G', I', J'))) (kk : ∀ ρ', zExt ρ ρ' G.1 → wN p l e R s mi args below meth c Q D cA zv A m (cells + (G'.1 - G.1)) (slots + (SZ G'.1 - SZ G.1)) ρ' pc' L' st' G' I' J') : wN p l e R s mi args below meth c Q D cA zv A m cells slots ρ pc L st G I J := by
  unfold exALoad at h
  split at h
  · split at h
    · split at h
      · rename_i hh
        unfold nx at h
        cases h
        exact s_bald C hs.2.2.1 (v_1 hs) (by simpa using hh.1) hh.2.1 hh.2.2.1 hh.2.2.2 hd (k_0 kk)
      · cases h
    · split at h
      · split at h
        · rename_i hh
          exact absurd hh.1 (by decide)
        · cases h
      · split at h
        · rename_i hh
          unfold nx at h
          cases h
          have h0 := hh.1
          rcases h0 with h0 | h0
          · exact absurd h0.2 (by decide)
          exact s_kbld C (v_1 hs) h0.1 hh.2.1 hh.2.2 hd (k_0 kk)
        · cases h
  · cases h
theorem x_lald (C : cxM m D cA zv ρ A p R s mi args meth c) (hs : sOk m L st G I J) (hd : decode (cod m) pc = .ok (.laload, 1)) (h : exLLoad pc L st G I J = some (.inl (pc', L', st', G', I', J'))) (kk : ∀ ρ', zExt ρ ρ' G.1 → wN p l e R s mi args below meth c Q D cA zv A m (cells + (G'.1 - G.1)) (slots + (SZ G'.1 - SZ G.1)) ρ' pc' L' st' G' I' J') : wN p l e R s mi args below meth c Q D cA zv A m cells slots ρ pc L st G I J := by
  unfold exLLoad at h
  split at h
  · split at h
    · rename_i hh
      unfold nx at h
      cases h
      exact s_lald C hs.2.2.1 (v_1 hs) hh.1 hh.2.1 hh.2.2.1 hh.2.2.2 hd (k_0 kk)
    · cases h
  · cases h
theorem x_iast (C : cxM m D cA zv ρ A p R s mi args meth c) (hs : sOk m L st G I J) (hd : decode (cod m) pc = .ok (.iastore, 1)) (h : exIStore pc L st G I J = some (.inl (pc', L', st', G', I', J'))) (kk : ∀ ρ', zExt ρ ρ' G.1 → wN p l e R s mi args below meth c Q D cA zv A m (cells + (G'.1 - G.1)) (slots + (SZ G'.1 - SZ G.1)) ρ' pc' L' st' G' I' J') : wN p l e R s mi args below meth c Q D cA zv A m cells slots ρ pc L st G I J := by
  unfold exIStore at h
  split at h
  · split at h
    · rename_i hh
      unfold nx at h
      cases h
      exact s_iast C hs.2.2.1 (v_2 hs) hh.1 hh.2.1 hh.2.2.1 hh.2.2.2 hd (k_0 kk)
    · cases h
  · cases h
theorem x_bast (C : cxM m D cA zv ρ A p R s mi args meth c) (hs : sOk m L st G I J) (hd : decode (cod m) pc = .ok (.bastore, 1)) (h : exBStore pc L st G I J = some (.inl (pc', L', st', G', I', J'))) (kk : ∀ ρ', zExt ρ ρ' G.1 → wN p l e R s mi args below meth c Q D cA zv A m (cells + (G'.1 - G.1)) (slots + (SZ G'.1 - SZ G.1)) ρ' pc' L' st' G' I' J') : wN p l e R s mi args below meth c Q D cA zv A m cells slots ρ pc L st G I J := by
  unfold exBStore at h
  split at h
  · split at h
    · rename_i hh
      unfold nx at h
      cases h
      exact s_bast C hs.2.2.1 (v_2 hs) hh.1 hh.2.1 hh.2.2.1 hh.2.2.2 hd (k_0 kk)
    · cases h
  · cases h
theorem x_last (C : cxM m D cA zv ρ A p R s mi args meth c) (hs : sOk m L st G I J) (hd : decode (cod m) pc = .ok (.lastore, 1)) (h : exLStore pc L st G I J = some (.inl (pc', L', st', G', I', J'))) (kk : ∀ ρ', zExt ρ ρ' G.1 → wN p l e R s mi args below meth c Q D cA zv A m (cells + (G'.1 - G.1)) (slots + (SZ G'.1 - SZ G.1)) ρ' pc' L' st' G' I' J') : wN p l e R s mi args below meth c Q D cA zv A m cells slots ρ pc L st G I J := by
  unfold exLStore at h
  split at h
  · split at h
    · rename_i hh
      unfold nx at h
      cases h
      exact s_last C hs.2.2.1 (v_2 hs) hh.1 hh.2.1 hh.2.2.1 hh.2.2.2 hd (k_0 kk)
    · cases h
  · cases h
theorem x_len (C : cxM m D cA zv ρ A p R s mi args meth c) (hs : sOk m L st G I J) (hx : zX m ρ A s I) (hd : decode (cod m) pc = .ok (.arraylength, 1)) (h : exLen m pc L st G I J = some (.inl (pc', L', st', G', I', J'))) (kk : ∀ ρ', zExt ρ ρ' G.1 → wN p l e R s mi args below meth c Q D cA zv A m (cells + (G'.1 - G.1)) (slots + (SZ G'.1 - SZ G.1)) ρ' pc' L' st' G' I' J') : wN p l e R s mi args below meth c Q D cA zv A m cells slots ρ pc L st G I J := by
  unfold exLen at h
  split at h
  · split at h
    · unfold nx at h
      cases h
      exact s_klen C (by assumption) hd (k_0 kk)
    · split at h
      · rename_i hh
        unfold nx at h
        cases h
        obtain ⟨-, h0, rfl⟩ := hh
        exact s_slen C hx h0 hd (k_0 kk)
      · cases h
  · cases h
theorem mth_in {i kd y : Nat} (h : mthR m i = some (kd, y)) : (∃ ps, lnkOk (oNum m) i kd y ps = true) ∧ (5 ≤ kd ∨ (0 < y ∧ y < metL.length)) := by
  obtain ⟨ps, hy⟩ := zp_all (by rw [tb_mlen.1, tb_mlen.2]) tb_mthA (lk_mem h)
  unfold mthOk at hy
  simp only [Bool.and_eq_true, Bool.or_eq_true, decide_eq_true_eq] at hy
  exact ⟨⟨ps, hy.1⟩, hy.2⟩
theorem lnk_6 {o i y : Nat} (h : ∃ ps, lnkOk o i 6 y ps = true) : Jvm.Cond.methodLink (oNm o) i arraycopyName ∈ WSg := by
  obtain ⟨ps, h⟩ := h
  match ps, h with
  | [p], h => exact inP_mem h
theorem lnk_5 {o i y : Nat} (h : ∃ ps, lnkOk o i 5 y ps = true) : Jvm.Cond.methodLink (oNm o) i objectInit ∈ WSg := by
  obtain ⟨ps, h⟩ := h
  match ps, h with
  | [p], h => exact inP_mem h
theorem lnk_7 {o i y : Nat} (h : ∃ ps, lnkOk o i 7 y ps = true) : Jvm.Cond.methodLink (oNm o) i Lib.Math.max.name ∈ WSg := by
  obtain ⟨ps, h⟩ := h
  match ps, h with
  | [p], h => exact inP_mem h
theorem lnk_8 {o i y : Nat} (h : ∃ ps, lnkOk o i 8 y ps = true) : Jvm.Cond.methodLink (oNm o) i Lib.Math.min.name ∈ WSg := by
  obtain ⟨ps, h⟩ := h
  match ps, h with
  | [p], h => exact inP_mem h
theorem x_cpy {i : Nat} (hl : Jvm.Cond.methodLink (oNm (oNum m)) i arraycopyName ∈ WSg) (C : cxM m D cA zv ρ A p R s mi args meth c) (hs : sOk m L st G I J) (hd : decode (cod m) pc = .ok (.invokestatic i, 3)) (h : exCopy pc L st G I J = some (.inl (pc', L', st', G', I', J'))) (kk : ∀ ρ', zExt ρ ρ' G.1 → wN p l e R s mi args below meth c Q D cA zv A m (cells + (G'.1 - G.1)) (slots + (SZ G'.1 - SZ G.1)) ρ' pc' L' st' G' I' J') : wN p l e R s mi args below meth c Q D cA zv A m cells slots ρ pc L st G I J := by
  unfold exCopy at h
  split at h
  · split at h
    · rename_i hh
      obtain ⟨g1, g2, g3, g4, g5, g6, g7, g8, g9⟩ := hh
      split at h
      · rename_i hk
        unfold nx at h
        cases h
        exact s_cpyI C hl hs.2.2.1 (v_4 hs) (v_2 hs) (v_1 hs) hk g1 g2 g3 g4 g5 g6 g7 g8 g9 hd (k_0 kk)
      · split at h
        · rename_i hk
          unfold nx at h
          cases h
          exact s_cpyJ C hl hs.2.2.1 (v_4 hs) (v_2 hs) (v_1 hs) hk g1 g2 g3 g4 g5 g6 g7 g8 g9 hd (k_0 kk)
        · cases h
    · cases h
  · cases h
theorem x_max {i : Nat} (hl : Jvm.Cond.methodLink (oNm (oNum m)) i Lib.Math.max.name ∈ WSg) (C : cxM m D cA zv ρ A p R s mi args meth c) (hs : sOk m L st G I J) (hcl : cells + (G'.1 - G.1) ≤ R.cells) (hsl : slots + (SZ G'.1 - SZ G.1) ≤ R.slots) (hd : decode (cod m) pc = .ok (.invokestatic i, 3)) (h : exMx true pc L st G I J = some (.inl (pc', L', st', G', I', J'))) (kk : ∀ ρ', zExt ρ ρ' G.1 → wN p l e R s mi args below meth c Q D cA zv A m (cells + (G'.1 - G.1)) (slots + (SZ G'.1 - SZ G.1)) ρ' pc' L' st' G' I' J') : wN p l e R s mi args below meth c Q D cA zv A m cells slots ρ pc L st G I J := by
  unfold exMx at h
  split at h
  · split at h
    · rename_i hh
      unfold nx at h
      cases h
      exact s_max C hl (v_2 hs) (v_1 hs) hh (Nat.le_trans (Nat.le_add_right _ _) hcl) (Nat.le_trans (Nat.le_add_right _ _) hsl) hd (k_0 kk)
    · cases h
  · cases h
theorem x_min {i : Nat} (hl : Jvm.Cond.methodLink (oNm (oNum m)) i Lib.Math.min.name ∈ WSg) (C : cxM m D cA zv ρ A p R s mi args meth c) (hs : sOk m L st G I J) (hcl : cells + (G'.1 - G.1) ≤ R.cells) (hsl : slots + (SZ G'.1 - SZ G.1) ≤ R.slots) (hd : decode (cod m) pc = .ok (.invokestatic i, 3)) (h : exMx false pc L st G I J = some (.inl (pc', L', st', G', I', J'))) (kk : ∀ ρ', zExt ρ ρ' G.1 → wN p l e R s mi args below meth c Q D cA zv A m (cells + (G'.1 - G.1)) (slots + (SZ G'.1 - SZ G.1)) ρ' pc' L' st' G' I' J') : wN p l e R s mi args below meth c Q D cA zv A m cells slots ρ pc L st G I J := by
  unfold exMx at h
  split at h
  · split at h
    · rename_i hh
      unfold nx at h
      cases h
      exact s_min C hl (v_2 hs) (v_1 hs) hh (Nat.le_trans (Nat.le_add_right _ _) hcl) (Nat.le_trans (Nat.le_add_right _ _) hsl) hd (k_0 kk)
    · cases h
  · cases h
theorem x_new {i : Nat} (C : cxM m D cA zv ρ A p R s mi args meth c) (hs : sOk m L st G I J) (hcl : cells + (G'.1 - G.1) ≤ R.cells) (hsl : slots + (SZ G'.1 - SZ G.1) ≤ R.slots) (hd : decode (cod m) pc = .ok (.new i, 3)) (h : exNew m i pc L st G I J = some (.inl (pc', L', st', G', I', J'))) (kk : ∀ ρ', zExt ρ ρ' G.1 → wN p l e R s mi args below meth c Q D cA zv A m (cells + (G'.1 - G.1)) (slots + (SZ G'.1 - SZ G.1)) ρ' pc' L' st' G' I' J') : wN p l e R s mi args below meth c Q D cA zv A m cells slots ρ pc L st G I J := by
  unfold exNew at h
  split at h
  · rename_i ci hi
    split at h
    · rename_i hh
      unfold nx at h
      cases h
      have e1 : SZ (G.1 + 1) - SZ G.1 = nfd ci := by rw [SZ_succ, hh.1, if_pos rfl]; dsimp only; omega
      have e2 : (G.1 + 1) - G.1 = 1 := by omega
      dsimp only at hcl hsl kk
      rw [e1] at hsl
      rw [e2] at hcl
      refine s_new C hs.2.2.1 hh.2 hi hh.1 hcl hsl hs.2.1 hs.1 hd (fun q => ?_)
      have k1 := kk _ (zExt_new (q := q) hh.2)
      rw [e1, e2] at k1
      exact k1
    · cases h
  · cases h
theorem x_newa {t : ArrayType} (C : cxM m D cA zv ρ A p R s mi args meth c) (hs : sOk m L st G I J) (hcl : cells + (G'.1 - G.1) ≤ R.cells) (hsl : slots + (SZ G'.1 - SZ G.1) ≤ R.slots) (hd : decode (cod m) pc = .ok (.newarray t, 2)) (h : exNewA t pc L st G I J = some (.inl (pc', L', st', G', I', J'))) (kk : ∀ ρ', zExt ρ ρ' G.1 → wN p l e R s mi args below meth c Q D cA zv A m (cells + (G'.1 - G.1)) (slots + (SZ G'.1 - SZ G.1)) ρ' pc' L' st' G' I' J') : wN p l e R s mi args below meth c Q D cA zv A m cells slots ρ pc L st G I J := by
  unfold exNewA at h
  split at h
  · rename_i n st2
    split at h
    · rename_i hh
      obtain ⟨h0, h9, g0, g1, hn⟩ := hh
      unfold nx at h
      cases h
      have hst : ∀ v ∈ st2, vOk G.1 v := fun v hv => hs.2.1 v (List.mem_cons_of_mem _ hv)
      have e2 : (G.1 + 1) - G.1 = 1 := by omega
      dsimp only at hcl hsl kk
      rw [e2] at hcl
      have e1 : akd t ≠ 0 → SZ (G.1 + 1) - SZ G.1 = n.toNat := by
        intro h
        rw [SZ_succ, h0, if_neg h]
        dsimp only
        omega
      cases t with
      | int =>
        rw [e1 (by decide)] at hsl
        refine s_newa (t0 := 0) (ty := .int) C hs.2.2.1 hn (v_1 hs) g0 g1 rfl rfl (inP_mem tb_one4) (fun _ q => q) h0 (by show n.toNat * 4 ≤ _; omega) (Or.inl ⟨by decide, by decide, rfl⟩) hcl hsl hst hs.1 hd (fun q => ?_)
        have k1 := kk _ (zExt_new (q := q) hn)
        rw [e1 (by decide), e2] at k1
        exact k1
      | long =>
        rw [e1 (by decide)] at hsl
        refine s_newa (t0 := 1) (ty := .long) C hs.2.2.1 hn (v_1 hs) g0 g1 rfl rfl (inP_mem tb_one5) (fun _ q => q) h0 (by show n.toNat * 8 ≤ _; omega) (Or.inr ⟨by decide, rfl⟩) hcl hsl hst hs.1 hd (fun q => ?_)
        have k1 := kk _ (zExt_new (q := q) hn)
        rw [e1 (by decide), e2] at k1
        exact k1
      | byte =>
        rw [e1 (by decide)] at hsl
        refine s_newa (t0 := 2) (ty := .byte) C hs.2.2.1 hn (v_1 hs) g0 g1 rfl rfl (inP_mem tb_one6) (fun _ q => q) h0 (by show n.toNat * 1 ≤ _; omega) (Or.inl ⟨by decide, by decide, rfl⟩) hcl hsl hst hs.1 hd (fun q => ?_)
        have k1 := kk _ (zExt_new (q := q) hn)
        rw [e1 (by decide), e2] at k1
        exact k1
      | boolean =>
        rw [e1 (by decide)] at hsl
        refine s_newa (t0 := 3) (ty := .boolean) C hs.2.2.1 hn (v_1 hs) g0 g1 rfl rfl (inP_mem tb_one7) (fun _ q => q) h0 (by show n.toNat * 1 ≤ _; omega) (Or.inl ⟨by decide, by decide, rfl⟩) hcl hsl hst hs.1 hd (fun q => ?_)
        have k1 := kk _ (zExt_new (q := q) hn)
        rw [e1 (by decide), e2] at k1
        exact k1
      | _ => exact absurd rfl h9
    · cases h
  · cases h
end ST
