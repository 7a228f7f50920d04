/-! the whole step -/
theorem cst_in {m i : Nat} {v : Int} (h : cstL.lookup (oNum m, i) = some (.inl v)) : Jvm.Cond.constant (oNm (oNum m)) i (Int32.ofInt v) ∈ WSg := by
  obtain ⟨y, hy⟩ := zp_all tb_csn tb_cst (lk_mem h)
  exact inP_mem hy
theorem csl_in {m i : Nat} {v : Int} (h : cslL.lookup (oNum m, i) = some v) : Jvm.Cond.constantLong (oNm (oNum m)) i (Int64.ofInt v) ∈ WSg := by
  obtain ⟨y, hy⟩ := zp_all tb_csm tb_csl (lk_mem h)
  exact inP_mem hy
theorem lkN_mem {β : Type} : ∀ {l : List (Nat × β)} {a : Nat} {b : β}, l.lookup a = some b → (a, b) ∈ l
  | [], _, _, h => by cases h
  | (x, y) :: l, a, b, h => by
    rw [List.lookup_cons] at h
    by_cases hx : a = x
    · subst hx
      rw [beq_self_eq_true] at h
      cases h
      exact List.mem_cons_self
    · rw [beq_false_of_ne hx] at h
      exact List.mem_cons_of_mem _ (lkN_mem h)
theorem str_in {i j : Nat} (h : strI.lookup i = some j) : 1002 + j ≠ 1050 := by
  have h1 : strI.all (fun e => decide (e.2 < 7)) = true := by decide +kernel
  have := of_decide_eq_true (List.all_eq_true.mp h1 _ (lkN_mem h))
  dsimp only at this
  omega
theorem stt_ok {n m i : Nat} {v : aV} (h : sttR m i = some v) : vOk n v := by
  have h1 := lk_mem h
  simp only [sttL, List.mem_cons, Prod.mk.injEq, List.not_mem_nil, or_false] at h1
  rcases h1 with ⟨-, rfl⟩ | ⟨-, rfl⟩ | ⟨-, rfl⟩ | ⟨-, rfl⟩
  · show ok32 1; decide
  all_goals exact Or.inr (by decide)
theorem k_lcm (x y : Int) : ok32 (cLcm x y) := by
  unfold cLcm
  split
  · decide
  · split <;> decide
theorem k_i2l {x : Int} (h : ok32 x) : ok64 x := ⟨by have := h.1; omega, by have := h.2; omega⟩
theorem nx_call {kd y pc : Nat} {L : List (Option aV)} {st : List aV} {G : aG} {I J : aI} {S : aS} : ¬ exCall kd y pc L st G I J = some (.inl S) := by
  unfold exCall
  intro h
  split at h
  · split at h <;> cases h
  · split at h
    · split at h <;> cases h
    · cases h
section OK
variable {m pc pc' : Nat} {L L' : List (Option aV)} {st st' : List aV} {G G' : aG} {I J I' J' : aI}
set_option maxHeartbeats 4000000 in
theorem y_ex {i : Instr} {n : Nat} (hs : sOk m L st G I J) (h : exI m i n pc L st G I J = some (.inl (pc', L', st', G', I', J'))) : pK m G I L' st' G' I' J' := by
  unfold exI at h
  split at h
  · exact y_psI hs h
  · split at h
    · exact y_psI hs h
    · cases h
  · split at h
    · exact y_psI hs h
    · cases h
  · split at h
    · exact y_psI hs h
    · split at h
      · split at h
        · unfold nx at h
          cases h
          exact k_id (k_push hs (Or.inr (by omega)))
        · cases h
      · cases h
  · split at h
    · exact y_psI hs h
    · cases h
  · split at h
    · split at h
      · rename_i hv
        unfold nx at h
        cases h
        exact k_id (k_push hs hv)
      · cases h
    · cases h
  · rename_i v
    unfold nx at h
    cases h
    exact k_id (k_push hs (by have := v.isLt; exact ⟨by omega, by omega⟩))
  · unfold nx at h
    cases h
    exact k_id (k_push hs trivial)
  · exact y_ldI hs h
  · exact y_ldI hs h
  · exact y_ldL hs h
  · exact y_ldA hs h
  · exact y_ldA hs h
  · exact y_stI hs h
  · exact y_stI hs h
  · exact y_stA hs h
  · exact y_stA hs h
  · exact y_stL hs h
  · split at h
    · split at h
      · rename_i hh
        unfold nx at h
        cases h
        exact k_id (k_set hs hh.2 hh.1 rfl)
      · cases h
    · cases h
  · exact y_B hs h
  · exact y_B hs h
  · exact y_B hs h
  · exact y_D0 hs h
  · exact y_D1 hs h
  · exact y_Bu (fun _ _ => n_r32 _) hs h
  · exact y_Bu (fun _ _ => n_r32 _) hs h
  · exact y_Bu (fun _ _ => n_r32 _) hs h
  · exact y_Bu (fun _ _ => n_r32 _) hs h
  · exact y_Bu (fun _ _ => n_r32 _) hs h
  · exact y_Bu (fun _ _ => n_r32 _) hs h
  · exact y_L hs h
  · exact y_L hs h
  · exact y_Lu (fun _ _ => n_r64 _) hs h
  · exact y_Lu (fun _ _ => n_r64 _) hs h
  · exact y_Lu (fun _ _ => n_r64 _) hs h
  · exact y_Ls (fun _ _ => n_r64 _) hs h
  · exact y_Ls (fun _ _ => n_r64 _) hs h
  · exact y_Ls (fun _ _ => n_r64 _) hs h
  · split at h
    · unfold nx at h
      cases h
      exact k_id (k_push (k_tail (k_tail hs)) (k_lcm _ _))
    · cases h
  · split at h
    · unfold nx at h
      cases h
      exact k_id (k_push (k_tail hs) (k_i2l (v_1 hs)))
    · cases h
  · split at h
    · unfold nx at h
      cases h
      exact k_id (k_push (k_tail hs) (n_r32 _))
    · cases h
  · exact y_I1 (fun _ => n_r32 _) hs h
  · exact y_I1 (fun _ => n_r32 _) hs h
  · split at h
    · split at h
      · unfold nx at h
        cases h
        exact k_id (k_push hs (v_1 hs))
      · cases h
    · cases h
  · split at h
    · split at h
      · unfold nx at h
        cases h
        exact k_id (k_push (k_push (k_push (k_tail (k_tail hs)) (v_1 hs)) (v_2 hs)) (v_1 hs))
      · cases h
    · cases h
  · split at h
    · split at h
      · unfold nx at h
        cases h
        exact k_id (k_push (k_push hs (v_2 hs)) (v_1 hs))
      · cases h
    · cases h
  · split at h
    · split at h
      · unfold nx at h
        cases h
        exact k_id (k_tail hs)
      · cases h
    · cases h
  · split at h
    · unfold nx at h
      cases h
      exact k_id hs
    · cases h
  · split at h
    · exact y_brn (k_tail hs) h
    · cases h
  · split at h
    · exact y_brn (k_tail (k_tail hs)) h
    · cases h
  · split at h
    · split at h
      · cases h
      · exact y_brn (k_tail hs) h
    · cases h
  · split at h
    · split at h
      · split at h
        · unfold nx at h
          cases h
          exact k_id (k_tail hs)
        · cases h
      · split at h
        · split at h
          · unfold nx at h
            cases h
            exact k_id (k_tail hs)
          · cases h
        · cases h
    · cases h
  · split at h
    · split at h
      · unfold nx at h
        cases h
        exact k_id (k_tail hs)
      · cases h
    · cases h
  · exact y_get hs h
  · exact y_put hs h
  · split at h
    · rename_i hv
      unfold nx at h
      cases h
      exact k_id (k_push hs (stt_ok hv))
    · cases h
  · exact y_ALoad hs h
  · exact y_ALoad hs h
  · exact y_LLoad hs h
  · exact y_IStore hs h
  · exact y_BStore hs h
  · exact y_LStore hs h
  · exact y_Len hs h
  · exact y_New hs h
  · exact y_NewA hs h
  · split at h
    · split at h
      · exact absurd h (nx_call)
      · cases h
    · cases h
  · split at h
    · split at h
      · exact absurd h (nx_call)
      · split at h
        · exact y_Copy hs h
        · split at h
          · exact y_Mx hs h
          · split at h
            · exact y_Mx hs h
            · cases h
    · cases h
  · split at h
    · split at h
      · exact absurd h (nx_call)
      · split at h
        · split at h
          · split at h
            · unfold nx at h
              cases h
              exact k_id (k_tail hs)
            · cases h
          · cases h
        · cases h
    · cases h
  · split at h
    · split at h
      · cases h
      · cases h
    · cases h
  · split at h
    · split at h
      · cases h
      · cases h
    · cases h
  · split at h
    · split at h
      · cases h
      · cases h
    · cases h
  · split at h
    · split at h
      · cases h
      · cases h
    · cases h
  · cases h
end OK
section ST
variable {p : Program} {l : Launch} {e : Env} {R : Room} {s : State} {mi : MethodId} {args : Array Value} {below : List Frame} {meth : Method} {c : Code} {Q : State → Prop} {D : va_G} {cA : Nat → ClassId} {zv : Value} {A : Nat → Prop} {m cells slots : Nat} {ρ : Nat → Nat} {pc pc' : Nat} {L L' : List (Option aV)} {st st' : List aV} {G G' : aG} {I J I' J' : aI}

set_option maxHeartbeats 4000000 in
theorem x_ex {i : Instr} {n : Nat} (C : cxM m D cA zv ρ A p R s mi args meth c) (hs : sOk m L st G I J) (hx : zX m ρ A s I) (hcl : cells + (G'.1 - G.1) ≤ R.cells) (hsl : slots + (SZ G'.1 - SZ G.1) ≤ R.slots) (hd : decode (cod m) pc = .ok (i, n)) (h : exI m i n pc L st G I J = some (.inl (pc', L', st', G', I', J'))) (kk : ∀ ρ', zExt ρ ρ' G.1 → wN p l e R s mi args below meth c Q D cA zv A m (cells + (G'.1 - G.1)) (slots + (SZ G'.1 - SZ G.1)) ρ' pc' L' st' G' I' J') : wN p l e R s mi args below meth c Q D cA zv A m cells slots ρ pc L st G I J := by
  unfold exI at h
  split at h
  · unfold psI at h
    split at h
    · unfold nx at h
      cases h
      exact s_iconst C hd (k_0 kk)
    · cases h
  · split at h
    · rename_i hv
      unfold psI at h
      split at h
      · unfold nx at h
        cases h
        exact s_bipush hv C hd (k_0 kk)
      · cases h
    · cases h
  · split at h
    · rename_i hv
      unfold psI at h
      split at h
      · unfold nx at h
        cases h
        exact s_sipush hv C hd (k_0 kk)
      · cases h
    · cases h
  · split at h
    · rename_i hl
      unfold psI at h
      split at h
      · unfold nx at h
        cases h
        exact s_ldc (cst_in hl) C hd (k_0 kk)
      · cases h
    · split at h
      · rename_i ho
        split at h
        · rename_i hj
          unfold nx at h
          cases h
          exact s_ldcS ho hj (str_in hj) C hd (k_0 kk)
        · cases h
      · cases h
  · split at h
    · rename_i hl
      unfold psI at h
      split at h
      · unfold nx at h
        cases h
        exact s_ldcw (cst_in hl) C hd (k_0 kk)
      · cases h
    · cases h
  · split at h
    · rename_i hl
      split at h
      · unfold nx at h
        cases h
        exact s_ldc2 (csl_in hl) C hd (k_0 kk)
      · cases h
    · cases h
  · unfold nx at h
    cases h
    exact s_lconst C hd (k_0 kk)
  · unfold nx at h
    cases h
    exact s_null C hd (k_0 kk)
  · exact x_iload_n C hs hd h kk
  · exact x_iload C hs hd h kk
  · exact x_lload_n C hs hd h kk
  · exact x_aload_n C hs hd h kk
  · exact x_aload C hs hd h kk
  · exact x_istore_n C hs hd h kk
  · exact x_istore C hs hd h kk
  · exact x_astore_n C hs hd h kk
  · exact x_astore C hs hd h kk
  · exact x_lstore_n C hs hd h kk
  · split at h
    · rename_i hg
      split at h
      · rename_i hh
        unfold nx at h
        cases h
        exact s_iinc hs hg hh.2 C hd (k_0 kk)
      · cases h
    · cases h
  · exact x_iadd C hs hd h kk
  · exact x_isub C hs hd h kk
  · exact x_imul C hs hd h kk
  · exact x_idiv C hs hd h kk
  · exact x_irem C hs hd h kk
  · exact x_iand C hs hd h kk
  · exact x_ior C hs hd h kk
  · exact x_ixor C hs hd h kk
  · exact x_ishl C hs hd h kk
  · exact x_ishr C hs hd h kk
  · exact x_iushr C hs hd h kk
  · exact x_ladd C hs hd h kk
  · exact x_lsub C hs hd h kk
  · exact x_land C hs hd h kk
  · exact x_lor C hs hd h kk
  · exact x_lxor C hs hd h kk
  · exact x_lshl C hs hd h kk
  · exact x_lshr C hs hd h kk
  · exact x_lushr C hs hd h kk
  · split at h
    · unfold nx at h
      cases h
      exact s_lcmp (v_2 hs) (v_1 hs) C hd (k_0 kk)
    · cases h
  · split at h
    · unfold nx at h
      cases h
      exact s_i2l (v_1 hs) C hd (k_0 kk)
    · cases h
  · split at h
    · unfold nx at h
      cases h
      exact s_l2i C hd (k_0 kk)
    · cases h
  · exact x_i2b C hs hd h kk
  · exact x_i2c C hs hd h kk
  · split at h
    · split at h
      · rename_i hh
        unfold nx at h
        cases h
        exact s_dup hh C hd (k_0 kk)
      · cases h
    · cases h
  · split at h
    · split at h
      · rename_i hh
        unfold nx at h
        cases h
        exact s_dup_x1 hh.1 hh.2 C hd (k_0 kk)
      · cases h
    · cases h
  · split at h
    · split at h
      · rename_i hh
        unfold nx at h
        cases h
        exact s_dup2 hh.1 hh.2 C hd (k_0 kk)
      · cases h
    · cases h
  · split at h
    · split at h
      · rename_i hh
        unfold nx at h
        cases h
        exact s_pop hh C hd (k_0 kk)
      · cases h
    · cases h
  · split at h
    · rename_i hh
      unfold nx at h
      cases h
      exact s_goto hh C hd (k_0 kk)
    · cases h
  · split at h
    · unfold brn at h
      split at h
      · rename_i hh
        split at h
        · rename_i hc
          unfold nx at h
          cases h
          exact s_ifc C (v_1 hs) hh hd (fun _ => k_0 kk) (fun q => by rw [q] at hc; cases hc)
        · rename_i hc
          unfold nx at h
          cases h
          exact s_ifc C (v_1 hs) hh hd (fun q => absurd q hc) (fun _ => k_0 kk)
      · cases h
    · cases h
  · split at h
    · unfold brn at h
      split at h
      · rename_i hh
        split at h
        · rename_i hc
          unfold nx at h
          cases h
          exact s_icc C (v_2 hs) (v_1 hs) hh hd (fun _ => k_0 kk) (fun q => by rw [q] at hc; cases hc)
        · rename_i hc
          unfold nx at h
          cases h
          exact s_icc C (v_2 hs) (v_1 hs) hh hd (fun q => absurd q hc) (fun _ => k_0 kk)
      · cases h
    · cases h
  · split at h
    · rename_i r st2
      split at h
      · cases h
      · rename_i hr
        unfold brn at h
        split at h
        · rename_i hh
          cases r with
          | none =>
            rw [if_neg (by decide)] at h
            unfold nx at h
            cases h
            exact s_ifnn0 C hd (k_0 kk)
          | some a =>
            rw [if_pos (by rfl)] at h
            unfold nx at h
            cases h
            exact s_ifnn C (fun q => hr (by rw [q])) hh hd (k_0 kk)
        · cases h
    · cases h
  · split at h
    · split at h
      · rename_i hx1
        split at h
        · rename_i hh
          unfold nx at h
          cases h
          exact s_tabO C (v_1 hs) hx1 hh hd (k_0 kk)
        · cases h
      · rename_i hx1
        split at h
        · rename_i ho
          split at h
          · rename_i hh
            unfold nx at h
            cases h
            exact s_tabI C (v_1 hs) hx1 ho hh hd (k_0 kk)
          · cases h
        · cases h
    · cases h
  · split at h
    · split at h
      · rename_i hh
        unfold nx at h
        cases h
        exact s_look C (v_1 hs) hh.1 hh.2 hd (k_0 kk)
      · cases h
    · cases h
  · exact x_get C hs hd h kk
  · exact x_put C hs hd h kk
  · split at h
    · rename_i hv
      unfold nx at h
      cases h
      exact s_gets C hv hd (k_0 kk)
    · cases h
  · exact x_iald C hs hx hd h kk
  · exact x_bald C hs hd h kk
  · exact x_lald C hs hd h kk
  · exact x_iast C hs hd h kk
  · exact x_bast C hs hd h kk
  · exact x_last C hs hd h kk
  · exact x_len C hs hx hd h kk
  · exact x_new C hs hcl hsl hd h kk
  · exact x_newa C hs hcl hsl hd h kk
  · split at h
    · split at h
      · exact absurd h (nx_call)
      · cases h
    · cases h
  · split at h
    · rename_i kd y hm
      have hml := mth_in hm
      split at h
      · exact absurd h (nx_call)
      · split at h
        · rename_i hk
          subst hk
          exact x_cpy (lnk_6 hml.1) C hs hd h kk
        · split at h
          · rename_i hk
            subst hk
            exact x_max (lnk_7 hml.1) C hs hcl hsl hd h kk
          · split at h
            · rename_i hk
              subst hk
              exact x_min (lnk_8 hml.1) C hs hcl hsl hd h kk
            · cases h
    · cases h
  · split at h
    · rename_i kd y hm
      have hml := mth_in hm
      split at h
      · exact absurd h (nx_call)
      · split at h
        · rename_i hk
          subst hk
          split at h
          · split at h
            · rename_i hh
              unfold nx at h
              cases h
              exact s_obj C (lnk_5 hml.1) (fun q => by rw [q] at hh; exact absurd hh.1 (by decide)) hh.2 hd (k_0 kk)
            · cases h
          · cases h
        · cases h
    · cases h
  · split at h
    · split at h
      · cases h
      · cases h
    · cases h
  · split at h
    · split at h
      · cases h
      · cases h
    · cases h
  · split at h
    · split at h
      · cases h
      · cases h
    · cases h
  · split at h
    · split at h
      · cases h
      · cases h
    · cases h
  · cases h
end ST
