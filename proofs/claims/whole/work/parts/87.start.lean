/-! the start of the law -/
theorem z_b : ∀ c : Int, 0 ≤ c → c < 60 → bAnd (bShr 0 c) 1 = 0 := fun c h0 h1 => by
  obtain ⟨n, rfl⟩ := Int.eq_ofNat_of_zero_le h0
  have : ∀ n : Nat, n < 60 → bAnd (bShr 0 (n : Int)) 1 = 0 := by decide +kernel
  exact this n (by omega)
theorem z_l : ∀ c : Int, 0 ≤ c → c < 60 → lAnd (lShr 0 c) 1 = 0 := fun c h0 h1 => by
  obtain ⟨n, rfl⟩ := Int.eq_ofNat_of_zero_le h0
  have : ∀ n : Nat, n < 60 → lAnd (lShr 0 (n : Int)) 1 = 0 := by decide +kernel
  exact this n (by omega)
theorem RW.zero {A B : aI} {S : Int → Int} (hA : ∀ a : Nat, a < 45 → ∀ k, A a k = 0) (hB : ∀ a : Nat, a < 45 → ∀ k, B a k = 0) (hS : ∀ i, S i = 0) : RW A B S := by
  refine ⟨?_, ?_, ?_, ?_, ?_, ?_, ?_, ?_⟩
  · unfold RelN
    rw [hA 1 (by decide), hS]
    decide
  · unfold RelF
    rw [hA 2 (by decide), hS]
    refine ⟨by decide, fun k k0 k1 => by omega, fun k _ _ => hA 6 (by decide) k, fun a a0 a1 => ?_⟩
    rw [hA 8 (by decide)]
    refine ⟨by decide, by decide, fun c c0 c1 => ⟨Or.inl (hS _), ?_, by rw [hS, hS]⟩⟩
    rw [z_b c c0 (by omega), hS]
  · unfold RelR
    rw [hA 9 (by decide), hS]
    exact ⟨by decide, fun k k0 k1 => by omega⟩
  · unfold RelT
    rw [hA 10 (by decide), hS]
    exact ⟨by decide, fun k k0 k1 => by omega⟩
  · unfold RelC
    rw [hA 20 (by decide), hS]
    exact ⟨by decide, fun k k0 k1 => by omega, fun k _ _ => hA 30 (by decide) k⟩
  · unfold RelW
    rw [hA 31 (by decide), hA 31 (by decide), hA 31 (by decide), hB 31 (by decide), hS 4, hS 5]
    refine ⟨by decide, by decide, ⟨by decide, by decide, fun l w l0 l1 w0 w1 => ⟨Or.inl (hS _), ?_⟩⟩, fun k k0 k1 => by omega, ⟨by decide, by decide, fun k k0 k1 => z_b k k0 (by omega)⟩, fun k k0 k1 => by omega⟩
    rw [z_l _ (by omega) (by omega), hS]
  · unfold RelL
    rw [hA 35 (by decide), hS]
    exact ⟨by decide, fun k k0 k1 => by omega⟩
  · unfold RelM
    rw [hA 40 (by decide), hA 40 (by decide), hS]
    exact ⟨by decide, fun k k0 k1 => by omega, by decide, by decide, fun k k0 k1 => z_b k k0 (by omega)⟩
theorem st_c1 : clsR 0 7 = some 11 := by decide +kernel
theorem st_s0 : SH 0 = (0, 11) := by decide +kernel
theorem st_m1 : mthR 0 9 = some (2, 108) := by decide +kernel
theorem st_n1 : npr 108 = 0 := by decide +kernel
theorem st_e1 (a0 : Nat) : entOk 108 [vR a0] = true := rfl
theorem st_q1 (a0 : Nat) : ent (mxl 108) [vR a0] = [some (vR a0)] := rfl
theorem st_o1 : oNum 108 = 11 := by decide +kernel
theorem st_c2 : clsR 0 10 = some 12 := by decide +kernel
theorem st_s2 : SH 56 = (0, 12) := by decide +kernel
theorem st_m2 : mthR 0 12 = some (2, 149) := by decide +kernel
theorem st_n2 : npr 149 = 0 := by decide +kernel
theorem st_e2 (a0 : Nat) : entOk 149 [vR a0] = true := rfl
theorem st_q2 (a0 : Nat) : ent (mxl 149) [vR a0] = [some (vR a0)] := rfl
theorem st_o2 : oNum 149 = 12 := by decide +kernel
theorem scr_of (h4 : C4P) (h13 : C13P) : ScrAt := fun n xs hn hx => by
  refine a_new (n := 0) st_c1 rfl st_s0 (by decide) d0_0 (a_dup (by rfl) d0_3 ?_)
  refine a_calI (n := 0) (rest := [vR 0]) (E := [some (vR 0)]) st_m1 (by decide) st_n1 (by rfl) (rcv_0 st_s0 st_o1 (Nat.le_of_ble_eq_true rfl)) (Nat.le_of_ble_eq_true rfl) (st_e1 _) (st_q1 _) d0_4 (ct_OneWire_0 (d := 996) rfl (fun G1 I1 J1 n1 u1 zi1 zj1 f0 f1 f2 f3 f4 f5 f6 f7 f8 f9 f10 f11 f12 f13 f14 f15 f16 f17 f18 f19 f20 f21 f22 f23 f24 f25 f26 f27 f28 f29 f30 f31 f32 f33 f34 f35 f36 f37 f38 f39 f40 f41 f42 f43 f44 f45 f46 f47 f48 f49 f50 f51 f52 f53 f54 k0 => ?_))
  change At _ _ _ _ [vR 0] _ _ _ _
  refine a_astore_n (by rfl) (by decide) d0_7 (a_new (n := 56) st_c2 n1 st_s2 (by decide) d0_8 (a_dup (by rfl) d0_11 ?_))
  refine a_calI (n := 0) (rest := [vR 56]) (E := [some (vR 56)]) st_m2 (by decide) st_n2 (by rfl) (rcv_0 st_s2 st_o2 (Nat.le_of_ble_eq_true rfl)) (Nat.le_of_ble_eq_true rfl) (st_e2 _) (st_q2 _) d0_12 (ct_OneWireModel_56 (d := 999) rfl (fun G2 I2 J2 n2 u2 zi2 zj2 m0 m1 m2 m3 m4 m5 m6 => ?_))
  change At _ _ _ _ [vR 56] _ _ _ _
  refine a_astore_n (by rfl) (by decide) d0_15 (a_iconst (by decide) d0_16 (a_istore_n (by rfl) d0_17 ?_))
  change At 1000 0 18 [some (vR 1060), some (vR 0), some (vR 56), some (vI 0)] [] G2 I2 J2 _
  have h0 : ZM (scI n xs) := fun a ha k => by
    unfold scI
    rw [if_neg (by omega), if_neg (by omega)]
  have hZ : ZM I2 := zi2 (zi1 h0)
  have hZJ : ZM J2 := zj2 (zj1 (fun _ _ _ => rfl))
  have hl : I2 1061 0 = (n : Int) := by
    rw [(u2 1061 (by decide)).2.1, (u1 1061 (by decide)).2.1]
    unfold scI
    rw [if_neg (by decide), if_pos ⟨rfl, rfl⟩]
  have hG : GW false G2 := by
    refine ⟨n2, fun e he => ?_, fun _ => ?_, (fun q => by cases q)⟩
    · have o : ∀ a k v, a < 56 → G1.2 a ((k : Nat) : Int) = some v → G2.2 a ((k : Nat) : Int) = some v := fun a k v ha h => by
        rw [(u2 a (by omega)).1]
        exact h
      clear u1 u2 h0 hZ hZJ hl zi1 zi2 zj1 zj2 h4 h13 hx
      simp only [refL, List.mem_cons, List.not_mem_nil, or_false] at he
      (repeat' (rcases he with rfl | he)) <;> first | assumption | (refine o _ _ _ (by decide) ?_; assumption)
    · rw [(u2 0 (by decide)).1]
      exact k0 rfl
  have hV : LV false G2 I2 J2 := ⟨hG, RW.zero (fun a ha k => hZ a (by omega) k) (fun a ha k => hZJ a (by omega) k) (fun i => hZ 57 (by decide) i), Or.inl (hZ 48 (by decide) 4), hZ 56 (by decide) 19, (fun q => by cases q)⟩
  exact lp_law h4 h13 100 0 false G2 I2 J2 hV (by omega) (by omega) (by decide) (by decide) (by omega)
