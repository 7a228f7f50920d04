/-! the call image where no World is kept yet -/
theorem RW.jb {A B B' : aI} {S : Int → Int} (h : RW A B S) (hJ : ∀ a, a < 45 → B' a = B a) : RW A B' S :=
  h.pt ⟨⟨rfl, rfl, rfl, rfl, rfl, rfl, rfl, rfl, rfl, rfl, rfl, by rw [hJ 31 (by decide)]⟩, fun _ _ _ => ⟨rfl, rfl, rfl, rfl, rfl, rfl⟩, fun _ _ _ => rfl, fun _ _ _ => rfl, fun _ _ _ => ⟨rfl, rfl, rfl, rfl⟩, fun _ _ _ => ⟨rfl, rfl⟩, fun k _ _ => ⟨rfl, rfl, rfl, rfl, by rw [hJ 25 (by decide)], rfl, rfl, rfl, rfl, rfl⟩, fun _ _ _ => ⟨rfl, rfl, rfl, rfl⟩, fun k _ _ => by rw [hJ 32 (by decide)], fun _ _ _ => ⟨rfl, rfl, rfl, rfl, rfl⟩⟩
theorem refL_lt : ∀ e ∈ refL, e.1.1 < 64 ∧ ¬ (e.1.1 = 0 ∧ e.1.2 = 4) := by decide +kernel
theorem refK_ge : ∀ e ∈ refK, e.1.1 ≠ 0 := by decide +kernel
theorem im_fin : finOk 141 11 4 = true := by decide +kernel
theorem im_cls : clsR 141 9 = some 10 := by decide +kernel
theorem im_mth : mthR 141 11 = some (3, 97) := by decide +kernel
theorem im_npr : npr 97 = 0 := by decide +kernel
section SM
variable {d : Nat} {b : Bool} {G : aG} {I J : aI} {Q : Option aV → aG → aI → aI → Prop}
theorem cs_32 (hV : LV b G I J) : Cl (d + 8) 141 237 [some (vR 0)] [some (vR 56), none] G I J := by
  cases b with
  | true => exact cs_32t (d := d + 3) hV
  | false =>
    obtain ⟨hG, hRW, hc, hi, hk⟩ := id hV
    have h64 : G.1 = 64 := hG.1
    unfold Cl
    refine a_aload_n (by rfl) (by decide) d141_0 (a_getR (k := 4) gk_141_37_0 (gl hG (by decide)) (rf_k0 hG) d141_1 (a_ifnn0 (t := 18) (by decide) d141_4 (a_aload_n (by rfl) (by decide) d141_7 (a_new (n := 64) im_cls h64 sp_64 (by decide) d141_8 (a_dup (by rfl) d141_11 ?_)))))
    refine a_calI (n := 0) (rest := [vR 64, vR 0]) (E := [some (vR 64)]) im_mth (by decide) im_npr (by rfl) (rcv_0 sp_64 on_97 (Nat.le_of_ble_eq_true rfl)) (Nat.le_of_ble_eq_true rfl) (en_97 _) (eq_97 _) d141_12 (ct_OneWire_World_64 (d := d + 5) rfl (fun G1 I1 J1 n1 u1 _ _ f0 f1 f2 f3 f4 f5 f6 f7 f8 f9 f10 f11 f12 f13 f14 f15 f16 f17 f18 f19 f20 f21 f22 f23 f24 f25 f26 f27 f28 f29 f30 f31 f32 f33 f34 f35 f36 f37 f38 f39 f40 f41 f42 => ?_))
    change At _ _ _ _ [vR 64, vR 0] _ _ _ _
    refine a_putR (k := 4) (r := some 64) gk_141_37_0 im_fin (lt_of n1 (by decide)) (by decide) d141_15 ?_
    have hG2 : GW true (gset G1 0 ((4 : Nat) : Int) (some 64)) := by
      refine ⟨n1, fun e he => ?_, (fun q => by cases q), fun _ => ⟨rfl, fun e he => ?_⟩⟩
      · have g := refL_lt e he
        have g0 := hG.2.1 e he
        show (if e.1.1 = 0 ∧ ((e.1.2 : Nat) : Int) = ((4 : Nat) : Int) then some 64 else G1.2 e.1.1 ((e.1.2 : Nat) : Int)) = some e.2
        rw [if_neg (fun q => g.2 ⟨q.1, by omega⟩), (u1 e.1.1 (by omega)).1]
        exact g0
      · have g := refK_ge e he
        show (if e.1.1 = 0 ∧ ((e.1.2 : Nat) : Int) = ((4 : Nat) : Int) then some 64 else G1.2 e.1.1 ((e.1.2 : Nat) : Int)) = some e.2
        rw [if_neg (fun q => g q.1)]
        clear u1 g hG hV hRW hc hk
        simp only [refK, List.mem_cons, List.not_mem_nil, or_false] at he
        (repeat' (rcases he with rfl | he)) <;> first | assumption | (subst he; assumption)
    generalize gset G1 0 ((4 : Nat) : Int) (some 64) = G2 at hG2 ⊢
    have uI : ∀ a, ¬ (64 ≤ a ∧ a < 108) → I1 a = I a := fun a h => (u1 a h).2.1
    have uJ : ∀ a, ¬ (64 ≤ a ∧ a < 108) → J1 a = J a := fun a h => (u1 a h).2.2
    have hV1 : LV false G I1 J1 := by
      refine ⟨hG, ?_, hc.fr (uI 48 (by decide)) (uI 49 (by decide)), by rw [uI 56 (by decide)]; exact hi, fun q => by cases q⟩
      rw [uI 57 (by decide)]
      exact (hRW.kp (fun a k ha _ => by rw [uI a (by omega)])).jb (fun a ha => uJ a (by omega))
    refine a_aload_n (by rfl) (by decide) d141_18 (a_getR (k := 4) gk_141_37_0 (gl hG2 (by decide)) (rf_k1 hG2) d141_19 (a_aload_n (by rfl) (by decide) d141_22 (a_getR (k := 0) gk_141_12_0 (gl hG2 (by decide)) (rf_0_0 hG2) d141_23 (a_calV (n := 1) (rest := []) (E := [some (vR 64), some (vR 1)]) mk_141_314 (by decide) np_99 (by rfl) (rcv_0 sp_64 on_99 (glk hG2 (by decide))) (Nat.le_of_ble_eq_true rfl) (en_99 _ _) (eq_99 _ _) d141_26 ((im_tail (d := d + 3) hV1 hG2).imp (fun v G3 I3 J3 h => ?_))))))
    obtain ⟨rfl, rfl, e1, sc, hm⟩ := h
    refine b_X11_image_t_29 hG2 ⟨_, true, rfl, hG2, ⟨sc.1.trans (uI 1060 (by decide)), sc.2.trans (uI 1061 (by decide))⟩, ?_⟩
    unfold Md
    exact hm.imp (fun v G4 I4 J4 h => ⟨by rw [h.1, e1], true, h.2⟩)
end SM
