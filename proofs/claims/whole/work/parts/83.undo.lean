/-! the call undo, and the call image where a World is kept -/
section SM
variable {d : Nat} {b : Bool} {G : aG} {I J : aI} {Q : Option aV → aG → aI → aI → Prop}
theorem lp_undoM {I0 : aI} (hG : GW b G) (k : ∀ I', (∀ a, a ≠ 57 → I' a = I0 a) → (∀ i, 0 ≤ i → i < 2456 → I' 57 i = I0 63 i) → Q (some (vI (I' 57 3))) G I' J) : ∀ (j : Nat) (y : Int) (I : aI), 0 ≤ y → y + j = 2456 → (∀ a, a ≠ 57 → I a = I0 a) → (∀ i, 0 ≤ i → i < y → I 57 i = I0 63 i) → At d 238 12 [some (vR 56), some (vI y)] [] G I J Q
  | 0, y, I, h0, h1, hs, hi => b_X12_undo_12 hG (fun _ => b_X12_undo_37 hG (k I hs (fun i i0 i1 => hi i i0 (by omega)))) (fun q => absurd q (by omega))
  | j + 1, y, I, h0, h1, hs, hi => by
    refine b_X12_undo_12 hG (fun q => absurd q (by omega)) (fun _ => b_X12_undo_19 hG h0 (by omega) (by unfold ok32; omega) (lp_undoM hG k j (y + 1) _ (by omega) (by omega) (fun a h => by rw [mset_o h, hs a h]) (fun i i0 i1 => ?_)))
    rw [mset_a]
    split
    · rename_i e
      rw [hs 63 (by decide), e]
    · exact hi i i0 (by omega)
theorem lp_imageM {I0 : aI} (hG : GW b G) (k : ∀ I', (∀ a, a ≠ 63 → I' a = I0 a) → (∀ i, 0 ≤ i → i < 2456 → I' 63 i = I0 57 i) → Q (some (vI (I0 57 3))) G (mset I' 56 19 1) J) : ∀ (j : Nat) (y : Int) (I : aI), 0 ≤ y → y + j = 2456 → (∀ a, a ≠ 63 → I a = I0 a) → (∀ i, 0 ≤ i → i < y → I 63 i = I0 57 i) → At d 237 2 [some (vR 56), some (vI y)] [] G I J Q
  | 0, y, I, h0, h1, hs, hi => by
    refine b_X12_image_2 hG (fun _ => b_X12_image_27 hG ?_) (fun q => absurd q (by omega))
    rw [hs 57 (by decide)]
    exact k I hs (fun i i0 i1 => hi i i0 (by omega))
  | j + 1, y, I, h0, h1, hs, hi => by
    refine b_X12_image_2 hG (fun q => absurd q (by omega)) (fun _ => b_X12_image_9 hG h0 (by omega) (by unfold ok32; omega) (lp_imageM hG k j (y + 1) _ (by omega) (by omega) (fun a h => by rw [mset_o h, hs a h]) (fun i i0 i1 => ?_)))
    rw [mset_a]
    split
    · rename_i e
      rw [hs 57 (by decide), e]
    · exact hi i i0 (by omega)
theorem cs_33 (hV : LV b G I J) : Cl (d + 5) 142 238 [some (vR 0)] [some (vR 56), none] G I J := by
  obtain ⟨hG, hRW, hc, hi, hk⟩ := id hV
  cases b with
  | false =>
    unfold Cl
    refine b_X11_undo_f_0 hG ⟨_, false, rfl, hG, ⟨rfl, rfl⟩, ?_⟩
    unfold Md
    exact b_X12_undo_0 hG (fun q => absurd hi q) (fun _ => b_X12_undo_7 hG ⟨rfl, false, hV, rfl, rfl⟩)
  | true =>
    have hk' := hk rfl
    have hi' : I 56 19 = 1 := hi
    unfold Cl
    refine b_X11_undo_t_0 hG (sp_cpu (d := d + 2) hG (fun I1 J1 pt un => b_X11_undo_t_21 hG ⟨_, true, rfl, hG, ⟨(un 1060 (by decide)).1, (un 1061 (by decide)).1⟩, ?_⟩))
    have e1 : I1 1 0 = I 63 3 := (hk'.pt pt).1.1
    have e63 : I1 63 = I 63 := (un 63 (by decide)).1
    have e56 : I1 56 = I 56 := (un 56 (by decide)).1
    unfold Md
    refine b_X12_undo_0 hG (fun _ => b_X12_undo_10 hG (lp_undoM hG (fun I2 k1 k2 => ?_) (2456 : Int).toNat 0 I1 (by decide) (by decide) (fun _ _ => rfl) (fun i i0 i1 => by omega))) (fun q => absurd (show (1 : Int) = 0 by rw [← hi', ← e56]; exact q) (by decide))
    refine ⟨by rw [e1, k2 3 (by decide) (by decide), e63], true, ?_⟩
    have r1 : RW I2 J1 (I 63) := (hk'.pt pt).kp (fun a k ha _ => by rw [k1 a (by omega)])
    have r2 : RW I2 J1 (I2 57) := r1.sf (fun i i0 i1 => by rw [k2 i i0 i1, e63])
    have fin := hV.of (I2 := I2) (J2 := J1) r2 (fun a k ha hb hs => by rw [k1 a hb, (un a (by omega)).1]) (fun a ha => (un a (by omega)).2)
    exact ⟨fin.1, fin.2.1.trans (un 1060 (by decide)).1.symm, fin.2.2.trans (un 1061 (by decide)).1.symm⟩
/-- image, once the World to be kept is there -/
theorem im_tail {G' : aG} (hV : LV b G I J) (hG' : GW true G') : At (d + 4) 99 0 [some (vR 64), some (vR 1)] [] G' I J (fun v G2 I2 J2 => v = none ∧ G2 = G' ∧ I2 1 0 = I 1 0 ∧ Sc I I2 ∧ At (d + 5) 237 0 [some (vR 56), none] [] G' I2 J2 (fun v G3 I3 J3 => v = some (vI (I 1 0)) ∧ LV true G3 I3 J3 ∧ Sc I2 I3)) := by
  obtain ⟨hG, hRW, hc, hi, hk⟩ := id hV
  refine sp_cpi (d := d + 2) hG' (fun I1 J1 pt un => ⟨rfl, rfl, by rw [(un 1 (by decide)).1], ⟨(un 1060 (by decide)).1, (un 1061 (by decide)).1⟩, ?_⟩)
  have e1 : I 1 0 = I 57 3 := hRW.1.1
  have e57 : I1 57 = I 57 := (un 57 (by decide)).1
  refine b_X12_image_0 hG' (lp_imageM hG' (fun I2 k1 k2 => ⟨by rw [e57, e1], ?_⟩) (2456 : Int).toNat 0 I1 (by decide) (by decide) (fun _ _ => rfl) (fun i i0 i1 => by omega))
  have c : ∀ a, a ≠ 56 → a ≠ 63 → (mset I2 56 19 1) a = I1 a := fun a h h2 => by rw [mset_o h, k1 a h2]
  refine ⟨⟨hG', ?_, ?_, ?_, fun _ => ?_⟩, c 1060 (by decide) (by decide), c 1061 (by decide) (by decide)⟩
  · have r : RW I J (I 57) := hRW
    have r1 : RW (mset I2 56 19 1) J (I 57) := r.kp (fun a k ha _ => by rw [c a (by omega) (by omega), (un a (by omega)).1])
    have hJ : ∀ a, a < 45 → J1 a = J a := fun a ha => (un a (by omega)).2
    rw [c 57 (by decide) (by decide), e57]
    exact r1.pt ⟨⟨rfl, rfl, rfl, rfl, rfl, rfl, rfl, rfl, rfl, rfl, rfl, by rw [hJ 31 (by decide)]⟩, fun _ _ _ => ⟨rfl, rfl, rfl, rfl, rfl, rfl⟩, fun _ _ _ => rfl, fun _ _ _ => rfl, fun _ _ _ => ⟨rfl, rfl, rfl, rfl⟩, fun _ _ _ => ⟨rfl, rfl⟩, fun k _ _ => ⟨rfl, rfl, rfl, rfl, by rw [hJ 25 (by decide)], rfl, rfl, rfl, rfl, rfl⟩, fun _ _ _ => ⟨rfl, rfl, rfl, rfl⟩, fun k _ _ => by rw [hJ 32 (by decide)], fun _ _ _ => ⟨rfl, rfl, rfl, rfl, rfl⟩⟩
  · exact hc.fr (by rw [c 48 (by decide) (by decide), (un 48 (by decide)).1]) (by rw [c 49 (by decide) (by decide), (un 49 (by decide)).1])
  · rw [mset_at]
    rfl
  · have e63 : ∀ i, 0 ≤ i → i < 2456 → (mset I2 56 19 1) 63 i = I 57 i := fun i i0 i1 => by rw [mset_o (by decide), k2 i i0 i1, e57]
    have r1 : RW (sh I1) (sh J1) (I 57) := hRW.pt pt
    have es : ∀ a, a ≠ 0 → sh (mset I2 56 19 1) a = sh I1 a := fun a ha => c (a + 63) (by omega) (by omega)
    have r2 : RW (sh (mset I2 56 19 1)) (sh J1) (I 57) := r1.pt (by
      refine ⟨⟨?_, ?_, ?_, ?_, ?_, ?_, ?_, ?_, ?_, ?_, ?_, rfl⟩, fun k _ _ => ⟨?_, ?_, ?_, ?_, ?_, ?_⟩, fun k _ _ => ?_, fun k _ _ => ?_, fun k _ _ => ⟨?_, ?_, ?_, ?_⟩, fun k _ _ => ⟨?_, ?_⟩, fun k _ _ => ⟨?_, ?_, ?_, ?_, rfl, ?_, ?_, ?_, ?_, ?_⟩, fun k _ _ => ⟨?_, ?_, ?_, ?_⟩, fun k _ _ => rfl, fun k _ _ => ⟨?_, ?_, ?_, ?_, ?_⟩⟩ <;> rw [es _ (by decide)])
    exact r2.sf (fun i i0 i1 => e63 i i0 i1)
theorem cs_32t (hV : LV true G I J) : Cl (d + 5) 141 237 [some (vR 0)] [some (vR 56), none] G I J := by
  have hG := hV.1
  unfold Cl
  refine b_X11_image_t_0 hG ((im_tail (d := d) hV hG).imp (fun v G2 I2 J2 h => ?_))
  obtain ⟨rfl, rfl, e1, sc, hm⟩ := h
  refine b_X11_image_t_29 hG ⟨_, true, rfl, hG, sc, ?_⟩
  unfold Md
  exact hm.imp (fun v G3 I3 J3 h => ⟨by rw [h.1, e1], true, h.2⟩)
end SM
