/-! copyFrom: the state goes over, place by place (by wip/whole/gen82.py) -/
section SM
variable {d : Nat} {G : aG} {I J : aI} {Q : Option aV → aG → aI → aI → Prop}
theorem cpu_4 (hG : GW true G) (k : ∀ I' J', (∀ a, ¬ (2 ≤ a ∧ a ≤ 8) → I' a = I a ∧ J' a = J a) → (I' 2 0 = I 65 0) → (∀ k, 0 ≤ k → k < 12 → I' 3 k = I 66 k) → (∀ k, 0 ≤ k → k < 12 → I' 4 k = I 67 k) → (∀ k, 0 ≤ k → k < 12 → I' 5 k = I 68 k) → (∀ k, 0 ≤ k → k < 12 → I' 6 k = I 69 k) → (∀ k, 0 ≤ k → k < 12 → I' 7 k = I 70 k) → (∀ k, 0 ≤ k → k < 12 → I' 8 k = I 71 k) → Q none G I' J') : At d 38 0 [some (vR 2), some (vR 65)] [] G I J Q := by
  refine b_X4_copyFrom_2_0 hG (k _ _ (fun a ha => ⟨?_, ?_⟩) ?_ ?_ ?_ ?_ ?_ ?_ ?_)
  · rw [mcpy_o (by omega), mcpy_o (by omega), mcpy_o (by omega), mcpy_o (by omega), mcpy_o (by omega), mcpy_o (by omega), mset_o (by omega)]
  · rfl
  · rw [mcpy_o (by decide), mcpy_o (by decide), mcpy_o (by decide), mcpy_o (by decide), mcpy_o (by decide), mcpy_o (by decide), mset_at]
  · intro k k0 k1
    rw [mcpy_o (by decide), mcpy_o (by decide), mcpy_o (by decide), mcpy_o (by decide), mcpy_o (by decide), mcpy_at k0 k1, mset_o (by decide)]
  · intro k k0 k1
    rw [mcpy_o (by decide), mcpy_o (by decide), mcpy_o (by decide), mcpy_o (by decide), mcpy_at k0 k1, mcpy_o (by decide), mset_o (by decide)]
  · intro k k0 k1
    rw [mcpy_o (by decide), mcpy_o (by decide), mcpy_o (by decide), mcpy_at k0 k1, mcpy_o (by decide), mcpy_o (by decide), mset_o (by decide)]
  · intro k k0 k1
    rw [mcpy_o (by decide), mcpy_o (by decide), mcpy_at k0 k1, mcpy_o (by decide), mcpy_o (by decide), mcpy_o (by decide), mset_o (by decide)]
  · intro k k0 k1
    rw [mcpy_o (by decide), mcpy_at k0 k1, mcpy_o (by decide), mcpy_o (by decide), mcpy_o (by decide), mcpy_o (by decide), mset_o (by decide)]
  · intro k k0 k1
    rw [mcpy_at k0 k1, mcpy_o (by decide), mcpy_o (by decide), mcpy_o (by decide), mcpy_o (by decide), mcpy_o (by decide), mset_o (by decide)]
theorem cpu_8 (hG : GW true G) (k : ∀ I' J', (∀ a, ¬ (10 ≤ a ∧ a ≤ 12) → I' a = I a ∧ J' a = J a) → (I' 10 0 = I 73 0) → (∀ k, 0 ≤ k → k < 1320 → I' 11 k = I 74 k) → (∀ k, 0 ≤ k → k < 120 → I' 12 k = I 75 k) → Q none G I' J') : At d 74 0 [some (vR 10), some (vR 73)] [] G I J Q := by
  refine b_X8_copyFrom_2_0 hG (k _ _ (fun a ha => ⟨?_, ?_⟩) ?_ ?_ ?_)
  · rw [mcpy_o (by omega), mcpy_o (by omega), mset_o (by omega)]
  · rfl
  · rw [mcpy_o (by decide), mcpy_o (by decide), mset_at]
  · intro k k0 k1
    rw [mcpy_o (by decide), mcpy_at k0 k1, mset_o (by decide)]
  · intro k k0 k1
    rw [mcpy_at k0 k1, mcpy_o (by decide), mset_o (by decide)]
theorem cpu_7b (hG : GW true G) (k : ∀ I' J', (∀ a, ¬ (13 ≤ a ∧ a ≤ 18) → I' a = I a ∧ J' a = J a) → (∀ k, 0 ≤ k → k < 88 → I' 13 k = I 76 k) → (∀ k, 0 ≤ k → k < 11 → I' 14 k = I 77 k) → (∀ k, 0 ≤ k → k < 11 → I' 15 k = I 78 k) → (∀ k, 0 ≤ k → k < 88 → I' 16 k = I 79 k) → (∀ k, 0 ≤ k → k < 88 → I' 17 k = I 80 k) → (∀ k, 0 ≤ k → k < 88 → I' 18 k = I 81 k) → Q none G I' J') : At d 62 19 [some (vR 9), some (vR 72)] [] G I J Q := by
  refine b_X7_copyFrom_2_19 hG (k _ _ (fun a ha => ⟨?_, ?_⟩) ?_ ?_ ?_ ?_ ?_ ?_)
  · rw [mcpy_o (by omega), mcpy_o (by omega), mcpy_o (by omega), mcpy_o (by omega), mcpy_o (by omega), mcpy_o (by omega)]
  · rfl
  · intro k k0 k1
    rw [mcpy_o (by decide), mcpy_o (by decide), mcpy_o (by decide), mcpy_o (by decide), mcpy_o (by decide), mcpy_at k0 k1]
  · intro k k0 k1
    rw [mcpy_o (by decide), mcpy_o (by decide), mcpy_o (by decide), mcpy_o (by decide), mcpy_at k0 k1, mcpy_o (by decide)]
  · intro k k0 k1
    rw [mcpy_o (by decide), mcpy_o (by decide), mcpy_o (by decide), mcpy_at k0 k1, mcpy_o (by decide), mcpy_o (by decide)]
  · intro k k0 k1
    rw [mcpy_o (by decide), mcpy_o (by decide), mcpy_at k0 k1, mcpy_o (by decide), mcpy_o (by decide), mcpy_o (by decide)]
  · intro k k0 k1
    rw [mcpy_o (by decide), mcpy_at k0 k1, mcpy_o (by decide), mcpy_o (by decide), mcpy_o (by decide), mcpy_o (by decide)]
  · intro k k0 k1
    rw [mcpy_at k0 k1, mcpy_o (by decide), mcpy_o (by decide), mcpy_o (by decide), mcpy_o (by decide), mcpy_o (by decide)]
theorem cpu_0 (hG : GW true G) (k : ∀ I' J', (∀ a, ¬ (20 ≤ a ∧ a ≤ 30) → I' a = I a ∧ J' a = J a) → (I' 20 0 = I 83 0) → (∀ k, 0 ≤ k → k < 60 → I' 21 k = I 84 k) → (∀ k, 0 ≤ k → k < 60 → I' 22 k = I 85 k) → (∀ k, 0 ≤ k → k < 60 → I' 23 k = I 86 k) → (∀ k, 0 ≤ k → k < 60 → I' 24 k = I 87 k) → (∀ k, 0 ≤ k → k < 60 → I' 26 k = I 89 k) → (∀ k, 0 ≤ k → k < 60 → I' 27 k = I 90 k) → (∀ k, 0 ≤ k → k < 60 → I' 28 k = I 91 k) → (∀ k, 0 ≤ k → k < 60 → I' 29 k = I 92 k) → (∀ k, 0 ≤ k → k < 60 → I' 30 k = I 93 k) → (∀ k, 0 ≤ k → k < 60 → J' 25 k = J 88 k) → Q none G I' J') : At d 2 0 [some (vR 20), some (vR 83)] [] G I J Q := by
  refine b_X0_copyFrom_2_0 hG (k _ _ (fun a ha => ⟨?_, ?_⟩) ?_ ?_ ?_ ?_ ?_ ?_ ?_ ?_ ?_ ?_ ?_)
  · rw [mcpy_o (by omega), mcpy_o (by omega), mcpy_o (by omega), mcpy_o (by omega), mcpy_o (by omega), mcpy_o (by omega), mcpy_o (by omega), mcpy_o (by omega), mcpy_o (by omega), mset_o (by omega)]
  · rw [mcpy_o (by omega)]
  · rw [mcpy_o (by decide), mcpy_o (by decide), mcpy_o (by decide), mcpy_o (by decide), mcpy_o (by decide), mcpy_o (by decide), mcpy_o (by decide), mcpy_o (by decide), mcpy_o (by decide), mset_at]
  · intro k k0 k1
    rw [mcpy_o (by decide), mcpy_o (by decide), mcpy_o (by decide), mcpy_o (by decide), mcpy_o (by decide), mcpy_o (by decide), mcpy_o (by decide), mcpy_o (by decide), mcpy_at k0 k1, mset_o (by decide)]
  · intro k k0 k1
    rw [mcpy_o (by decide), mcpy_o (by decide), mcpy_o (by decide), mcpy_o (by decide), mcpy_o (by decide), mcpy_o (by decide), mcpy_o (by decide), mcpy_at k0 k1, mcpy_o (by decide), mset_o (by decide)]
  · intro k k0 k1
    rw [mcpy_o (by decide), mcpy_o (by decide), mcpy_o (by decide), mcpy_o (by decide), mcpy_o (by decide), mcpy_o (by decide), mcpy_at k0 k1, mcpy_o (by decide), mcpy_o (by decide), mset_o (by decide)]
  · intro k k0 k1
    rw [mcpy_o (by decide), mcpy_o (by decide), mcpy_o (by decide), mcpy_o (by decide), mcpy_o (by decide), mcpy_at k0 k1, mcpy_o (by decide), mcpy_o (by decide), mcpy_o (by decide), mset_o (by decide)]
  · intro k k0 k1
    rw [mcpy_o (by decide), mcpy_o (by decide), mcpy_o (by decide), mcpy_o (by decide), mcpy_at k0 k1, mcpy_o (by decide), mcpy_o (by decide), mcpy_o (by decide), mcpy_o (by decide), mset_o (by decide)]
  · intro k k0 k1
    rw [mcpy_o (by decide), mcpy_o (by decide), mcpy_o (by decide), mcpy_at k0 k1, mcpy_o (by decide), mcpy_o (by decide), mcpy_o (by decide), mcpy_o (by decide), mcpy_o (by decide), mset_o (by decide)]
  · intro k k0 k1
    rw [mcpy_o (by decide), mcpy_o (by decide), mcpy_at k0 k1, mcpy_o (by decide), mcpy_o (by decide), mcpy_o (by decide), mcpy_o (by decide), mcpy_o (by decide), mcpy_o (by decide), mset_o (by decide)]
  · intro k k0 k1
    rw [mcpy_o (by decide), mcpy_at k0 k1, mcpy_o (by decide), mcpy_o (by decide), mcpy_o (by decide), mcpy_o (by decide), mcpy_o (by decide), mcpy_o (by decide), mcpy_o (by decide), mset_o (by decide)]
  · intro k k0 k1
    rw [mcpy_at k0 k1, mcpy_o (by decide), mcpy_o (by decide), mcpy_o (by decide), mcpy_o (by decide), mcpy_o (by decide), mcpy_o (by decide), mcpy_o (by decide), mcpy_o (by decide), mset_o (by decide)]
  · intro k k0 k1
    rw [mcpy_at k0 k1]
theorem cpu_9 (hG : GW true G) (k : ∀ I' J', (∀ a, ¬ (31 ≤ a ∧ a ≤ 33) → I' a = I a ∧ J' a = J a) → (I' 31 1 = I 94 1) → (I' 31 2 = I 94 2) → (I' 31 5 = I 94 5) → (J' 31 0 = J 94 0) → (∀ k, 0 ≤ k → k < 10 → I' 33 k = I 96 k) → (∀ k, 0 ≤ k → k < 20 → J' 32 k = J 95 k) → Q none G I' J') : At d 89 0 [some (vR 31), some (vR 94)] [] G I J Q := by
  refine b_X9_copyFrom_2_0 hG (k _ _ (fun a ha => ⟨?_, ?_⟩) ?_ ?_ ?_ ?_ ?_ ?_)
  · rw [mcpy_o (by omega), mset_o (by omega), mset_o (by omega), mset_o (by omega)]
  · rw [mcpy_o (by omega), mset_o (by omega)]
  · rw [mcpy_o (by decide), mset_n (by decide), mset_n (by decide), mset_at]
  · rw [mcpy_o (by decide), mset_n (by decide), mset_at]
  · rw [mcpy_o (by decide), mset_at]
  · rw [mcpy_o (by decide), mset_at]
  · intro k k0 k1
    rw [mcpy_at k0 k1, mset_o (by decide), mset_o (by decide), mset_o (by decide)]
  · intro k k0 k1
    rw [mcpy_at k0 k1, mset_o (by decide)]
theorem cpu_5 (hG : GW true G) (k : ∀ I' J', (∀ a, ¬ (35 ≤ a ∧ a ≤ 39) → I' a = I a ∧ J' a = J a) → (I' 35 0 = I 98 0) → (∀ k, 0 ≤ k → k < 60 → I' 36 k = I 99 k) → (∀ k, 0 ≤ k → k < 60 → I' 37 k = I 100 k) → (∀ k, 0 ≤ k → k < 60 → I' 38 k = I 101 k) → (∀ k, 0 ≤ k → k < 60 → I' 39 k = I 102 k) → Q none G I' J') : At d 52 0 [some (vR 35), some (vR 98)] [] G I J Q := by
  refine b_X5_copyFrom_2_0 hG (k _ _ (fun a ha => ⟨?_, ?_⟩) ?_ ?_ ?_ ?_ ?_)
  · rw [mcpy_o (by omega), mcpy_o (by omega), mcpy_o (by omega), mcpy_o (by omega), mset_o (by omega)]
  · rfl
  · rw [mcpy_o (by decide), mcpy_o (by decide), mcpy_o (by decide), mcpy_o (by decide), mset_at]
  · intro k k0 k1
    rw [mcpy_o (by decide), mcpy_o (by decide), mcpy_o (by decide), mcpy_at k0 k1, mset_o (by decide)]
  · intro k k0 k1
    rw [mcpy_o (by decide), mcpy_o (by decide), mcpy_at k0 k1, mcpy_o (by decide), mset_o (by decide)]
  · intro k k0 k1
    rw [mcpy_o (by decide), mcpy_at k0 k1, mcpy_o (by decide), mcpy_o (by decide), mset_o (by decide)]
  · intro k k0 k1
    rw [mcpy_at k0 k1, mcpy_o (by decide), mcpy_o (by decide), mcpy_o (by decide), mset_o (by decide)]
theorem cpu_6 (hG : GW true G) (k : ∀ I' J', (∀ a, ¬ (40 ≤ a ∧ a ≤ 44) → I' a = I a ∧ J' a = J a) → (I' 40 0 = I 103 0) → (I' 40 1 = I 103 1) → (∀ k, 0 ≤ k → k < 10 → I' 41 k = I 104 k) → (∀ k, 0 ≤ k → k < 10 → I' 42 k = I 105 k) → (∀ k, 0 ≤ k → k < 10 → I' 43 k = I 106 k) → (∀ k, 0 ≤ k → k < 10 → I' 44 k = I 107 k) → Q none G I' J') : At d 57 0 [some (vR 40), some (vR 103)] [] G I J Q := by
  refine b_X6_copyFrom_2_0 hG (k _ _ (fun a ha => ⟨?_, ?_⟩) ?_ ?_ ?_ ?_ ?_ ?_)
  · rw [mcpy_o (by omega), mcpy_o (by omega), mcpy_o (by omega), mcpy_o (by omega), mset_o (by omega), mset_o (by omega)]
  · rfl
  · rw [mcpy_o (by decide), mcpy_o (by decide), mcpy_o (by decide), mcpy_o (by decide), mset_n (by decide), mset_at]
  · rw [mcpy_o (by decide), mcpy_o (by decide), mcpy_o (by decide), mcpy_o (by decide), mset_at]
  · intro k k0 k1
    rw [mcpy_o (by decide), mcpy_o (by decide), mcpy_o (by decide), mcpy_at k0 k1, mset_o (by decide), mset_o (by decide)]
  · intro k k0 k1
    rw [mcpy_o (by decide), mcpy_o (by decide), mcpy_at k0 k1, mcpy_o (by decide), mset_o (by decide), mset_o (by decide)]
  · intro k k0 k1
    rw [mcpy_o (by decide), mcpy_at k0 k1, mcpy_o (by decide), mcpy_o (by decide), mset_o (by decide), mset_o (by decide)]
  · intro k k0 k1
    rw [mcpy_at k0 k1, mcpy_o (by decide), mcpy_o (by decide), mcpy_o (by decide), mset_o (by decide), mset_o (by decide)]
theorem sp_cpu (hG : GW true G) (k : ∀ I' J', PT (sh I) I' (sh J) J' → (∀ a, ¬ (1 ≤ a ∧ a ≤ 44) → I' a = I a ∧ J' a = J a) → Q none G I' J') : At (d + 2) 99 0 [some (vR 1), some (vR 64)] [] G I J Q := by
  refine b_X10_copyFrom_2_0 hG ?_
  generalize hI1 : mset I 1 0 (I 64 0) = I1
  have u0 : ∀ a, ¬ (1 ≤ a ∧ a ≤ 1) → I1 a = I a ∧ J a = J a := fun a ha => ⟨by rw [← hI1, mset_o (by omega)], rfl⟩
  have e0 : I1 1 0 = I 64 0 := by rw [← hI1, mset_at]
  refine cpu_4 hG (fun I2 J2 u1 f1_0 f1_1 f1_2 f1_3 f1_4 f1_5 f1_6 => b_X10_copyFrom_2_19 hG (b_X7_copyFrom_2_0 hG ?_))
  generalize hI3 : mset I2 9 0 (I2 72 0) = I3
  have u2 : ∀ a, ¬ (9 ≤ a ∧ a ≤ 9) → I3 a = I2 a ∧ J2 a = J2 a := fun a ha => ⟨by rw [← hI3, mset_o (by omega)], rfl⟩
  have e2 : I3 9 0 = I2 72 0 := by rw [← hI3, mset_at]
  refine cpu_8 hG (fun I4 J4 u3 f3_0 f3_1 f3_2 => cpu_7b hG (fun I5 J5 u4 f4_0 f4_1 f4_2 f4_3 f4_4 f4_5 => b_X10_copyFrom_2_30 hG (cpu_0 hG (fun I6 J6 u5 f5_0 f5_1 f5_2 f5_3 f5_4 f5_5 f5_6 f5_7 f5_8 f5_9 f5_10 => b_X10_copyFrom_2_41 hG (cpu_9 hG (fun I7 J7 u6 f6_0 f6_1 f6_2 f6_3 f6_4 f6_5 => b_X10_copyFrom_2_52 hG (cpu_5 hG (fun I8 J8 u7 f7_0 f7_1 f7_2 f7_3 f7_4 => b_X10_copyFrom_2_63 hG (cpu_6 hG (fun I9 J9 u8 f8_0 f8_1 f8_2 f8_3 f8_4 f8_5 => b_X10_copyFrom_2_74 hG (k I9 J9 ?_ (fun a ha => ⟨?_, ?_⟩))))))))))))
  · exact ⟨⟨(by show I9 1 0 = I 64 0; rw [(u8 1 (by omega)).1, (u7 1 (by omega)).1, (u6 1 (by omega)).1, (u5 1 (by omega)).1, (u4 1 (by omega)).1, (u3 1 (by omega)).1, (u2 1 (by omega)).1, (u1 1 (by omega)).1, e0]), (by show I9 2 0 = I 65 0; rw [(u8 2 (by omega)).1, (u7 2 (by omega)).1, (u6 2 (by omega)).1, (u5 2 (by omega)).1, (u4 2 (by omega)).1, (u3 2 (by omega)).1, (u2 2 (by omega)).1, f1_0, (u0 65 (by omega)).1]), (by show I9 9 0 = I 72 0; rw [(u8 9 (by omega)).1, (u7 9 (by omega)).1, (u6 9 (by omega)).1, (u5 9 (by omega)).1, (u4 9 (by omega)).1, (u3 9 (by omega)).1, e2, (u1 72 (by omega)).1, (u0 72 (by omega)).1]), (by show I9 10 0 = I 73 0; rw [(u8 10 (by omega)).1, (u7 10 (by omega)).1, (u6 10 (by omega)).1, (u5 10 (by omega)).1, (u4 10 (by omega)).1, f3_0, (u2 73 (by omega)).1, (u1 73 (by omega)).1, (u0 73 (by omega)).1]), (by show I9 20 0 = I 83 0; rw [(u8 20 (by omega)).1, (u7 20 (by omega)).1, (u6 20 (by omega)).1, f5_0, (u4 83 (by omega)).1, (u3 83 (by omega)).1, (u2 83 (by omega)).1, (u1 83 (by omega)).1, (u0 83 (by omega)).1]), (by show I9 31 1 = I 94 1; rw [(u8 31 (by omega)).1, (u7 31 (by omega)).1, f6_0, (u5 94 (by omega)).1, (u4 94 (by omega)).1, (u3 94 (by omega)).1, (u2 94 (by omega)).1, (u1 94 (by omega)).1, (u0 94 (by omega)).1]), (by show I9 31 2 = I 94 2; rw [(u8 31 (by omega)).1, (u7 31 (by omega)).1, f6_1, (u5 94 (by omega)).1, (u4 94 (by omega)).1, (u3 94 (by omega)).1, (u2 94 (by omega)).1, (u1 94 (by omega)).1, (u0 94 (by omega)).1]), (by show I9 31 5 = I 94 5; rw [(u8 31 (by omega)).1, (u7 31 (by omega)).1, f6_2, (u5 94 (by omega)).1, (u4 94 (by omega)).1, (u3 94 (by omega)).1, (u2 94 (by omega)).1, (u1 94 (by omega)).1, (u0 94 (by omega)).1]), (by show I9 35 0 = I 98 0; rw [(u8 35 (by omega)).1, f7_0, (u6 98 (by omega)).1, (u5 98 (by omega)).1, (u4 98 (by omega)).1, (u3 98 (by omega)).1, (u2 98 (by omega)).1, (u1 98 (by omega)).1, (u0 98 (by omega)).1]), (by show I9 40 0 = I 103 0; rw [f8_0, (u7 103 (by omega)).1, (u6 103 (by omega)).1, (u5 103 (by omega)).1, (u4 103 (by omega)).1, (u3 103 (by omega)).1, (u2 103 (by omega)).1, (u1 103 (by omega)).1, (u0 103 (by omega)).1]), (by show I9 40 1 = I 103 1; rw [f8_1, (u7 103 (by omega)).1, (u6 103 (by omega)).1, (u5 103 (by omega)).1, (u4 103 (by omega)).1, (u3 103 (by omega)).1, (u2 103 (by omega)).1, (u1 103 (by omega)).1, (u0 103 (by omega)).1]), (by show J9 31 0 = J 94 0; rw [(u8 31 (by omega)).2, (u7 31 (by omega)).2, f6_3, (u5 94 (by omega)).2, (u4 94 (by omega)).2, (u3 94 (by omega)).2, (u2 94 (by omega)).2, (u1 94 (by omega)).2, (u0 94 (by omega)).2])⟩, (fun k k0 k1 => ⟨(by show I9 3 k = I 66 k; rw [(u8 3 (by omega)).1, (u7 3 (by omega)).1, (u6 3 (by omega)).1, (u5 3 (by omega)).1, (u4 3 (by omega)).1, (u3 3 (by omega)).1, (u2 3 (by omega)).1, f1_1 k k0 (by omega), (u0 66 (by omega)).1]), (by show I9 4 k = I 67 k; rw [(u8 4 (by omega)).1, (u7 4 (by omega)).1, (u6 4 (by omega)).1, (u5 4 (by omega)).1, (u4 4 (by omega)).1, (u3 4 (by omega)).1, (u2 4 (by omega)).1, f1_2 k k0 (by omega), (u0 67 (by omega)).1]), (by show I9 5 k = I 68 k; rw [(u8 5 (by omega)).1, (u7 5 (by omega)).1, (u6 5 (by omega)).1, (u5 5 (by omega)).1, (u4 5 (by omega)).1, (u3 5 (by omega)).1, (u2 5 (by omega)).1, f1_3 k k0 (by omega), (u0 68 (by omega)).1]), (by show I9 6 k = I 69 k; rw [(u8 6 (by omega)).1, (u7 6 (by omega)).1, (u6 6 (by omega)).1, (u5 6 (by omega)).1, (u4 6 (by omega)).1, (u3 6 (by omega)).1, (u2 6 (by omega)).1, f1_4 k k0 (by omega), (u0 69 (by omega)).1]), (by show I9 7 k = I 70 k; rw [(u8 7 (by omega)).1, (u7 7 (by omega)).1, (u6 7 (by omega)).1, (u5 7 (by omega)).1, (u4 7 (by omega)).1, (u3 7 (by omega)).1, (u2 7 (by omega)).1, f1_5 k k0 (by omega), (u0 70 (by omega)).1]), (by show I9 8 k = I 71 k; rw [(u8 8 (by omega)).1, (u7 8 (by omega)).1, (u6 8 (by omega)).1, (u5 8 (by omega)).1, (u4 8 (by omega)).1, (u3 8 (by omega)).1, (u2 8 (by omega)).1, f1_6 k k0 (by omega), (u0 71 (by omega)).1])⟩), (fun k k0 k1 => (by show I9 11 k = I 74 k; rw [(u8 11 (by omega)).1, (u7 11 (by omega)).1, (u6 11 (by omega)).1, (u5 11 (by omega)).1, (u4 11 (by omega)).1, f3_1 k k0 (by omega), (u2 74 (by omega)).1, (u1 74 (by omega)).1, (u0 74 (by omega)).1])), (fun k k0 k1 => (by show I9 12 k = I 75 k; rw [(u8 12 (by omega)).1, (u7 12 (by omega)).1, (u6 12 (by omega)).1, (u5 12 (by omega)).1, (u4 12 (by omega)).1, f3_2 k k0 (by omega), (u2 75 (by omega)).1, (u1 75 (by omega)).1, (u0 75 (by omega)).1])), (fun k k0 k1 => ⟨(by show I9 13 k = I 76 k; rw [(u8 13 (by omega)).1, (u7 13 (by omega)).1, (u6 13 (by omega)).1, (u5 13 (by omega)).1, f4_0 k k0 (by omega), (u3 76 (by omega)).1, (u2 76 (by omega)).1, (u1 76 (by omega)).1, (u0 76 (by omega)).1]), (by show I9 16 k = I 79 k; rw [(u8 16 (by omega)).1, (u7 16 (by omega)).1, (u6 16 (by omega)).1, (u5 16 (by omega)).1, f4_3 k k0 (by omega), (u3 79 (by omega)).1, (u2 79 (by omega)).1, (u1 79 (by omega)).1, (u0 79 (by omega)).1]), (by show I9 17 k = I 80 k; rw [(u8 17 (by omega)).1, (u7 17 (by omega)).1, (u6 17 (by omega)).1, (u5 17 (by omega)).1, f4_4 k k0 (by omega), (u3 80 (by omega)).1, (u2 80 (by omega)).1, (u1 80 (by omega)).1, (u0 80 (by omega)).1]), (by show I9 18 k = I 81 k; rw [(u8 18 (by omega)).1, (u7 18 (by omega)).1, (u6 18 (by omega)).1, (u5 18 (by omega)).1, f4_5 k k0 (by omega), (u3 81 (by omega)).1, (u2 81 (by omega)).1, (u1 81 (by omega)).1, (u0 81 (by omega)).1])⟩), (fun k k0 k1 => ⟨(by show I9 14 k = I 77 k; rw [(u8 14 (by omega)).1, (u7 14 (by omega)).1, (u6 14 (by omega)).1, (u5 14 (by omega)).1, f4_1 k k0 (by omega), (u3 77 (by omega)).1, (u2 77 (by omega)).1, (u1 77 (by omega)).1, (u0 77 (by omega)).1]), (by show I9 15 k = I 78 k; rw [(u8 15 (by omega)).1, (u7 15 (by omega)).1, (u6 15 (by omega)).1, (u5 15 (by omega)).1, f4_2 k k0 (by omega), (u3 78 (by omega)).1, (u2 78 (by omega)).1, (u1 78 (by omega)).1, (u0 78 (by omega)).1])⟩), (fun k k0 k1 => ⟨(by show I9 21 k = I 84 k; rw [(u8 21 (by omega)).1, (u7 21 (by omega)).1, (u6 21 (by omega)).1, f5_1 k k0 (by omega), (u4 84 (by omega)).1, (u3 84 (by omega)).1, (u2 84 (by omega)).1, (u1 84 (by omega)).1, (u0 84 (by omega)).1]), (by show I9 22 k = I 85 k; rw [(u8 22 (by omega)).1, (u7 22 (by omega)).1, (u6 22 (by omega)).1, f5_2 k k0 (by omega), (u4 85 (by omega)).1, (u3 85 (by omega)).1, (u2 85 (by omega)).1, (u1 85 (by omega)).1, (u0 85 (by omega)).1]), (by show I9 23 k = I 86 k; rw [(u8 23 (by omega)).1, (u7 23 (by omega)).1, (u6 23 (by omega)).1, f5_3 k k0 (by omega), (u4 86 (by omega)).1, (u3 86 (by omega)).1, (u2 86 (by omega)).1, (u1 86 (by omega)).1, (u0 86 (by omega)).1]), (by show I9 24 k = I 87 k; rw [(u8 24 (by omega)).1, (u7 24 (by omega)).1, (u6 24 (by omega)).1, f5_4 k k0 (by omega), (u4 87 (by omega)).1, (u3 87 (by omega)).1, (u2 87 (by omega)).1, (u1 87 (by omega)).1, (u0 87 (by omega)).1]), (by show J9 25 k = J 88 k; rw [(u8 25 (by omega)).2, (u7 25 (by omega)).2, (u6 25 (by omega)).2, f5_10 k k0 (by omega), (u4 88 (by omega)).2, (u3 88 (by omega)).2, (u2 88 (by omega)).2, (u1 88 (by omega)).2, (u0 88 (by omega)).2]), (by show I9 26 k = I 89 k; rw [(u8 26 (by omega)).1, (u7 26 (by omega)).1, (u6 26 (by omega)).1, f5_5 k k0 (by omega), (u4 89 (by omega)).1, (u3 89 (by omega)).1, (u2 89 (by omega)).1, (u1 89 (by omega)).1, (u0 89 (by omega)).1]), (by show I9 27 k = I 90 k; rw [(u8 27 (by omega)).1, (u7 27 (by omega)).1, (u6 27 (by omega)).1, f5_6 k k0 (by omega), (u4 90 (by omega)).1, (u3 90 (by omega)).1, (u2 90 (by omega)).1, (u1 90 (by omega)).1, (u0 90 (by omega)).1]), (by show I9 28 k = I 91 k; rw [(u8 28 (by omega)).1, (u7 28 (by omega)).1, (u6 28 (by omega)).1, f5_7 k k0 (by omega), (u4 91 (by omega)).1, (u3 91 (by omega)).1, (u2 91 (by omega)).1, (u1 91 (by omega)).1, (u0 91 (by omega)).1]), (by show I9 29 k = I 92 k; rw [(u8 29 (by omega)).1, (u7 29 (by omega)).1, (u6 29 (by omega)).1, f5_8 k k0 (by omega), (u4 92 (by omega)).1, (u3 92 (by omega)).1, (u2 92 (by omega)).1, (u1 92 (by omega)).1, (u0 92 (by omega)).1]), (by show I9 30 k = I 93 k; rw [(u8 30 (by omega)).1, (u7 30 (by omega)).1, (u6 30 (by omega)).1, f5_9 k k0 (by omega), (u4 93 (by omega)).1, (u3 93 (by omega)).1, (u2 93 (by omega)).1, (u1 93 (by omega)).1, (u0 93 (by omega)).1])⟩), (fun k k0 k1 => ⟨(by show I9 36 k = I 99 k; rw [(u8 36 (by omega)).1, f7_1 k k0 (by omega), (u6 99 (by omega)).1, (u5 99 (by omega)).1, (u4 99 (by omega)).1, (u3 99 (by omega)).1, (u2 99 (by omega)).1, (u1 99 (by omega)).1, (u0 99 (by omega)).1]), (by show I9 37 k = I 100 k; rw [(u8 37 (by omega)).1, f7_2 k k0 (by omega), (u6 100 (by omega)).1, (u5 100 (by omega)).1, (u4 100 (by omega)).1, (u3 100 (by omega)).1, (u2 100 (by omega)).1, (u1 100 (by omega)).1, (u0 100 (by omega)).1]), (by show I9 38 k = I 101 k; rw [(u8 38 (by omega)).1, f7_3 k k0 (by omega), (u6 101 (by omega)).1, (u5 101 (by omega)).1, (u4 101 (by omega)).1, (u3 101 (by omega)).1, (u2 101 (by omega)).1, (u1 101 (by omega)).1, (u0 101 (by omega)).1]), (by show I9 39 k = I 102 k; rw [(u8 39 (by omega)).1, f7_4 k k0 (by omega), (u6 102 (by omega)).1, (u5 102 (by omega)).1, (u4 102 (by omega)).1, (u3 102 (by omega)).1, (u2 102 (by omega)).1, (u1 102 (by omega)).1, (u0 102 (by omega)).1])⟩), (fun k k0 k1 => (by show J9 32 k = J 95 k; rw [(u8 32 (by omega)).2, (u7 32 (by omega)).2, f6_5 k k0 (by omega), (u5 95 (by omega)).2, (u4 95 (by omega)).2, (u3 95 (by omega)).2, (u2 95 (by omega)).2, (u1 95 (by omega)).2, (u0 95 (by omega)).2])), (fun k k0 k1 => ⟨(by show I9 33 k = I 96 k; rw [(u8 33 (by omega)).1, (u7 33 (by omega)).1, f6_4 k k0 (by omega), (u5 96 (by omega)).1, (u4 96 (by omega)).1, (u3 96 (by omega)).1, (u2 96 (by omega)).1, (u1 96 (by omega)).1, (u0 96 (by omega)).1]), (by show I9 41 k = I 104 k; rw [f8_2 k k0 (by omega), (u7 104 (by omega)).1, (u6 104 (by omega)).1, (u5 104 (by omega)).1, (u4 104 (by omega)).1, (u3 104 (by omega)).1, (u2 104 (by omega)).1, (u1 104 (by omega)).1, (u0 104 (by omega)).1]), (by show I9 42 k = I 105 k; rw [f8_3 k k0 (by omega), (u7 105 (by omega)).1, (u6 105 (by omega)).1, (u5 105 (by omega)).1, (u4 105 (by omega)).1, (u3 105 (by omega)).1, (u2 105 (by omega)).1, (u1 105 (by omega)).1, (u0 105 (by omega)).1]), (by show I9 43 k = I 106 k; rw [f8_4 k k0 (by omega), (u7 106 (by omega)).1, (u6 106 (by omega)).1, (u5 106 (by omega)).1, (u4 106 (by omega)).1, (u3 106 (by omega)).1, (u2 106 (by omega)).1, (u1 106 (by omega)).1, (u0 106 (by omega)).1]), (by show I9 44 k = I 107 k; rw [f8_5 k k0 (by omega), (u7 107 (by omega)).1, (u6 107 (by omega)).1, (u5 107 (by omega)).1, (u4 107 (by omega)).1, (u3 107 (by omega)).1, (u2 107 (by omega)).1, (u1 107 (by omega)).1, (u0 107 (by omega)).1])⟩)⟩
  · rw [(u8 a (by omega)).1, (u7 a (by omega)).1, (u6 a (by omega)).1, (u5 a (by omega)).1, (u4 a (by omega)).1, (u3 a (by omega)).1, (u2 a (by omega)).1, (u1 a (by omega)).1, (u0 a (by omega)).1]
  · rw [(u8 a (by omega)).2, (u7 a (by omega)).2, (u6 a (by omega)).2, (u5 a (by omega)).2, (u4 a (by omega)).2, (u3 a (by omega)).2, (u2 a (by omega)).2, (u1 a (by omega)).2, (u0 a (by omega)).2]
theorem cpi_4 (hG : GW true G) (k : ∀ I' J', (∀ a, ¬ (65 ≤ a ∧ a ≤ 71) → I' a = I a ∧ J' a = J a) → (I' 65 0 = I 2 0) → (∀ k, 0 ≤ k → k < 12 → I' 66 k = I 3 k) → (∀ k, 0 ≤ k → k < 12 → I' 67 k = I 4 k) → (∀ k, 0 ≤ k → k < 12 → I' 68 k = I 5 k) → (∀ k, 0 ≤ k → k < 12 → I' 69 k = I 6 k) → (∀ k, 0 ≤ k → k < 12 → I' 70 k = I 7 k) → (∀ k, 0 ≤ k → k < 12 → I' 71 k = I 8 k) → Q none G I' J') : At d 38 0 [some (vR 65), some (vR 2)] [] G I J Q := by
  refine b_X4_copyFrom_0 hG (k _ _ (fun a ha => ⟨?_, ?_⟩) ?_ ?_ ?_ ?_ ?_ ?_ ?_)
  · rw [mcpy_o (by omega), mcpy_o (by omega), mcpy_o (by omega), mcpy_o (by omega), mcpy_o (by omega), mcpy_o (by omega), mset_o (by omega)]
  · rfl
  · rw [mcpy_o (by decide), mcpy_o (by decide), mcpy_o (by decide), mcpy_o (by decide), mcpy_o (by decide), mcpy_o (by decide), mset_at]
  · intro k k0 k1
    rw [mcpy_o (by decide), mcpy_o (by decide), mcpy_o (by decide), mcpy_o (by decide), mcpy_o (by decide), mcpy_at k0 k1, mset_o (by decide)]
  · intro k k0 k1
    rw [mcpy_o (by decide), mcpy_o (by decide), mcpy_o (by decide), mcpy_o (by decide), mcpy_at k0 k1, mcpy_o (by decide), mset_o (by decide)]
  · intro k k0 k1
    rw [mcpy_o (by decide), mcpy_o (by decide), mcpy_o (by decide), mcpy_at k0 k1, mcpy_o (by decide), mcpy_o (by decide), mset_o (by decide)]
  · intro k k0 k1
    rw [mcpy_o (by decide), mcpy_o (by decide), mcpy_at k0 k1, mcpy_o (by decide), mcpy_o (by decide), mcpy_o (by decide), mset_o (by decide)]
  · intro k k0 k1
    rw [mcpy_o (by decide), mcpy_at k0 k1, mcpy_o (by decide), mcpy_o (by decide), mcpy_o (by decide), mcpy_o (by decide), mset_o (by decide)]
  · intro k k0 k1
    rw [mcpy_at k0 k1, mcpy_o (by decide), mcpy_o (by decide), mcpy_o (by decide), mcpy_o (by decide), mcpy_o (by decide), mset_o (by decide)]
theorem cpi_8 (hG : GW true G) (k : ∀ I' J', (∀ a, ¬ (73 ≤ a ∧ a ≤ 75) → I' a = I a ∧ J' a = J a) → (I' 73 0 = I 10 0) → (∀ k, 0 ≤ k → k < 1320 → I' 74 k = I 11 k) → (∀ k, 0 ≤ k → k < 120 → I' 75 k = I 12 k) → Q none G I' J') : At d 74 0 [some (vR 73), some (vR 10)] [] G I J Q := by
  refine b_X8_copyFrom_0 hG (k _ _ (fun a ha => ⟨?_, ?_⟩) ?_ ?_ ?_)
  · rw [mcpy_o (by omega), mcpy_o (by omega), mset_o (by omega)]
  · rfl
  · rw [mcpy_o (by decide), mcpy_o (by decide), mset_at]
  · intro k k0 k1
    rw [mcpy_o (by decide), mcpy_at k0 k1, mset_o (by decide)]
  · intro k k0 k1
    rw [mcpy_at k0 k1, mcpy_o (by decide), mset_o (by decide)]
theorem cpi_7b (hG : GW true G) (k : ∀ I' J', (∀ a, ¬ (76 ≤ a ∧ a ≤ 81) → I' a = I a ∧ J' a = J a) → (∀ k, 0 ≤ k → k < 88 → I' 76 k = I 13 k) → (∀ k, 0 ≤ k → k < 11 → I' 77 k = I 14 k) → (∀ k, 0 ≤ k → k < 11 → I' 78 k = I 15 k) → (∀ k, 0 ≤ k → k < 88 → I' 79 k = I 16 k) → (∀ k, 0 ≤ k → k < 88 → I' 80 k = I 17 k) → (∀ k, 0 ≤ k → k < 88 → I' 81 k = I 18 k) → Q none G I' J') : At d 62 19 [some (vR 72), some (vR 9)] [] G I J Q := by
  refine b_X7_copyFrom_19 hG (k _ _ (fun a ha => ⟨?_, ?_⟩) ?_ ?_ ?_ ?_ ?_ ?_)
  · rw [mcpy_o (by omega), mcpy_o (by omega), mcpy_o (by omega), mcpy_o (by omega), mcpy_o (by omega), mcpy_o (by omega)]
  · rfl
  · intro k k0 k1
    rw [mcpy_o (by decide), mcpy_o (by decide), mcpy_o (by decide), mcpy_o (by decide), mcpy_o (by decide), mcpy_at k0 k1]
  · intro k k0 k1
    rw [mcpy_o (by decide), mcpy_o (by decide), mcpy_o (by decide), mcpy_o (by decide), mcpy_at k0 k1, mcpy_o (by decide)]
  · intro k k0 k1
    rw [mcpy_o (by decide), mcpy_o (by decide), mcpy_o (by decide), mcpy_at k0 k1, mcpy_o (by decide), mcpy_o (by decide)]
  · intro k k0 k1
    rw [mcpy_o (by decide), mcpy_o (by decide), mcpy_at k0 k1, mcpy_o (by decide), mcpy_o (by decide), mcpy_o (by decide)]
  · intro k k0 k1
    rw [mcpy_o (by decide), mcpy_at k0 k1, mcpy_o (by decide), mcpy_o (by decide), mcpy_o (by decide), mcpy_o (by decide)]
  · intro k k0 k1
    rw [mcpy_at k0 k1, mcpy_o (by decide), mcpy_o (by decide), mcpy_o (by decide), mcpy_o (by decide), mcpy_o (by decide)]
theorem cpi_0 (hG : GW true G) (k : ∀ I' J', (∀ a, ¬ (83 ≤ a ∧ a ≤ 93) → I' a = I a ∧ J' a = J a) → (I' 83 0 = I 20 0) → (∀ k, 0 ≤ k → k < 60 → I' 84 k = I 21 k) → (∀ k, 0 ≤ k → k < 60 → I' 85 k = I 22 k) → (∀ k, 0 ≤ k → k < 60 → I' 86 k = I 23 k) → (∀ k, 0 ≤ k → k < 60 → I' 87 k = I 24 k) → (∀ k, 0 ≤ k → k < 60 → I' 89 k = I 26 k) → (∀ k, 0 ≤ k → k < 60 → I' 90 k = I 27 k) → (∀ k, 0 ≤ k → k < 60 → I' 91 k = I 28 k) → (∀ k, 0 ≤ k → k < 60 → I' 92 k = I 29 k) → (∀ k, 0 ≤ k → k < 60 → I' 93 k = I 30 k) → (∀ k, 0 ≤ k → k < 60 → J' 88 k = J 25 k) → Q none G I' J') : At d 2 0 [some (vR 83), some (vR 20)] [] G I J Q := by
  refine b_X0_copyFrom_0 hG (k _ _ (fun a ha => ⟨?_, ?_⟩) ?_ ?_ ?_ ?_ ?_ ?_ ?_ ?_ ?_ ?_ ?_)
  · rw [mcpy_o (by omega), mcpy_o (by omega), mcpy_o (by omega), mcpy_o (by omega), mcpy_o (by omega), mcpy_o (by omega), mcpy_o (by omega), mcpy_o (by omega), mcpy_o (by omega), mset_o (by omega)]
  · rw [mcpy_o (by omega)]
  · rw [mcpy_o (by decide), mcpy_o (by decide), mcpy_o (by decide), mcpy_o (by decide), mcpy_o (by decide), mcpy_o (by decide), mcpy_o (by decide), mcpy_o (by decide), mcpy_o (by decide), mset_at]
  · intro k k0 k1
    rw [mcpy_o (by decide), mcpy_o (by decide), mcpy_o (by decide), mcpy_o (by decide), mcpy_o (by decide), mcpy_o (by decide), mcpy_o (by decide), mcpy_o (by decide), mcpy_at k0 k1, mset_o (by decide)]
  · intro k k0 k1
    rw [mcpy_o (by decide), mcpy_o (by decide), mcpy_o (by decide), mcpy_o (by decide), mcpy_o (by decide), mcpy_o (by decide), mcpy_o (by decide), mcpy_at k0 k1, mcpy_o (by decide), mset_o (by decide)]
  · intro k k0 k1
    rw [mcpy_o (by decide), mcpy_o (by decide), mcpy_o (by decide), mcpy_o (by decide), mcpy_o (by decide), mcpy_o (by decide), mcpy_at k0 k1, mcpy_o (by decide), mcpy_o (by decide), mset_o (by decide)]
  · intro k k0 k1
    rw [mcpy_o (by decide), mcpy_o (by decide), mcpy_o (by decide), mcpy_o (by decide), mcpy_o (by decide), mcpy_at k0 k1, mcpy_o (by decide), mcpy_o (by decide), mcpy_o (by decide), mset_o (by decide)]
  · intro k k0 k1
    rw [mcpy_o (by decide), mcpy_o (by decide), mcpy_o (by decide), mcpy_o (by decide), mcpy_at k0 k1, mcpy_o (by decide), mcpy_o (by decide), mcpy_o (by decide), mcpy_o (by decide), mset_o (by decide)]
  · intro k k0 k1
    rw [mcpy_o (by decide), mcpy_o (by decide), mcpy_o (by decide), mcpy_at k0 k1, mcpy_o (by decide), mcpy_o (by decide), mcpy_o (by decide), mcpy_o (by decide), mcpy_o (by decide), mset_o (by decide)]
  · intro k k0 k1
    rw [mcpy_o (by decide), mcpy_o (by decide), mcpy_at k0 k1, mcpy_o (by decide), mcpy_o (by decide), mcpy_o (by decide), mcpy_o (by decide), mcpy_o (by decide), mcpy_o (by decide), mset_o (by decide)]
  · intro k k0 k1
    rw [mcpy_o (by decide), mcpy_at k0 k1, mcpy_o (by decide), mcpy_o (by decide), mcpy_o (by decide), mcpy_o (by decide), mcpy_o (by decide), mcpy_o (by decide), mcpy_o (by decide), mset_o (by decide)]
  · intro k k0 k1
    rw [mcpy_at k0 k1, mcpy_o (by decide), mcpy_o (by decide), mcpy_o (by decide), mcpy_o (by decide), mcpy_o (by decide), mcpy_o (by decide), mcpy_o (by decide), mcpy_o (by decide), mset_o (by decide)]
  · intro k k0 k1
    rw [mcpy_at k0 k1]
theorem cpi_9 (hG : GW true G) (k : ∀ I' J', (∀ a, ¬ (94 ≤ a ∧ a ≤ 96) → I' a = I a ∧ J' a = J a) → (I' 94 1 = I 31 1) → (I' 94 2 = I 31 2) → (I' 94 5 = I 31 5) → (J' 94 0 = J 31 0) → (∀ k, 0 ≤ k → k < 10 → I' 96 k = I 33 k) → (∀ k, 0 ≤ k → k < 20 → J' 95 k = J 32 k) → Q none G I' J') : At d 89 0 [some (vR 94), some (vR 31)] [] G I J Q := by
  refine b_X9_copyFrom_0 hG (k _ _ (fun a ha => ⟨?_, ?_⟩) ?_ ?_ ?_ ?_ ?_ ?_)
  · rw [mcpy_o (by omega), mset_o (by omega), mset_o (by omega), mset_o (by omega)]
  · rw [mcpy_o (by omega), mset_o (by omega)]
  · rw [mcpy_o (by decide), mset_n (by decide), mset_n (by decide), mset_at]
  · rw [mcpy_o (by decide), mset_n (by decide), mset_at]
  · rw [mcpy_o (by decide), mset_at]
  · rw [mcpy_o (by decide), mset_at]
  · intro k k0 k1
    rw [mcpy_at k0 k1, mset_o (by decide), mset_o (by decide), mset_o (by decide)]
  · intro k k0 k1
    rw [mcpy_at k0 k1, mset_o (by decide)]
theorem cpi_5 (hG : GW true G) (k : ∀ I' J', (∀ a, ¬ (98 ≤ a ∧ a ≤ 102) → I' a = I a ∧ J' a = J a) → (I' 98 0 = I 35 0) → (∀ k, 0 ≤ k → k < 60 → I' 99 k = I 36 k) → (∀ k, 0 ≤ k → k < 60 → I' 100 k = I 37 k) → (∀ k, 0 ≤ k → k < 60 → I' 101 k = I 38 k) → (∀ k, 0 ≤ k → k < 60 → I' 102 k = I 39 k) → Q none G I' J') : At d 52 0 [some (vR 98), some (vR 35)] [] G I J Q := by
  refine b_X5_copyFrom_0 hG (k _ _ (fun a ha => ⟨?_, ?_⟩) ?_ ?_ ?_ ?_ ?_)
  · rw [mcpy_o (by omega), mcpy_o (by omega), mcpy_o (by omega), mcpy_o (by omega), mset_o (by omega)]
  · rfl
  · rw [mcpy_o (by decide), mcpy_o (by decide), mcpy_o (by decide), mcpy_o (by decide), mset_at]
  · intro k k0 k1
    rw [mcpy_o (by decide), mcpy_o (by decide), mcpy_o (by decide), mcpy_at k0 k1, mset_o (by decide)]
  · intro k k0 k1
    rw [mcpy_o (by decide), mcpy_o (by decide), mcpy_at k0 k1, mcpy_o (by decide), mset_o (by decide)]
  · intro k k0 k1
    rw [mcpy_o (by decide), mcpy_at k0 k1, mcpy_o (by decide), mcpy_o (by decide), mset_o (by decide)]
  · intro k k0 k1
    rw [mcpy_at k0 k1, mcpy_o (by decide), mcpy_o (by decide), mcpy_o (by decide), mset_o (by decide)]
theorem cpi_6 (hG : GW true G) (k : ∀ I' J', (∀ a, ¬ (103 ≤ a ∧ a ≤ 107) → I' a = I a ∧ J' a = J a) → (I' 103 0 = I 40 0) → (I' 103 1 = I 40 1) → (∀ k, 0 ≤ k → k < 10 → I' 104 k = I 41 k) → (∀ k, 0 ≤ k → k < 10 → I' 105 k = I 42 k) → (∀ k, 0 ≤ k → k < 10 → I' 106 k = I 43 k) → (∀ k, 0 ≤ k → k < 10 → I' 107 k = I 44 k) → Q none G I' J') : At d 57 0 [some (vR 103), some (vR 40)] [] G I J Q := by
  refine b_X6_copyFrom_0 hG (k _ _ (fun a ha => ⟨?_, ?_⟩) ?_ ?_ ?_ ?_ ?_ ?_)
  · rw [mcpy_o (by omega), mcpy_o (by omega), mcpy_o (by omega), mcpy_o (by omega), mset_o (by omega), mset_o (by omega)]
  · rfl
  · rw [mcpy_o (by decide), mcpy_o (by decide), mcpy_o (by decide), mcpy_o (by decide), mset_n (by decide), mset_at]
  · rw [mcpy_o (by decide), mcpy_o (by decide), mcpy_o (by decide), mcpy_o (by decide), mset_at]
  · intro k k0 k1
    rw [mcpy_o (by decide), mcpy_o (by decide), mcpy_o (by decide), mcpy_at k0 k1, mset_o (by decide), mset_o (by decide)]
  · intro k k0 k1
    rw [mcpy_o (by decide), mcpy_o (by decide), mcpy_at k0 k1, mcpy_o (by decide), mset_o (by decide), mset_o (by decide)]
  · intro k k0 k1
    rw [mcpy_o (by decide), mcpy_at k0 k1, mcpy_o (by decide), mcpy_o (by decide), mset_o (by decide), mset_o (by decide)]
  · intro k k0 k1
    rw [mcpy_at k0 k1, mcpy_o (by decide), mcpy_o (by decide), mcpy_o (by decide), mset_o (by decide), mset_o (by decide)]
theorem sp_cpi (hG : GW true G) (k : ∀ I' J', PT I (sh I') J (sh J') → (∀ a, ¬ (64 ≤ a ∧ a ≤ 107) → I' a = I a ∧ J' a = J a) → Q none G I' J') : At (d + 2) 99 0 [some (vR 64), some (vR 1)] [] G I J Q := by
  refine b_X10_copyFrom_0 hG ?_
  generalize hI1 : mset I 64 0 (I 1 0) = I1
  have u0 : ∀ a, ¬ (64 ≤ a ∧ a ≤ 64) → I1 a = I a ∧ J a = J a := fun a ha => ⟨by rw [← hI1, mset_o (by omega)], rfl⟩
  have e0 : I1 64 0 = I 1 0 := by rw [← hI1, mset_at]
  refine cpi_4 hG (fun I2 J2 u1 f1_0 f1_1 f1_2 f1_3 f1_4 f1_5 f1_6 => b_X10_copyFrom_19 hG (b_X7_copyFrom_0 hG ?_))
  generalize hI3 : mset I2 72 0 (I2 9 0) = I3
  have u2 : ∀ a, ¬ (72 ≤ a ∧ a ≤ 72) → I3 a = I2 a ∧ J2 a = J2 a := fun a ha => ⟨by rw [← hI3, mset_o (by omega)], rfl⟩
  have e2 : I3 72 0 = I2 9 0 := by rw [← hI3, mset_at]
  refine cpi_8 hG (fun I4 J4 u3 f3_0 f3_1 f3_2 => cpi_7b hG (fun I5 J5 u4 f4_0 f4_1 f4_2 f4_3 f4_4 f4_5 => b_X10_copyFrom_30 hG (cpi_0 hG (fun I6 J6 u5 f5_0 f5_1 f5_2 f5_3 f5_4 f5_5 f5_6 f5_7 f5_8 f5_9 f5_10 => b_X10_copyFrom_41 hG (cpi_9 hG (fun I7 J7 u6 f6_0 f6_1 f6_2 f6_3 f6_4 f6_5 => b_X10_copyFrom_52 hG (cpi_5 hG (fun I8 J8 u7 f7_0 f7_1 f7_2 f7_3 f7_4 => b_X10_copyFrom_63 hG (cpi_6 hG (fun I9 J9 u8 f8_0 f8_1 f8_2 f8_3 f8_4 f8_5 => b_X10_copyFrom_74 hG (k I9 J9 ?_ (fun a ha => ⟨?_, ?_⟩))))))))))))
  · exact ⟨⟨(by show I9 64 0 = I 1 0; rw [(u8 64 (by omega)).1, (u7 64 (by omega)).1, (u6 64 (by omega)).1, (u5 64 (by omega)).1, (u4 64 (by omega)).1, (u3 64 (by omega)).1, (u2 64 (by omega)).1, (u1 64 (by omega)).1, e0]), (by show I9 65 0 = I 2 0; rw [(u8 65 (by omega)).1, (u7 65 (by omega)).1, (u6 65 (by omega)).1, (u5 65 (by omega)).1, (u4 65 (by omega)).1, (u3 65 (by omega)).1, (u2 65 (by omega)).1, f1_0, (u0 2 (by omega)).1]), (by show I9 72 0 = I 9 0; rw [(u8 72 (by omega)).1, (u7 72 (by omega)).1, (u6 72 (by omega)).1, (u5 72 (by omega)).1, (u4 72 (by omega)).1, (u3 72 (by omega)).1, e2, (u1 9 (by omega)).1, (u0 9 (by omega)).1]), (by show I9 73 0 = I 10 0; rw [(u8 73 (by omega)).1, (u7 73 (by omega)).1, (u6 73 (by omega)).1, (u5 73 (by omega)).1, (u4 73 (by omega)).1, f3_0, (u2 10 (by omega)).1, (u1 10 (by omega)).1, (u0 10 (by omega)).1]), (by show I9 83 0 = I 20 0; rw [(u8 83 (by omega)).1, (u7 83 (by omega)).1, (u6 83 (by omega)).1, f5_0, (u4 20 (by omega)).1, (u3 20 (by omega)).1, (u2 20 (by omega)).1, (u1 20 (by omega)).1, (u0 20 (by omega)).1]), (by show I9 94 1 = I 31 1; rw [(u8 94 (by omega)).1, (u7 94 (by omega)).1, f6_0, (u5 31 (by omega)).1, (u4 31 (by omega)).1, (u3 31 (by omega)).1, (u2 31 (by omega)).1, (u1 31 (by omega)).1, (u0 31 (by omega)).1]), (by show I9 94 2 = I 31 2; rw [(u8 94 (by omega)).1, (u7 94 (by omega)).1, f6_1, (u5 31 (by omega)).1, (u4 31 (by omega)).1, (u3 31 (by omega)).1, (u2 31 (by omega)).1, (u1 31 (by omega)).1, (u0 31 (by omega)).1]), (by show I9 94 5 = I 31 5; rw [(u8 94 (by omega)).1, (u7 94 (by omega)).1, f6_2, (u5 31 (by omega)).1, (u4 31 (by omega)).1, (u3 31 (by omega)).1, (u2 31 (by omega)).1, (u1 31 (by omega)).1, (u0 31 (by omega)).1]), (by show I9 98 0 = I 35 0; rw [(u8 98 (by omega)).1, f7_0, (u6 35 (by omega)).1, (u5 35 (by omega)).1, (u4 35 (by omega)).1, (u3 35 (by omega)).1, (u2 35 (by omega)).1, (u1 35 (by omega)).1, (u0 35 (by omega)).1]), (by show I9 103 0 = I 40 0; rw [f8_0, (u7 40 (by omega)).1, (u6 40 (by omega)).1, (u5 40 (by omega)).1, (u4 40 (by omega)).1, (u3 40 (by omega)).1, (u2 40 (by omega)).1, (u1 40 (by omega)).1, (u0 40 (by omega)).1]), (by show I9 103 1 = I 40 1; rw [f8_1, (u7 40 (by omega)).1, (u6 40 (by omega)).1, (u5 40 (by omega)).1, (u4 40 (by omega)).1, (u3 40 (by omega)).1, (u2 40 (by omega)).1, (u1 40 (by omega)).1, (u0 40 (by omega)).1]), (by show J9 94 0 = J 31 0; rw [(u8 94 (by omega)).2, (u7 94 (by omega)).2, f6_3, (u5 31 (by omega)).2, (u4 31 (by omega)).2, (u3 31 (by omega)).2, (u2 31 (by omega)).2, (u1 31 (by omega)).2, (u0 31 (by omega)).2])⟩, (fun k k0 k1 => ⟨(by show I9 66 k = I 3 k; rw [(u8 66 (by omega)).1, (u7 66 (by omega)).1, (u6 66 (by omega)).1, (u5 66 (by omega)).1, (u4 66 (by omega)).1, (u3 66 (by omega)).1, (u2 66 (by omega)).1, f1_1 k k0 (by omega), (u0 3 (by omega)).1]), (by show I9 67 k = I 4 k; rw [(u8 67 (by omega)).1, (u7 67 (by omega)).1, (u6 67 (by omega)).1, (u5 67 (by omega)).1, (u4 67 (by omega)).1, (u3 67 (by omega)).1, (u2 67 (by omega)).1, f1_2 k k0 (by omega), (u0 4 (by omega)).1]), (by show I9 68 k = I 5 k; rw [(u8 68 (by omega)).1, (u7 68 (by omega)).1, (u6 68 (by omega)).1, (u5 68 (by omega)).1, (u4 68 (by omega)).1, (u3 68 (by omega)).1, (u2 68 (by omega)).1, f1_3 k k0 (by omega), (u0 5 (by omega)).1]), (by show I9 69 k = I 6 k; rw [(u8 69 (by omega)).1, (u7 69 (by omega)).1, (u6 69 (by omega)).1, (u5 69 (by omega)).1, (u4 69 (by omega)).1, (u3 69 (by omega)).1, (u2 69 (by omega)).1, f1_4 k k0 (by omega), (u0 6 (by omega)).1]), (by show I9 70 k = I 7 k; rw [(u8 70 (by omega)).1, (u7 70 (by omega)).1, (u6 70 (by omega)).1, (u5 70 (by omega)).1, (u4 70 (by omega)).1, (u3 70 (by omega)).1, (u2 70 (by omega)).1, f1_5 k k0 (by omega), (u0 7 (by omega)).1]), (by show I9 71 k = I 8 k; rw [(u8 71 (by omega)).1, (u7 71 (by omega)).1, (u6 71 (by omega)).1, (u5 71 (by omega)).1, (u4 71 (by omega)).1, (u3 71 (by omega)).1, (u2 71 (by omega)).1, f1_6 k k0 (by omega), (u0 8 (by omega)).1])⟩), (fun k k0 k1 => (by show I9 74 k = I 11 k; rw [(u8 74 (by omega)).1, (u7 74 (by omega)).1, (u6 74 (by omega)).1, (u5 74 (by omega)).1, (u4 74 (by omega)).1, f3_1 k k0 (by omega), (u2 11 (by omega)).1, (u1 11 (by omega)).1, (u0 11 (by omega)).1])), (fun k k0 k1 => (by show I9 75 k = I 12 k; rw [(u8 75 (by omega)).1, (u7 75 (by omega)).1, (u6 75 (by omega)).1, (u5 75 (by omega)).1, (u4 75 (by omega)).1, f3_2 k k0 (by omega), (u2 12 (by omega)).1, (u1 12 (by omega)).1, (u0 12 (by omega)).1])), (fun k k0 k1 => ⟨(by show I9 76 k = I 13 k; rw [(u8 76 (by omega)).1, (u7 76 (by omega)).1, (u6 76 (by omega)).1, (u5 76 (by omega)).1, f4_0 k k0 (by omega), (u3 13 (by omega)).1, (u2 13 (by omega)).1, (u1 13 (by omega)).1, (u0 13 (by omega)).1]), (by show I9 79 k = I 16 k; rw [(u8 79 (by omega)).1, (u7 79 (by omega)).1, (u6 79 (by omega)).1, (u5 79 (by omega)).1, f4_3 k k0 (by omega), (u3 16 (by omega)).1, (u2 16 (by omega)).1, (u1 16 (by omega)).1, (u0 16 (by omega)).1]), (by show I9 80 k = I 17 k; rw [(u8 80 (by omega)).1, (u7 80 (by omega)).1, (u6 80 (by omega)).1, (u5 80 (by omega)).1, f4_4 k k0 (by omega), (u3 17 (by omega)).1, (u2 17 (by omega)).1, (u1 17 (by omega)).1, (u0 17 (by omega)).1]), (by show I9 81 k = I 18 k; rw [(u8 81 (by omega)).1, (u7 81 (by omega)).1, (u6 81 (by omega)).1, (u5 81 (by omega)).1, f4_5 k k0 (by omega), (u3 18 (by omega)).1, (u2 18 (by omega)).1, (u1 18 (by omega)).1, (u0 18 (by omega)).1])⟩), (fun k k0 k1 => ⟨(by show I9 77 k = I 14 k; rw [(u8 77 (by omega)).1, (u7 77 (by omega)).1, (u6 77 (by omega)).1, (u5 77 (by omega)).1, f4_1 k k0 (by omega), (u3 14 (by omega)).1, (u2 14 (by omega)).1, (u1 14 (by omega)).1, (u0 14 (by omega)).1]), (by show I9 78 k = I 15 k; rw [(u8 78 (by omega)).1, (u7 78 (by omega)).1, (u6 78 (by omega)).1, (u5 78 (by omega)).1, f4_2 k k0 (by omega), (u3 15 (by omega)).1, (u2 15 (by omega)).1, (u1 15 (by omega)).1, (u0 15 (by omega)).1])⟩), (fun k k0 k1 => ⟨(by show I9 84 k = I 21 k; rw [(u8 84 (by omega)).1, (u7 84 (by omega)).1, (u6 84 (by omega)).1, f5_1 k k0 (by omega), (u4 21 (by omega)).1, (u3 21 (by omega)).1, (u2 21 (by omega)).1, (u1 21 (by omega)).1, (u0 21 (by omega)).1]), (by show I9 85 k = I 22 k; rw [(u8 85 (by omega)).1, (u7 85 (by omega)).1, (u6 85 (by omega)).1, f5_2 k k0 (by omega), (u4 22 (by omega)).1, (u3 22 (by omega)).1, (u2 22 (by omega)).1, (u1 22 (by omega)).1, (u0 22 (by omega)).1]), (by show I9 86 k = I 23 k; rw [(u8 86 (by omega)).1, (u7 86 (by omega)).1, (u6 86 (by omega)).1, f5_3 k k0 (by omega), (u4 23 (by omega)).1, (u3 23 (by omega)).1, (u2 23 (by omega)).1, (u1 23 (by omega)).1, (u0 23 (by omega)).1]), (by show I9 87 k = I 24 k; rw [(u8 87 (by omega)).1, (u7 87 (by omega)).1, (u6 87 (by omega)).1, f5_4 k k0 (by omega), (u4 24 (by omega)).1, (u3 24 (by omega)).1, (u2 24 (by omega)).1, (u1 24 (by omega)).1, (u0 24 (by omega)).1]), (by show J9 88 k = J 25 k; rw [(u8 88 (by omega)).2, (u7 88 (by omega)).2, (u6 88 (by omega)).2, f5_10 k k0 (by omega), (u4 25 (by omega)).2, (u3 25 (by omega)).2, (u2 25 (by omega)).2, (u1 25 (by omega)).2, (u0 25 (by omega)).2]), (by show I9 89 k = I 26 k; rw [(u8 89 (by omega)).1, (u7 89 (by omega)).1, (u6 89 (by omega)).1, f5_5 k k0 (by omega), (u4 26 (by omega)).1, (u3 26 (by omega)).1, (u2 26 (by omega)).1, (u1 26 (by omega)).1, (u0 26 (by omega)).1]), (by show I9 90 k = I 27 k; rw [(u8 90 (by omega)).1, (u7 90 (by omega)).1, (u6 90 (by omega)).1, f5_6 k k0 (by omega), (u4 27 (by omega)).1, (u3 27 (by omega)).1, (u2 27 (by omega)).1, (u1 27 (by omega)).1, (u0 27 (by omega)).1]), (by show I9 91 k = I 28 k; rw [(u8 91 (by omega)).1, (u7 91 (by omega)).1, (u6 91 (by omega)).1, f5_7 k k0 (by omega), (u4 28 (by omega)).1, (u3 28 (by omega)).1, (u2 28 (by omega)).1, (u1 28 (by omega)).1, (u0 28 (by omega)).1]), (by show I9 92 k = I 29 k; rw [(u8 92 (by omega)).1, (u7 92 (by omega)).1, (u6 92 (by omega)).1, f5_8 k k0 (by omega), (u4 29 (by omega)).1, (u3 29 (by omega)).1, (u2 29 (by omega)).1, (u1 29 (by omega)).1, (u0 29 (by omega)).1]), (by show I9 93 k = I 30 k; rw [(u8 93 (by omega)).1, (u7 93 (by omega)).1, (u6 93 (by omega)).1, f5_9 k k0 (by omega), (u4 30 (by omega)).1, (u3 30 (by omega)).1, (u2 30 (by omega)).1, (u1 30 (by omega)).1, (u0 30 (by omega)).1])⟩), (fun k k0 k1 => ⟨(by show I9 99 k = I 36 k; rw [(u8 99 (by omega)).1, f7_1 k k0 (by omega), (u6 36 (by omega)).1, (u5 36 (by omega)).1, (u4 36 (by omega)).1, (u3 36 (by omega)).1, (u2 36 (by omega)).1, (u1 36 (by omega)).1, (u0 36 (by omega)).1]), (by show I9 100 k = I 37 k; rw [(u8 100 (by omega)).1, f7_2 k k0 (by omega), (u6 37 (by omega)).1, (u5 37 (by omega)).1, (u4 37 (by omega)).1, (u3 37 (by omega)).1, (u2 37 (by omega)).1, (u1 37 (by omega)).1, (u0 37 (by omega)).1]), (by show I9 101 k = I 38 k; rw [(u8 101 (by omega)).1, f7_3 k k0 (by omega), (u6 38 (by omega)).1, (u5 38 (by omega)).1, (u4 38 (by omega)).1, (u3 38 (by omega)).1, (u2 38 (by omega)).1, (u1 38 (by omega)).1, (u0 38 (by omega)).1]), (by show I9 102 k = I 39 k; rw [(u8 102 (by omega)).1, f7_4 k k0 (by omega), (u6 39 (by omega)).1, (u5 39 (by omega)).1, (u4 39 (by omega)).1, (u3 39 (by omega)).1, (u2 39 (by omega)).1, (u1 39 (by omega)).1, (u0 39 (by omega)).1])⟩), (fun k k0 k1 => (by show J9 95 k = J 32 k; rw [(u8 95 (by omega)).2, (u7 95 (by omega)).2, f6_5 k k0 (by omega), (u5 32 (by omega)).2, (u4 32 (by omega)).2, (u3 32 (by omega)).2, (u2 32 (by omega)).2, (u1 32 (by omega)).2, (u0 32 (by omega)).2])), (fun k k0 k1 => ⟨(by show I9 96 k = I 33 k; rw [(u8 96 (by omega)).1, (u7 96 (by omega)).1, f6_4 k k0 (by omega), (u5 33 (by omega)).1, (u4 33 (by omega)).1, (u3 33 (by omega)).1, (u2 33 (by omega)).1, (u1 33 (by omega)).1, (u0 33 (by omega)).1]), (by show I9 104 k = I 41 k; rw [f8_2 k k0 (by omega), (u7 41 (by omega)).1, (u6 41 (by omega)).1, (u5 41 (by omega)).1, (u4 41 (by omega)).1, (u3 41 (by omega)).1, (u2 41 (by omega)).1, (u1 41 (by omega)).1, (u0 41 (by omega)).1]), (by show I9 105 k = I 42 k; rw [f8_3 k k0 (by omega), (u7 42 (by omega)).1, (u6 42 (by omega)).1, (u5 42 (by omega)).1, (u4 42 (by omega)).1, (u3 42 (by omega)).1, (u2 42 (by omega)).1, (u1 42 (by omega)).1, (u0 42 (by omega)).1]), (by show I9 106 k = I 43 k; rw [f8_4 k k0 (by omega), (u7 43 (by omega)).1, (u6 43 (by omega)).1, (u5 43 (by omega)).1, (u4 43 (by omega)).1, (u3 43 (by omega)).1, (u2 43 (by omega)).1, (u1 43 (by omega)).1, (u0 43 (by omega)).1]), (by show I9 107 k = I 44 k; rw [f8_5 k k0 (by omega), (u7 44 (by omega)).1, (u6 44 (by omega)).1, (u5 44 (by omega)).1, (u4 44 (by omega)).1, (u3 44 (by omega)).1, (u2 44 (by omega)).1, (u1 44 (by omega)).1, (u0 44 (by omega)).1])⟩)⟩
  · rw [(u8 a (by omega)).1, (u7 a (by omega)).1, (u6 a (by omega)).1, (u5 a (by omega)).1, (u4 a (by omega)).1, (u3 a (by omega)).1, (u2 a (by omega)).1, (u1 a (by omega)).1, (u0 a (by omega)).1]
  · rw [(u8 a (by omega)).2, (u7 a (by omega)).2, (u6 a (by omega)).2, (u5 a (by omega)).2, (u4 a (by omega)).2, (u3 a (by omega)).2, (u2 a (by omega)).2, (u1 a (by omega)).2, (u0 a (by omega)).2]
end SM
