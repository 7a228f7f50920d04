/-! constructors (by wip/whole/ctor.py) -/
theorem lt_of {G : aG} {n a : Nat} (h : G.1 = n) (h2 : a < n) : a < G.1 := h ▸ h2
theorem gset_o {G : aG} {a b : Nat} {k : Int} {r : Option Nat} (h : b ≠ a) : (gset G a k r).2 b = G.2 b := by
  funext j
  unfold gset
  exact if_neg (fun q => h q.1)
def ZM (I : aI) : Prop := ∀ b : Nat, b < 1000 → ∀ k : Int, I b k = 0
theorem mset_0 {I : aI} {a : Nat} {j : Int} (h : ZM I) : ZM (mset I a j 0) := fun b hb k => by
  unfold mset
  split
  · rfl
  · exact h b hb k
theorem mk_97_3 : mthR 97 3 = some (5, 0) := by decide +kernel
theorem so_64 : (SH 64).1 = 0 := by decide +kernel
theorem gk_97_9_64 : getOk 97 9 64 10 0 0 = true := by decide +kernel
theorem fn_97_10_0 : finOk 97 10 0 = true := by decide +kernel
theorem cr_97_15 : clsR 97 15 = some 4 := by decide +kernel
theorem mk_97_17 : mthR 97 17 = some (3, 37) := by decide +kernel
theorem np_37 : npr 37 = 0 := by decide +kernel
theorem en_37 (a0 : Nat) : entOk 37 [vR a0] = true := rfl
theorem eq_37 (a0 : Nat) : ent (mxl 37) [vR a0] = [some (vR a0)] := rfl
theorem on_37 : oNum 37 = 4 := by decide +kernel
theorem mk_37_3 : mthR 37 3 = some (5, 0) := by decide +kernel
theorem so_65 : (SH 65).1 = 0 := by decide +kernel
theorem gk_37_9_65 : getOk 37 9 65 4 0 0 = true := by decide +kernel
theorem fn_37_4_0 : finOk 37 4 0 = true := by decide +kernel
theorem gk_37_15_65 : getOk 37 15 65 4 1 2 = true := by decide +kernel
theorem fn_37_4_1 : finOk 37 4 1 = true := by decide +kernel
theorem gk_37_19_65 : getOk 37 19 65 4 2 2 = true := by decide +kernel
theorem fn_37_4_2 : finOk 37 4 2 = true := by decide +kernel
theorem gk_37_22_65 : getOk 37 22 65 4 3 2 = true := by decide +kernel
theorem fn_37_4_3 : finOk 37 4 3 = true := by decide +kernel
theorem gk_37_25_65 : getOk 37 25 65 4 4 2 = true := by decide +kernel
theorem fn_37_4_4 : finOk 37 4 4 = true := by decide +kernel
theorem gk_37_28_65 : getOk 37 28 65 4 5 2 = true := by decide +kernel
theorem fn_37_4_5 : finOk 37 4 5 = true := by decide +kernel
theorem gk_37_31_65 : getOk 37 31 65 4 6 2 = true := by decide +kernel
theorem fn_37_4_6 : finOk 37 4 6 = true := by decide +kernel
theorem rv_37 : rty 37 = none := by rfl
theorem gk_97_18_64 : getOk 97 18 64 10 1 2 = true := by decide +kernel
theorem fn_97_10_1 : finOk 97 10 1 = true := by decide +kernel
theorem cr_97_22 : clsR 97 22 = some 7 := by decide +kernel
theorem mk_97_24 : mthR 97 24 = some (3, 61) := by decide +kernel
theorem np_61 : npr 61 = 0 := by decide +kernel
theorem en_61 (a0 : Nat) : entOk 61 [vR a0] = true := rfl
theorem eq_61 (a0 : Nat) : ent (mxl 61) [vR a0] = [some (vR a0)] := rfl
theorem on_61 : oNum 61 = 7 := by decide +kernel
theorem mk_61_3 : mthR 61 3 = some (5, 0) := by decide +kernel
theorem so_72 : (SH 72).1 = 0 := by decide +kernel
theorem gk_61_9_72 : getOk 61 9 72 7 0 0 = true := by decide +kernel
theorem fn_61_7_0 : finOk 61 7 0 = true := by decide +kernel
theorem cr_61_15 : clsR 61 15 = some 8 := by decide +kernel
theorem mk_61_17 : mthR 61 17 = some (3, 73) := by decide +kernel
theorem np_73 : npr 73 = 0 := by decide +kernel
theorem en_73 (a0 : Nat) : entOk 73 [vR a0] = true := rfl
theorem eq_73 (a0 : Nat) : ent (mxl 73) [vR a0] = [some (vR a0)] := rfl
theorem on_73 : oNum 73 = 8 := by decide +kernel
theorem mk_73_3 : mthR 73 3 = some (5, 0) := by decide +kernel
theorem so_73 : (SH 73).1 = 0 := by decide +kernel
theorem gk_73_9_73 : getOk 73 9 73 8 0 0 = true := by decide +kernel
theorem fn_73_8_0 : finOk 73 8 0 = true := by decide +kernel
theorem gk_73_15_73 : getOk 73 15 73 8 1 0 = true := by decide +kernel
theorem fn_73_8_1 : finOk 73 8 1 = true := by decide +kernel
theorem gk_73_18_73 : getOk 73 18 73 8 2 0 = true := by decide +kernel
theorem fn_73_8_2 : finOk 73 8 2 = true := by decide +kernel
theorem gk_73_21_73 : getOk 73 21 73 8 3 3 = true := by decide +kernel
theorem fn_73_8_3 : finOk 73 8 3 = true := by decide +kernel
theorem gk_73_25_73 : getOk 73 25 73 8 4 2 = true := by decide +kernel
theorem fn_73_8_4 : finOk 73 8 4 = true := by decide +kernel
theorem gk_73_29_73 : getOk 73 29 73 8 5 2 = true := by decide +kernel
theorem fn_73_8_5 : finOk 73 8 5 = true := by decide +kernel
theorem rv_73 : rty 73 = none := by rfl
theorem gk_61_18_72 : getOk 61 18 72 7 1 2 = true := by decide +kernel
theorem fn_61_7_1 : finOk 61 7 1 = true := by decide +kernel
theorem gk_61_22_72 : getOk 61 22 72 7 2 2 = true := by decide +kernel
theorem fn_61_7_2 : finOk 61 7 2 = true := by decide +kernel
theorem gk_61_26_72 : getOk 61 26 72 7 3 2 = true := by decide +kernel
theorem fn_61_7_3 : finOk 61 7 3 = true := by decide +kernel
theorem gk_61_29_72 : getOk 61 29 72 7 4 2 = true := by decide +kernel
theorem fn_61_7_4 : finOk 61 7 4 = true := by decide +kernel
theorem gk_61_32_72 : getOk 61 32 72 7 5 2 = true := by decide +kernel
theorem fn_61_7_5 : finOk 61 7 5 = true := by decide +kernel
theorem gk_61_35_72 : getOk 61 35 72 7 6 2 = true := by decide +kernel
theorem fn_61_7_6 : finOk 61 7 6 = true := by decide +kernel
theorem gk_61_38_72 : getOk 61 38 72 7 7 2 = true := by decide +kernel
theorem fn_61_7_7 : finOk 61 7 7 = true := by decide +kernel
theorem sp_82 : SH 82 = (1, 6) := by decide +kernel
theorem gk_61_41_72 : getOk 61 41 72 7 8 2 = true := by decide +kernel
theorem fn_61_7_8 : finOk 61 7 8 = true := by decide +kernel
theorem rv_61 : rty 61 = none := by rfl
theorem gk_97_25_64 : getOk 97 25 64 10 2 2 = true := by decide +kernel
theorem fn_97_10_2 : finOk 97 10 2 = true := by decide +kernel
theorem cr_97_29 : clsR 97 29 = some 0 := by decide +kernel
theorem mk_97_31 : mthR 97 31 = some (3, 1) := by decide +kernel
theorem np_1 : npr 1 = 0 := by decide +kernel
theorem en_1 (a0 : Nat) : entOk 1 [vR a0] = true := rfl
theorem eq_1 (a0 : Nat) : ent (mxl 1) [vR a0] = [some (vR a0)] := rfl
theorem on_1 : oNum 1 = 0 := by decide +kernel
theorem mk_1_3 : mthR 1 3 = some (5, 0) := by decide +kernel
theorem so_83 : (SH 83).1 = 0 := by decide +kernel
theorem gk_1_9_83 : getOk 1 9 83 0 0 0 = true := by decide +kernel
theorem fn_1_0_0 : finOk 1 0 0 = true := by decide +kernel
theorem gk_1_15_83 : getOk 1 15 83 0 1 2 = true := by decide +kernel
theorem fn_1_0_1 : finOk 1 0 1 = true := by decide +kernel
theorem gk_1_19_83 : getOk 1 19 83 0 2 2 = true := by decide +kernel
theorem fn_1_0_2 : finOk 1 0 2 = true := by decide +kernel
theorem gk_1_22_83 : getOk 1 22 83 0 3 2 = true := by decide +kernel
theorem fn_1_0_3 : finOk 1 0 3 = true := by decide +kernel
theorem gk_1_25_83 : getOk 1 25 83 0 4 2 = true := by decide +kernel
theorem fn_1_0_4 : finOk 1 0 4 = true := by decide +kernel
theorem gk_1_28_83 : getOk 1 28 83 0 5 2 = true := by decide +kernel
theorem fn_1_0_5 : finOk 1 0 5 = true := by decide +kernel
theorem gk_1_32_83 : getOk 1 32 83 0 6 2 = true := by decide +kernel
theorem fn_1_0_6 : finOk 1 0 6 = true := by decide +kernel
theorem gk_1_35_83 : getOk 1 35 83 0 7 2 = true := by decide +kernel
theorem fn_1_0_7 : finOk 1 0 7 = true := by decide +kernel
theorem gk_1_38_83 : getOk 1 38 83 0 8 2 = true := by decide +kernel
theorem fn_1_0_8 : finOk 1 0 8 = true := by decide +kernel
theorem gk_1_41_83 : getOk 1 41 83 0 9 2 = true := by decide +kernel
theorem fn_1_0_9 : finOk 1 0 9 = true := by decide +kernel
theorem gk_1_44_83 : getOk 1 44 83 0 10 2 = true := by decide +kernel
theorem fn_1_0_10 : finOk 1 0 10 = true := by decide +kernel
theorem rv_1 : rty 1 = none := by rfl
theorem gk_97_32_64 : getOk 97 32 64 10 3 2 = true := by decide +kernel
theorem fn_97_10_3 : finOk 97 10 3 = true := by decide +kernel
theorem cr_97_36 : clsR 97 36 = some 9 := by decide +kernel
theorem mk_97_38 : mthR 97 38 = some (3, 88) := by decide +kernel
theorem np_88 : npr 88 = 0 := by decide +kernel
theorem en_88 (a0 : Nat) : entOk 88 [vR a0] = true := rfl
theorem eq_88 (a0 : Nat) : ent (mxl 88) [vR a0] = [some (vR a0)] := rfl
theorem on_88 : oNum 88 = 9 := by decide +kernel
theorem mk_88_3 : mthR 88 3 = some (5, 0) := by decide +kernel
theorem so_94 : (SH 94).1 = 0 := by decide +kernel
theorem gk_88_9_94 : getOk 88 9 94 9 0 1 = true := by decide +kernel
theorem fn_88_9_0 : finOk 88 9 0 = true := by decide +kernel
theorem gk_88_15_94 : getOk 88 15 94 9 1 0 = true := by decide +kernel
theorem fn_88_9_1 : finOk 88 9 1 = true := by decide +kernel
theorem gk_88_19_94 : getOk 88 19 94 9 2 0 = true := by decide +kernel
theorem fn_88_9_2 : finOk 88 9 2 = true := by decide +kernel
theorem gk_88_22_94 : getOk 88 22 94 9 3 0 = true := by decide +kernel
theorem fn_88_9_3 : finOk 88 9 3 = true := by decide +kernel
theorem gk_88_25_94 : getOk 88 25 94 9 4 0 = true := by decide +kernel
theorem fn_88_9_4 : finOk 88 9 4 = true := by decide +kernel
theorem gk_88_28_94 : getOk 88 28 94 9 5 0 = true := by decide +kernel
theorem fn_88_9_5 : finOk 88 9 5 = true := by decide +kernel
theorem gk_88_31_94 : getOk 88 31 94 9 6 2 = true := by decide +kernel
theorem fn_88_9_6 : finOk 88 9 6 = true := by decide +kernel
theorem gk_88_35_94 : getOk 88 35 94 9 7 2 = true := by decide +kernel
theorem fn_88_9_7 : finOk 88 9 7 = true := by decide +kernel
theorem sp_97 : SH 97 = (1, 20) := by decide +kernel
theorem gk_88_39_94 : getOk 88 39 94 9 8 2 = true := by decide +kernel
theorem fn_88_9_8 : finOk 88 9 8 = true := by decide +kernel
theorem rv_88 : rty 88 = none := by rfl
theorem gk_97_39_64 : getOk 97 39 64 10 4 2 = true := by decide +kernel
theorem fn_97_10_4 : finOk 97 10 4 = true := by decide +kernel
theorem cr_97_43 : clsR 97 43 = some 5 := by decide +kernel
theorem mk_97_45 : mthR 97 45 = some (3, 51) := by decide +kernel
theorem np_51 : npr 51 = 0 := by decide +kernel
theorem en_51 (a0 : Nat) : entOk 51 [vR a0] = true := rfl
theorem eq_51 (a0 : Nat) : ent (mxl 51) [vR a0] = [some (vR a0)] := rfl
theorem on_51 : oNum 51 = 5 := by decide +kernel
theorem mk_51_3 : mthR 51 3 = some (5, 0) := by decide +kernel
theorem so_98 : (SH 98).1 = 0 := by decide +kernel
theorem gk_51_9_98 : getOk 51 9 98 5 0 0 = true := by decide +kernel
theorem fn_51_5_0 : finOk 51 5 0 = true := by decide +kernel
theorem gk_51_15_98 : getOk 51 15 98 5 1 2 = true := by decide +kernel
theorem fn_51_5_1 : finOk 51 5 1 = true := by decide +kernel
theorem gk_51_19_98 : getOk 51 19 98 5 2 2 = true := by decide +kernel
theorem fn_51_5_2 : finOk 51 5 2 = true := by decide +kernel
theorem gk_51_22_98 : getOk 51 22 98 5 3 2 = true := by decide +kernel
theorem fn_51_5_3 : finOk 51 5 3 = true := by decide +kernel
theorem gk_51_25_98 : getOk 51 25 98 5 4 2 = true := by decide +kernel
theorem fn_51_5_4 : finOk 51 5 4 = true := by decide +kernel
theorem rv_51 : rty 51 = none := by rfl
theorem gk_97_46_64 : getOk 97 46 64 10 5 2 = true := by decide +kernel
theorem fn_97_10_5 : finOk 97 10 5 = true := by decide +kernel
theorem cr_97_50 : clsR 97 50 = some 6 := by decide +kernel
theorem mk_97_52 : mthR 97 52 = some (3, 56) := by decide +kernel
theorem np_56 : npr 56 = 0 := by decide +kernel
theorem en_56 (a0 : Nat) : entOk 56 [vR a0] = true := rfl
theorem eq_56 (a0 : Nat) : ent (mxl 56) [vR a0] = [some (vR a0)] := rfl
theorem on_56 : oNum 56 = 6 := by decide +kernel
theorem mk_56_3 : mthR 56 3 = some (5, 0) := by decide +kernel
theorem so_103 : (SH 103).1 = 0 := by decide +kernel
theorem gk_56_9_103 : getOk 56 9 103 6 0 0 = true := by decide +kernel
theorem fn_56_6_0 : finOk 56 6 0 = true := by decide +kernel
theorem gk_56_15_103 : getOk 56 15 103 6 1 0 = true := by decide +kernel
theorem fn_56_6_1 : finOk 56 6 1 = true := by decide +kernel
theorem gk_56_18_103 : getOk 56 18 103 6 2 2 = true := by decide +kernel
theorem fn_56_6_2 : finOk 56 6 2 = true := by decide +kernel
theorem gk_56_22_103 : getOk 56 22 103 6 3 2 = true := by decide +kernel
theorem fn_56_6_3 : finOk 56 6 3 = true := by decide +kernel
theorem gk_56_25_103 : getOk 56 25 103 6 4 2 = true := by decide +kernel
theorem fn_56_6_4 : finOk 56 6 4 = true := by decide +kernel
theorem gk_56_28_103 : getOk 56 28 103 6 5 2 = true := by decide +kernel
theorem fn_56_6_5 : finOk 56 6 5 = true := by decide +kernel
theorem rv_56 : rty 56 = none := by rfl
theorem gk_97_53_64 : getOk 97 53 64 10 6 2 = true := by decide +kernel
theorem fn_97_10_6 : finOk 97 10 6 = true := by decide +kernel
theorem rv_97 : rty 97 = none := by rfl
theorem mk_108_3 : mthR 108 3 = some (5, 0) := by decide +kernel
theorem so_0 : (SH 0).1 = 0 := by decide +kernel
theorem cr_108_9 : clsR 108 9 = some 10 := by decide +kernel
theorem mk_108_11 : mthR 108 11 = some (3, 97) := by decide +kernel
theorem np_97 : npr 97 = 0 := by decide +kernel
theorem en_97 (a0 : Nat) : entOk 97 [vR a0] = true := rfl
theorem eq_97 (a0 : Nat) : ent (mxl 97) [vR a0] = [some (vR a0)] := rfl
theorem on_97 : oNum 97 = 10 := by decide +kernel
theorem so_1 : (SH 1).1 = 0 := by decide +kernel
theorem gk_97_9_1 : getOk 97 9 1 10 0 0 = true := by decide +kernel
theorem so_2 : (SH 2).1 = 0 := by decide +kernel
theorem gk_37_9_2 : getOk 37 9 2 4 0 0 = true := by decide +kernel
theorem gk_37_15_2 : getOk 37 15 2 4 1 2 = true := by decide +kernel
theorem gk_37_19_2 : getOk 37 19 2 4 2 2 = true := by decide +kernel
theorem gk_37_22_2 : getOk 37 22 2 4 3 2 = true := by decide +kernel
theorem gk_37_25_2 : getOk 37 25 2 4 4 2 = true := by decide +kernel
theorem gk_37_28_2 : getOk 37 28 2 4 5 2 = true := by decide +kernel
theorem gk_37_31_2 : getOk 37 31 2 4 6 2 = true := by decide +kernel
theorem gk_97_18_1 : getOk 97 18 1 10 1 2 = true := by decide +kernel
theorem so_9 : (SH 9).1 = 0 := by decide +kernel
theorem gk_61_9_9 : getOk 61 9 9 7 0 0 = true := by decide +kernel
theorem so_10 : (SH 10).1 = 0 := by decide +kernel
theorem gk_73_9_10 : getOk 73 9 10 8 0 0 = true := by decide +kernel
theorem gk_73_15_10 : getOk 73 15 10 8 1 0 = true := by decide +kernel
theorem gk_73_18_10 : getOk 73 18 10 8 2 0 = true := by decide +kernel
theorem gk_73_21_10 : getOk 73 21 10 8 3 3 = true := by decide +kernel
theorem gk_73_25_10 : getOk 73 25 10 8 4 2 = true := by decide +kernel
theorem gk_73_29_10 : getOk 73 29 10 8 5 2 = true := by decide +kernel
theorem gk_61_18_9 : getOk 61 18 9 7 1 2 = true := by decide +kernel
theorem gk_61_22_9 : getOk 61 22 9 7 2 2 = true := by decide +kernel
theorem gk_61_26_9 : getOk 61 26 9 7 3 2 = true := by decide +kernel
theorem gk_61_29_9 : getOk 61 29 9 7 4 2 = true := by decide +kernel
theorem gk_61_32_9 : getOk 61 32 9 7 5 2 = true := by decide +kernel
theorem gk_61_35_9 : getOk 61 35 9 7 6 2 = true := by decide +kernel
theorem gk_61_38_9 : getOk 61 38 9 7 7 2 = true := by decide +kernel
theorem gk_61_41_9 : getOk 61 41 9 7 8 2 = true := by decide +kernel
theorem gk_97_25_1 : getOk 97 25 1 10 2 2 = true := by decide +kernel
theorem so_20 : (SH 20).1 = 0 := by decide +kernel
theorem gk_1_9_20 : getOk 1 9 20 0 0 0 = true := by decide +kernel
theorem gk_1_15_20 : getOk 1 15 20 0 1 2 = true := by decide +kernel
theorem gk_1_19_20 : getOk 1 19 20 0 2 2 = true := by decide +kernel
theorem gk_1_22_20 : getOk 1 22 20 0 3 2 = true := by decide +kernel
theorem gk_1_25_20 : getOk 1 25 20 0 4 2 = true := by decide +kernel
theorem gk_1_28_20 : getOk 1 28 20 0 5 2 = true := by decide +kernel
theorem gk_1_32_20 : getOk 1 32 20 0 6 2 = true := by decide +kernel
theorem gk_1_35_20 : getOk 1 35 20 0 7 2 = true := by decide +kernel
theorem gk_1_38_20 : getOk 1 38 20 0 8 2 = true := by decide +kernel
theorem gk_1_41_20 : getOk 1 41 20 0 9 2 = true := by decide +kernel
theorem gk_1_44_20 : getOk 1 44 20 0 10 2 = true := by decide +kernel
theorem gk_97_32_1 : getOk 97 32 1 10 3 2 = true := by decide +kernel
theorem so_31 : (SH 31).1 = 0 := by decide +kernel
theorem gk_88_9_31 : getOk 88 9 31 9 0 1 = true := by decide +kernel
theorem gk_88_15_31 : getOk 88 15 31 9 1 0 = true := by decide +kernel
theorem gk_88_19_31 : getOk 88 19 31 9 2 0 = true := by decide +kernel
theorem gk_88_22_31 : getOk 88 22 31 9 3 0 = true := by decide +kernel
theorem gk_88_25_31 : getOk 88 25 31 9 4 0 = true := by decide +kernel
theorem gk_88_28_31 : getOk 88 28 31 9 5 0 = true := by decide +kernel
theorem gk_88_31_31 : getOk 88 31 31 9 6 2 = true := by decide +kernel
theorem gk_88_35_31 : getOk 88 35 31 9 7 2 = true := by decide +kernel
theorem gk_88_39_31 : getOk 88 39 31 9 8 2 = true := by decide +kernel
theorem gk_97_39_1 : getOk 97 39 1 10 4 2 = true := by decide +kernel
theorem so_35 : (SH 35).1 = 0 := by decide +kernel
theorem gk_51_9_35 : getOk 51 9 35 5 0 0 = true := by decide +kernel
theorem gk_51_15_35 : getOk 51 15 35 5 1 2 = true := by decide +kernel
theorem gk_51_19_35 : getOk 51 19 35 5 2 2 = true := by decide +kernel
theorem gk_51_22_35 : getOk 51 22 35 5 3 2 = true := by decide +kernel
theorem gk_51_25_35 : getOk 51 25 35 5 4 2 = true := by decide +kernel
theorem gk_97_46_1 : getOk 97 46 1 10 5 2 = true := by decide +kernel
theorem so_40 : (SH 40).1 = 0 := by decide +kernel
theorem gk_56_9_40 : getOk 56 9 40 6 0 0 = true := by decide +kernel
theorem gk_56_15_40 : getOk 56 15 40 6 1 0 = true := by decide +kernel
theorem gk_56_18_40 : getOk 56 18 40 6 2 2 = true := by decide +kernel
theorem gk_56_22_40 : getOk 56 22 40 6 3 2 = true := by decide +kernel
theorem gk_56_25_40 : getOk 56 25 40 6 4 2 = true := by decide +kernel
theorem gk_56_28_40 : getOk 56 28 40 6 5 2 = true := by decide +kernel
theorem gk_97_53_1 : getOk 97 53 1 10 6 2 = true := by decide +kernel
theorem gk_108_12_0 : getOk 108 12 0 11 0 2 = true := by decide +kernel
theorem fn_108_11_0 : finOk 108 11 0 = true := by decide +kernel
theorem cr_108_16 : clsR 108 16 = some 3 := by decide +kernel
theorem mk_108_18 : mthR 108 18 = some (3, 30) := by decide +kernel
theorem np_30 : npr 30 = 0 := by decide +kernel
theorem en_30 (a0 : Nat) : entOk 30 [vR a0] = true := rfl
theorem eq_30 (a0 : Nat) : ent (mxl 30) [vR a0] = [some (vR a0)] := rfl
theorem on_30 : oNum 30 = 3 := by decide +kernel
theorem mk_30_3 : mthR 30 3 = some (5, 0) := by decide +kernel
theorem so_45 : (SH 45).1 = 0 := by decide +kernel
theorem gk_30_9_45 : getOk 30 9 45 3 0 2 = true := by decide +kernel
theorem fn_30_3_0 : finOk 30 3 0 = true := by decide +kernel
theorem gk_30_15_45 : getOk 30 15 45 3 1 2 = true := by decide +kernel
theorem fn_30_3_1 : finOk 30 3 1 = true := by decide +kernel
theorem gk_30_18_45 : getOk 30 18 45 3 2 0 = true := by decide +kernel
theorem fn_30_3_2 : finOk 30 3 2 = true := by decide +kernel
theorem gk_30_22_45 : getOk 30 22 45 3 3 0 = true := by decide +kernel
theorem fn_30_3_3 : finOk 30 3 3 = true := by decide +kernel
theorem gk_30_25_45 : getOk 30 25 45 3 4 0 = true := by decide +kernel
theorem fn_30_3_4 : finOk 30 3 4 = true := by decide +kernel
theorem gk_30_28_45 : getOk 30 28 45 3 5 0 = true := by decide +kernel
theorem fn_30_3_5 : finOk 30 3 5 = true := by decide +kernel
theorem rv_30 : rty 30 = none := by rfl
theorem gk_108_19_0 : getOk 108 19 0 11 1 2 = true := by decide +kernel
theorem fn_108_11_1 : finOk 108 11 1 = true := by decide +kernel
theorem cr_108_23 : clsR 108 23 = some 1 := by decide +kernel
theorem mk_108_25 : mthR 108 25 = some (3, 19) := by decide +kernel
theorem np_19 : npr 19 = 0 := by decide +kernel
theorem en_19 (a0 : Nat) : entOk 19 [vR a0] = true := rfl
theorem eq_19 (a0 : Nat) : ent (mxl 19) [vR a0] = [some (vR a0)] := rfl
theorem on_19 : oNum 19 = 1 := by decide +kernel
theorem mk_19_3 : mthR 19 3 = some (5, 0) := by decide +kernel
theorem so_48 : (SH 48).1 = 0 := by decide +kernel
theorem gk_19_9_48 : getOk 19 9 48 1 0 0 = true := by decide +kernel
theorem fn_19_1_0 : finOk 19 1 0 = true := by decide +kernel
theorem gk_19_15_48 : getOk 19 15 48 1 1 2 = true := by decide +kernel
theorem fn_19_1_1 : finOk 19 1 1 = true := by decide +kernel
theorem gk_19_19_48 : getOk 19 19 48 1 2 0 = true := by decide +kernel
theorem fn_19_1_2 : finOk 19 1 2 = true := by decide +kernel
theorem gk_19_22_48 : getOk 19 22 48 1 3 0 = true := by decide +kernel
theorem fn_19_1_3 : finOk 19 1 3 = true := by decide +kernel
theorem gk_19_25_48 : getOk 19 25 48 1 4 0 = true := by decide +kernel
theorem fn_19_1_4 : finOk 19 1 4 = true := by decide +kernel
theorem gk_19_28_48 : getOk 19 28 48 1 5 2 = true := by decide +kernel
theorem fn_19_1_5 : finOk 19 1 5 = true := by decide +kernel
theorem rv_19 : rty 19 = none := by rfl
theorem gk_108_26_0 : getOk 108 26 0 11 2 2 = true := by decide +kernel
theorem fn_108_11_2 : finOk 108 11 2 = true := by decide +kernel
theorem cr_108_30 : clsR 108 30 = some 2 := by decide +kernel
theorem mk_108_32 : mthR 108 32 = some (3, 26) := by decide +kernel
theorem np_26 : npr 26 = 0 := by decide +kernel
theorem en_26 (a0 : Nat) : entOk 26 [vR a0] = true := rfl
theorem eq_26 (a0 : Nat) : ent (mxl 26) [vR a0] = [some (vR a0)] := rfl
theorem on_26 : oNum 26 = 2 := by decide +kernel
theorem mk_26_3 : mthR 26 3 = some (5, 0) := by decide +kernel
theorem so_51 : (SH 51).1 = 0 := by decide +kernel
theorem gk_26_9_51 : getOk 26 9 51 2 0 0 = true := by decide +kernel
theorem fn_26_2_0 : finOk 26 2 0 = true := by decide +kernel
theorem gk_26_15_51 : getOk 26 15 51 2 1 2 = true := by decide +kernel
theorem fn_26_2_1 : finOk 26 2 1 = true := by decide +kernel
theorem gk_26_19_51 : getOk 26 19 51 2 2 0 = true := by decide +kernel
theorem fn_26_2_2 : finOk 26 2 2 = true := by decide +kernel
theorem gk_26_22_51 : getOk 26 22 51 2 3 0 = true := by decide +kernel
theorem fn_26_2_3 : finOk 26 2 3 = true := by decide +kernel
theorem gk_26_25_51 : getOk 26 25 51 2 4 2 = true := by decide +kernel
theorem fn_26_2_4 : finOk 26 2 4 = true := by decide +kernel
theorem gk_26_28_51 : getOk 26 28 51 2 5 2 = true := by decide +kernel
theorem fn_26_2_5 : finOk 26 2 5 = true := by decide +kernel
theorem gk_26_31_51 : getOk 26 31 51 2 6 2 = true := by decide +kernel
theorem fn_26_2_6 : finOk 26 2 6 = true := by decide +kernel
theorem rv_26 : rty 26 = none := by rfl
theorem gk_108_33_0 : getOk 108 33 0 11 3 2 = true := by decide +kernel
theorem fn_108_11_3 : finOk 108 11 3 = true := by decide +kernel
theorem gk_108_37_0 : getOk 108 37 0 11 4 2 = true := by decide +kernel
theorem fn_108_11_4 : finOk 108 11 4 = true := by decide +kernel
theorem rv_108 : rty 108 = none := by rfl
theorem mk_149_7 : mthR 149 7 = some (5, 0) := by decide +kernel
theorem so_56 : (SH 56).1 = 0 := by decide +kernel
theorem gk_149_13_56 : getOk 149 13 56 12 1 2 = true := by decide +kernel
theorem fn_149_12_1 : finOk 149 12 1 = true := by decide +kernel
theorem gk_149_17_56 : getOk 149 17 56 12 2 2 = true := by decide +kernel
theorem fn_149_12_2 : finOk 149 12 2 = true := by decide +kernel
theorem gk_149_20_56 : getOk 149 20 56 12 3 2 = true := by decide +kernel
theorem fn_149_12_3 : finOk 149 12 3 = true := by decide +kernel
theorem gk_149_23_56 : getOk 149 23 56 12 15 2 = true := by decide +kernel
theorem fn_149_12_15 : finOk 149 12 15 = true := by decide +kernel
theorem gk_149_27_56 : getOk 149 27 56 12 16 2 = true := by decide +kernel
theorem fn_149_12_16 : finOk 149 12 16 = true := by decide +kernel
theorem gk_149_30_56 : getOk 149 30 56 12 17 2 = true := by decide +kernel
theorem fn_149_12_17 : finOk 149 12 17 = true := by decide +kernel
theorem gk_149_33_56 : getOk 149 33 56 12 18 2 = true := by decide +kernel
theorem fn_149_12_18 : finOk 149 12 18 = true := by decide +kernel
theorem rv_149 : rty 149 = none := by rfl
section CT
variable {d : Nat} {G : aG} {I J : aI} {Q : Option aV → aG → aI → aI → Prop}
theorem ct_OneWire_Farms_65 (hn : G.1 = 66) (k : ∀ G' I' J', G'.1 = 72 → (∀ b, ¬ (65 ≤ b ∧ b < 72) → G'.2 b = G.2 b ∧ I' b = I b ∧ J' b = J b) → (ZM I → ZM I') → (ZM J → ZM J') → (G'.2 65 ((1 : Nat) : Int) = some 66) → (G'.2 65 ((2 : Nat) : Int) = some 67) → (G'.2 65 ((3 : Nat) : Int) = some 68) → (G'.2 65 ((4 : Nat) : Int) = some 69) → (G'.2 65 ((5 : Nat) : Int) = some 70) → (G'.2 65 ((6 : Nat) : Int) = some 71) → Q none G' I' J') : At d 37 0 [some (vR 65)] [] G I J Q := by
  refine a_aload_n (by rfl) (by decide) d37_0 ?_
  refine a_obj mk_37_3 so_65 (Nat.le_of_ble_eq_true rfl) d37_1 ?_
  refine a_aload_n (by rfl) (by decide) d37_4 ?_
  refine a_iconst (by decide) d37_5 ?_
  refine a_putI (k := 0) gk_37_9_65 fn_37_4_0 (lt_of hn (by decide)) d37_6 ?_
  refine a_aload_n (by rfl) (by decide) d37_9 ?_
  refine a_bipush (by decide) d37_10 ?_
  refine a_newa (t := .int) (x := 12) (n := 66) hn sp_66 (by decide) d37_12 ?_
  refine a_putR (k := 1) (r := some 66) gk_37_15_65 fn_37_4_1 (Nat.le_of_ble_eq_true rfl) (by decide) d37_14 ?_
  refine a_aload_n (by rfl) (by decide) d37_17 ?_
  refine a_bipush (by decide) d37_18 ?_
  refine a_newa (t := .int) (x := 12) (n := 67) rfl sp_67 (by decide) d37_20 ?_
  refine a_putR (k := 2) (r := some 67) gk_37_19_65 fn_37_4_2 (Nat.le_of_ble_eq_true rfl) (by decide) d37_22 ?_
  refine a_aload_n (by rfl) (by decide) d37_25 ?_
  refine a_bipush (by decide) d37_26 ?_
  refine a_newa (t := .int) (x := 12) (n := 68) rfl sp_68 (by decide) d37_28 ?_
  refine a_putR (k := 3) (r := some 68) gk_37_22_65 fn_37_4_3 (Nat.le_of_ble_eq_true rfl) (by decide) d37_30 ?_
  refine a_aload_n (by rfl) (by decide) d37_33 ?_
  refine a_bipush (by decide) d37_34 ?_
  refine a_newa (t := .int) (x := 12) (n := 69) rfl sp_69 (by decide) d37_36 ?_
  refine a_putR (k := 4) (r := some 69) gk_37_25_65 fn_37_4_4 (Nat.le_of_ble_eq_true rfl) (by decide) d37_38 ?_
  refine a_aload_n (by rfl) (by decide) d37_41 ?_
  refine a_bipush (by decide) d37_42 ?_
  refine a_newa (t := .int) (x := 12) (n := 70) rfl sp_70 (by decide) d37_44 ?_
  refine a_putR (k := 5) (r := some 70) gk_37_28_65 fn_37_4_5 (Nat.le_of_ble_eq_true rfl) (by decide) d37_46 ?_
  refine a_aload_n (by rfl) (by decide) d37_49 ?_
  refine a_bipush (by decide) d37_50 ?_
  refine a_newa (t := .int) (x := 12) (n := 71) rfl sp_71 (by decide) d37_52 ?_
  refine a_putR (k := 6) (r := some 71) gk_37_31_65 fn_37_4_6 (Nat.le_of_ble_eq_true rfl) (by decide) d37_54 ?_
  refine a_vret rv_37 d37_57 (k _ _ _ rfl (fun b hb' => ?_) (fun hz => mset_0 (hz)) (fun hz => hz) rfl rfl rfl rfl rfl rfl)
  have hb : b ≠ 65 := fun q => hb' (by omega)
  refine ⟨?_, ?_, ?_⟩
  · first | rfl | simp only [gset_o hb]
  · first | rfl | simp only [mset_o hb]
  · first | rfl | simp only [mset_o hb]
theorem ct_OneWire_Tape_73 (hn : G.1 = 74) (k : ∀ G' I' J', G'.1 = 76 → (∀ b, ¬ (73 ≤ b ∧ b < 76) → G'.2 b = G.2 b ∧ I' b = I b ∧ J' b = J b) → (ZM I → ZM I') → (ZM J → ZM J') → (G'.2 73 ((4 : Nat) : Int) = some 74) → (G'.2 73 ((5 : Nat) : Int) = some 75) → Q none G' I' J') : At d 73 0 [some (vR 73)] [] G I J Q := by
  refine a_aload_n (by rfl) (by decide) d73_0 ?_
  refine a_obj mk_73_3 so_73 (Nat.le_of_ble_eq_true rfl) d73_1 ?_
  refine a_aload_n (by rfl) (by decide) d73_4 ?_
  refine a_iconst (by decide) d73_5 ?_
  refine a_putI (k := 0) gk_73_9_73 fn_73_8_0 (lt_of hn (by decide)) d73_6 ?_
  refine a_aload_n (by rfl) (by decide) d73_9 ?_
  refine a_iconst (by decide) d73_10 ?_
  refine a_putI (k := 1) gk_73_15_73 fn_73_8_1 (lt_of hn (by decide)) d73_11 ?_
  refine a_aload_n (by rfl) (by decide) d73_14 ?_
  refine a_iconst (by decide) d73_15 ?_
  refine a_putI (k := 2) gk_73_18_73 fn_73_8_2 (lt_of hn (by decide)) d73_16 ?_
  refine a_aload_n (by rfl) (by decide) d73_19 ?_
  refine a_iconst (by decide) d73_20 ?_
  refine a_putZ (k := 3) gk_73_21_73 fn_73_8_3 (lt_of hn (by decide)) (by decide) d73_21 ?_
  refine a_aload_n (by rfl) (by decide) d73_24 ?_
  refine a_sipush (by decide) d73_25 ?_
  refine a_newa (t := .int) (x := 1320) (n := 74) hn sp_74 (by decide) d73_28 ?_
  refine a_putR (k := 4) (r := some 74) gk_73_25_73 fn_73_8_4 (Nat.le_of_ble_eq_true rfl) (by decide) d73_30 ?_
  refine a_aload_n (by rfl) (by decide) d73_33 ?_
  refine a_bipush (by decide) d73_34 ?_
  refine a_newa (t := .byte) (x := 120) (n := 75) rfl sp_75 (by decide) d73_36 ?_
  refine a_putR (k := 5) (r := some 75) gk_73_29_73 fn_73_8_5 (Nat.le_of_ble_eq_true rfl) (by decide) d73_38 ?_
  refine a_vret rv_73 d73_41 (k _ _ _ rfl (fun b hb' => ?_) (fun hz => mset_0 (mset_0 (mset_0 (mset_0 (hz))))) (fun hz => hz) rfl rfl)
  have hb : b ≠ 73 := fun q => hb' (by omega)
  refine ⟨?_, ?_, ?_⟩
  · first | rfl | simp only [gset_o hb]
  · first | rfl | simp only [mset_o hb]
  · first | rfl | simp only [mset_o hb]
theorem ct_OneWire_Rules_72 (hn : G.1 = 73) (k : ∀ G' I' J', G'.1 = 83 → (∀ b, ¬ (72 ≤ b ∧ b < 83) → G'.2 b = G.2 b ∧ I' b = I b ∧ J' b = J b) → (ZM I → ZM I') → (ZM J → ZM J') → (G'.2 73 ((4 : Nat) : Int) = some 74) → (G'.2 73 ((5 : Nat) : Int) = some 75) → (G'.2 72 ((1 : Nat) : Int) = some 73) → (G'.2 72 ((2 : Nat) : Int) = some 76) → (G'.2 72 ((3 : Nat) : Int) = some 77) → (G'.2 72 ((4 : Nat) : Int) = some 78) → (G'.2 72 ((5 : Nat) : Int) = some 79) → (G'.2 72 ((6 : Nat) : Int) = some 80) → (G'.2 72 ((7 : Nat) : Int) = some 81) → (G'.2 72 ((8 : Nat) : Int) = some 82) → Q none G' I' J') : At (d + 1) 61 0 [some (vR 72)] [] G I J Q := by
  refine a_aload_n (by rfl) (by decide) d61_0 ?_
  refine a_obj mk_61_3 so_72 (Nat.le_of_ble_eq_true rfl) d61_1 ?_
  refine a_aload_n (by rfl) (by decide) d61_4 ?_
  refine a_iconst (by decide) d61_5 ?_
  refine a_putI (k := 0) gk_61_9_72 fn_61_7_0 (lt_of hn (by decide)) d61_6 ?_
  refine a_aload_n (by rfl) (by decide) d61_9 ?_
  refine a_new (n := 73) cr_61_15 hn sp_73 (by decide) d61_10 ?_
  refine a_dup (by rfl) d61_13 ?_
  refine a_calI (n := 0) (rest := [vR 73, vR 72]) (E := [some (vR 73)]) mk_61_17 (by decide) np_73 (by rfl) (rcv_0 sp_73 on_73 (Nat.le_of_ble_eq_true rfl)) (Nat.le_of_ble_eq_true rfl) (en_73 _) (eq_73 _) d61_14 (ct_OneWire_Tape_73 (d := d) rfl (fun G1 I1 J1 n1 u1 zi1 zj1 f1_0 f1_1 => ?_))
  change At _ _ _ _ [vR 73, vR 72] _ _ _ _
  refine a_putR (k := 1) (r := some 73) gk_61_18_72 fn_61_7_1 (lt_of n1 (by decide)) (by decide) d61_17 ?_
  refine a_aload_n (by rfl) (by decide) d61_20 ?_
  refine a_bipush (by decide) d61_21 ?_
  refine a_newa (t := .int) (x := 88) (n := 76) n1 sp_76 (by decide) d61_23 ?_
  refine a_putR (k := 2) (r := some 76) gk_61_22_72 fn_61_7_2 (Nat.le_of_ble_eq_true rfl) (by decide) d61_25 ?_
  refine a_aload_n (by rfl) (by decide) d61_28 ?_
  refine a_bipush (by decide) d61_29 ?_
  refine a_newa (t := .int) (x := 11) (n := 77) rfl sp_77 (by decide) d61_31 ?_
  refine a_putR (k := 3) (r := some 77) gk_61_26_72 fn_61_7_3 (Nat.le_of_ble_eq_true rfl) (by decide) d61_33 ?_
  refine a_aload_n (by rfl) (by decide) d61_36 ?_
  refine a_bipush (by decide) d61_37 ?_
  refine a_newa (t := .int) (x := 11) (n := 78) rfl sp_78 (by decide) d61_39 ?_
  refine a_putR (k := 4) (r := some 78) gk_61_29_72 fn_61_7_4 (Nat.le_of_ble_eq_true rfl) (by decide) d61_41 ?_
  refine a_aload_n (by rfl) (by decide) d61_44 ?_
  refine a_bipush (by decide) d61_45 ?_
  refine a_newa (t := .int) (x := 88) (n := 79) rfl sp_79 (by decide) d61_47 ?_
  refine a_putR (k := 5) (r := some 79) gk_61_32_72 fn_61_7_5 (Nat.le_of_ble_eq_true rfl) (by decide) d61_49 ?_
  refine a_aload_n (by rfl) (by decide) d61_52 ?_
  refine a_bipush (by decide) d61_53 ?_
  refine a_newa (t := .int) (x := 88) (n := 80) rfl sp_80 (by decide) d61_55 ?_
  refine a_putR (k := 6) (r := some 80) gk_61_35_72 fn_61_7_6 (Nat.le_of_ble_eq_true rfl) (by decide) d61_57 ?_
  refine a_aload_n (by rfl) (by decide) d61_60 ?_
  refine a_bipush (by decide) d61_61 ?_
  refine a_newa (t := .int) (x := 88) (n := 81) rfl sp_81 (by decide) d61_63 ?_
  refine a_putR (k := 7) (r := some 81) gk_61_38_72 fn_61_7_7 (Nat.le_of_ble_eq_true rfl) (by decide) d61_65 ?_
  refine a_aload_n (by rfl) (by decide) d61_68 ?_
  refine a_bipush (by decide) d61_69 ?_
  refine a_newa (t := .int) (x := 6) (n := 82) rfl sp_82 (by decide) d61_71 ?_
  refine a_putR (k := 8) (r := some 82) gk_61_41_72 fn_61_7_8 (Nat.le_of_ble_eq_true rfl) (by decide) d61_73 ?_
  refine a_vret rv_61 d61_76 (k _ _ _ rfl (fun b hb' => ?_) (fun hz => zi1 (mset_0 (hz))) (fun hz => zj1 (hz)) f1_0 f1_1 rfl rfl rfl rfl rfl rfl rfl rfl)
  have hb : b ≠ 72 := fun q => hb' (by omega)
  refine ⟨?_, ?_, ?_⟩
  · first | rfl | simp only [gset_o hb, (u1 b (by omega)).1]
  · first | rfl | simp only [mset_o hb, (u1 b (by omega)).2.1]
  · first | rfl | simp only [mset_o hb, (u1 b (by omega)).2.2]
theorem ct_OneWire_Calls_83 (hn : G.1 = 84) (k : ∀ G' I' J', G'.1 = 94 → (∀ b, ¬ (83 ≤ b ∧ b < 94) → G'.2 b = G.2 b ∧ I' b = I b ∧ J' b = J b) → (ZM I → ZM I') → (ZM J → ZM J') → (G'.2 83 ((1 : Nat) : Int) = some 84) → (G'.2 83 ((2 : Nat) : Int) = some 85) → (G'.2 83 ((3 : Nat) : Int) = some 86) → (G'.2 83 ((4 : Nat) : Int) = some 87) → (G'.2 83 ((5 : Nat) : Int) = some 88) → (G'.2 83 ((6 : Nat) : Int) = some 89) → (G'.2 83 ((7 : Nat) : Int) = some 90) → (G'.2 83 ((8 : Nat) : Int) = some 91) → (G'.2 83 ((9 : Nat) : Int) = some 92) → (G'.2 83 ((10 : Nat) : Int) = some 93) → Q none G' I' J') : At d 1 0 [some (vR 83)] [] G I J Q := by
  refine a_aload_n (by rfl) (by decide) d1_0 ?_
  refine a_obj mk_1_3 so_83 (Nat.le_of_ble_eq_true rfl) d1_1 ?_
  refine a_aload_n (by rfl) (by decide) d1_4 ?_
  refine a_iconst (by decide) d1_5 ?_
  refine a_putI (k := 0) gk_1_9_83 fn_1_0_0 (lt_of hn (by decide)) d1_6 ?_
  refine a_aload_n (by rfl) (by decide) d1_9 ?_
  refine a_bipush (by decide) d1_10 ?_
  refine a_newa (t := .int) (x := 60) (n := 84) hn sp_84 (by decide) d1_12 ?_
  refine a_putR (k := 1) (r := some 84) gk_1_15_83 fn_1_0_1 (Nat.le_of_ble_eq_true rfl) (by decide) d1_14 ?_
  refine a_aload_n (by rfl) (by decide) d1_17 ?_
  refine a_bipush (by decide) d1_18 ?_
  refine a_newa (t := .int) (x := 60) (n := 85) rfl sp_85 (by decide) d1_20 ?_
  refine a_putR (k := 2) (r := some 85) gk_1_19_83 fn_1_0_2 (Nat.le_of_ble_eq_true rfl) (by decide) d1_22 ?_
  refine a_aload_n (by rfl) (by decide) d1_25 ?_
  refine a_bipush (by decide) d1_26 ?_
  refine a_newa (t := .int) (x := 60) (n := 86) rfl sp_86 (by decide) d1_28 ?_
  refine a_putR (k := 3) (r := some 86) gk_1_22_83 fn_1_0_3 (Nat.le_of_ble_eq_true rfl) (by decide) d1_30 ?_
  refine a_aload_n (by rfl) (by decide) d1_33 ?_
  refine a_bipush (by decide) d1_34 ?_
  refine a_newa (t := .int) (x := 60) (n := 87) rfl sp_87 (by decide) d1_36 ?_
  refine a_putR (k := 4) (r := some 87) gk_1_25_83 fn_1_0_4 (Nat.le_of_ble_eq_true rfl) (by decide) d1_38 ?_
  refine a_aload_n (by rfl) (by decide) d1_41 ?_
  refine a_bipush (by decide) d1_42 ?_
  refine a_newa (t := .long) (x := 60) (n := 88) rfl sp_88 (by decide) d1_44 ?_
  refine a_putR (k := 5) (r := some 88) gk_1_28_83 fn_1_0_5 (Nat.le_of_ble_eq_true rfl) (by decide) d1_46 ?_
  refine a_aload_n (by rfl) (by decide) d1_49 ?_
  refine a_bipush (by decide) d1_50 ?_
  refine a_newa (t := .int) (x := 60) (n := 89) rfl sp_89 (by decide) d1_52 ?_
  refine a_putR (k := 6) (r := some 89) gk_1_32_83 fn_1_0_6 (Nat.le_of_ble_eq_true rfl) (by decide) d1_54 ?_
  refine a_aload_n (by rfl) (by decide) d1_57 ?_
  refine a_bipush (by decide) d1_58 ?_
  refine a_newa (t := .int) (x := 60) (n := 90) rfl sp_90 (by decide) d1_60 ?_
  refine a_putR (k := 7) (r := some 90) gk_1_35_83 fn_1_0_7 (Nat.le_of_ble_eq_true rfl) (by decide) d1_62 ?_
  refine a_aload_n (by rfl) (by decide) d1_65 ?_
  refine a_bipush (by decide) d1_66 ?_
  refine a_newa (t := .int) (x := 60) (n := 91) rfl sp_91 (by decide) d1_68 ?_
  refine a_putR (k := 8) (r := some 91) gk_1_38_83 fn_1_0_8 (Nat.le_of_ble_eq_true rfl) (by decide) d1_70 ?_
  refine a_aload_n (by rfl) (by decide) d1_73 ?_
  refine a_bipush (by decide) d1_74 ?_
  refine a_newa (t := .int) (x := 60) (n := 92) rfl sp_92 (by decide) d1_76 ?_
  refine a_putR (k := 9) (r := some 92) gk_1_41_83 fn_1_0_9 (Nat.le_of_ble_eq_true rfl) (by decide) d1_78 ?_
  refine a_aload_n (by rfl) (by decide) d1_81 ?_
  refine a_bipush (by decide) d1_82 ?_
  refine a_newa (t := .int) (x := 60) (n := 93) rfl sp_93 (by decide) d1_84 ?_
  refine a_putR (k := 10) (r := some 93) gk_1_44_83 fn_1_0_10 (Nat.le_of_ble_eq_true rfl) (by decide) d1_86 ?_
  refine a_vret rv_1 d1_89 (k _ _ _ rfl (fun b hb' => ?_) (fun hz => mset_0 (hz)) (fun hz => hz) rfl rfl rfl rfl rfl rfl rfl rfl rfl rfl)
  have hb : b ≠ 83 := fun q => hb' (by omega)
  refine ⟨?_, ?_, ?_⟩
  · first | rfl | simp only [gset_o hb]
  · first | rfl | simp only [mset_o hb]
  · first | rfl | simp only [mset_o hb]
theorem ct_OneWire_Wires_94 (hn : G.1 = 95) (k : ∀ G' I' J', G'.1 = 98 → (∀ b, ¬ (94 ≤ b ∧ b < 98) → G'.2 b = G.2 b ∧ I' b = I b ∧ J' b = J b) → (ZM I → ZM I') → (ZM J → ZM J') → (G'.2 94 ((6 : Nat) : Int) = some 95) → (G'.2 94 ((7 : Nat) : Int) = some 96) → (G'.2 94 ((8 : Nat) : Int) = some 97) → Q none G' I' J') : At d 88 0 [some (vR 94)] [] G I J Q := by
  refine a_aload_n (by rfl) (by decide) d88_0 ?_
  refine a_obj mk_88_3 so_94 (Nat.le_of_ble_eq_true rfl) d88_1 ?_
  refine a_aload_n (by rfl) (by decide) d88_4 ?_
  refine a_lconst (v := 0) d88_5 ?_
  refine a_putJ (k := 0) gk_88_9_94 fn_88_9_0 (lt_of hn (by decide)) d88_6 ?_
  refine a_aload_n (by rfl) (by decide) d88_9 ?_
  refine a_iconst (by decide) d88_10 ?_
  refine a_putI (k := 1) gk_88_15_94 fn_88_9_1 (lt_of hn (by decide)) d88_11 ?_
  refine a_aload_n (by rfl) (by decide) d88_14 ?_
  refine a_iconst (by decide) d88_15 ?_
  refine a_putI (k := 2) gk_88_19_94 fn_88_9_2 (lt_of hn (by decide)) d88_16 ?_
  refine a_aload_n (by rfl) (by decide) d88_19 ?_
  refine a_iconst (by decide) d88_20 ?_
  refine a_putI (k := 3) gk_88_22_94 fn_88_9_3 (lt_of hn (by decide)) d88_21 ?_
  refine a_aload_n (by rfl) (by decide) d88_24 ?_
  refine a_iconst (by decide) d88_25 ?_
  refine a_putI (k := 4) gk_88_25_94 fn_88_9_4 (lt_of hn (by decide)) d88_26 ?_
  refine a_aload_n (by rfl) (by decide) d88_29 ?_
  refine a_iconst (by decide) d88_30 ?_
  refine a_putI (k := 5) gk_88_28_94 fn_88_9_5 (lt_of hn (by decide)) d88_31 ?_
  refine a_aload_n (by rfl) (by decide) d88_34 ?_
  refine a_bipush (by decide) d88_35 ?_
  refine a_newa (t := .long) (x := 20) (n := 95) hn sp_95 (by decide) d88_37 ?_
  refine a_putR (k := 6) (r := some 95) gk_88_31_94 fn_88_9_6 (Nat.le_of_ble_eq_true rfl) (by decide) d88_39 ?_
  refine a_aload_n (by rfl) (by decide) d88_42 ?_
  refine a_bipush (by decide) d88_43 ?_
  refine a_newa (t := .int) (x := 10) (n := 96) rfl sp_96 (by decide) d88_45 ?_
  refine a_putR (k := 7) (r := some 96) gk_88_35_94 fn_88_9_7 (Nat.le_of_ble_eq_true rfl) (by decide) d88_47 ?_
  refine a_aload_n (by rfl) (by decide) d88_50 ?_
  refine a_bipush (by decide) d88_51 ?_
  refine a_newa (t := .int) (x := 20) (n := 97) rfl sp_97 (by decide) d88_53 ?_
  refine a_putR (k := 8) (r := some 97) gk_88_39_94 fn_88_9_8 (Nat.le_of_ble_eq_true rfl) (by decide) d88_55 ?_
  refine a_vret rv_88 d88_58 (k _ _ _ rfl (fun b hb' => ?_) (fun hz => mset_0 (mset_0 (mset_0 (mset_0 (mset_0 (hz)))))) (fun hz => mset_0 (hz)) rfl rfl rfl)
  have hb : b ≠ 94 := fun q => hb' (by omega)
  refine ⟨?_, ?_, ?_⟩
  · first | rfl | simp only [gset_o hb]
  · first | rfl | simp only [mset_o hb]
  · first | rfl | simp only [mset_o hb]
theorem ct_OneWire_Ledger_98 (hn : G.1 = 99) (k : ∀ G' I' J', G'.1 = 103 → (∀ b, ¬ (98 ≤ b ∧ b < 103) → G'.2 b = G.2 b ∧ I' b = I b ∧ J' b = J b) → (ZM I → ZM I') → (ZM J → ZM J') → (G'.2 98 ((1 : Nat) : Int) = some 99) → (G'.2 98 ((2 : Nat) : Int) = some 100) → (G'.2 98 ((3 : Nat) : Int) = some 101) → (G'.2 98 ((4 : Nat) : Int) = some 102) → Q none G' I' J') : At d 51 0 [some (vR 98)] [] G I J Q := by
  refine a_aload_n (by rfl) (by decide) d51_0 ?_
  refine a_obj mk_51_3 so_98 (Nat.le_of_ble_eq_true rfl) d51_1 ?_
  refine a_aload_n (by rfl) (by decide) d51_4 ?_
  refine a_iconst (by decide) d51_5 ?_
  refine a_putI (k := 0) gk_51_9_98 fn_51_5_0 (lt_of hn (by decide)) d51_6 ?_
  refine a_aload_n (by rfl) (by decide) d51_9 ?_
  refine a_bipush (by decide) d51_10 ?_
  refine a_newa (t := .int) (x := 60) (n := 99) hn sp_99 (by decide) d51_12 ?_
  refine a_putR (k := 1) (r := some 99) gk_51_15_98 fn_51_5_1 (Nat.le_of_ble_eq_true rfl) (by decide) d51_14 ?_
  refine a_aload_n (by rfl) (by decide) d51_17 ?_
  refine a_bipush (by decide) d51_18 ?_
  refine a_newa (t := .int) (x := 60) (n := 100) rfl sp_100 (by decide) d51_20 ?_
  refine a_putR (k := 2) (r := some 100) gk_51_19_98 fn_51_5_2 (Nat.le_of_ble_eq_true rfl) (by decide) d51_22 ?_
  refine a_aload_n (by rfl) (by decide) d51_25 ?_
  refine a_bipush (by decide) d51_26 ?_
  refine a_newa (t := .int) (x := 60) (n := 101) rfl sp_101 (by decide) d51_28 ?_
  refine a_putR (k := 3) (r := some 101) gk_51_22_98 fn_51_5_3 (Nat.le_of_ble_eq_true rfl) (by decide) d51_30 ?_
  refine a_aload_n (by rfl) (by decide) d51_33 ?_
  refine a_bipush (by decide) d51_34 ?_
  refine a_newa (t := .int) (x := 60) (n := 102) rfl sp_102 (by decide) d51_36 ?_
  refine a_putR (k := 4) (r := some 102) gk_51_25_98 fn_51_5_4 (Nat.le_of_ble_eq_true rfl) (by decide) d51_38 ?_
  refine a_vret rv_51 d51_41 (k _ _ _ rfl (fun b hb' => ?_) (fun hz => mset_0 (hz)) (fun hz => hz) rfl rfl rfl rfl)
  have hb : b ≠ 98 := fun q => hb' (by omega)
  refine ⟨?_, ?_, ?_⟩
  · first | rfl | simp only [gset_o hb]
  · first | rfl | simp only [mset_o hb]
  · first | rfl | simp only [mset_o hb]
theorem ct_OneWire_Meetings_103 (hn : G.1 = 104) (k : ∀ G' I' J', G'.1 = 108 → (∀ b, ¬ (103 ≤ b ∧ b < 108) → G'.2 b = G.2 b ∧ I' b = I b ∧ J' b = J b) → (ZM I → ZM I') → (ZM J → ZM J') → (G'.2 103 ((2 : Nat) : Int) = some 104) → (G'.2 103 ((3 : Nat) : Int) = some 105) → (G'.2 103 ((4 : Nat) : Int) = some 106) → (G'.2 103 ((5 : Nat) : Int) = some 107) → Q none G' I' J') : At d 56 0 [some (vR 103)] [] G I J Q := by
  refine a_aload_n (by rfl) (by decide) d56_0 ?_
  refine a_obj mk_56_3 so_103 (Nat.le_of_ble_eq_true rfl) d56_1 ?_
  refine a_aload_n (by rfl) (by decide) d56_4 ?_
  refine a_iconst (by decide) d56_5 ?_
  refine a_putI (k := 0) gk_56_9_103 fn_56_6_0 (lt_of hn (by decide)) d56_6 ?_
  refine a_aload_n (by rfl) (by decide) d56_9 ?_
  refine a_iconst (by decide) d56_10 ?_
  refine a_putI (k := 1) gk_56_15_103 fn_56_6_1 (lt_of hn (by decide)) d56_11 ?_
  refine a_aload_n (by rfl) (by decide) d56_14 ?_
  refine a_bipush (by decide) d56_15 ?_
  refine a_newa (t := .int) (x := 10) (n := 104) hn sp_104 (by decide) d56_17 ?_
  refine a_putR (k := 2) (r := some 104) gk_56_18_103 fn_56_6_2 (Nat.le_of_ble_eq_true rfl) (by decide) d56_19 ?_
  refine a_aload_n (by rfl) (by decide) d56_22 ?_
  refine a_bipush (by decide) d56_23 ?_
  refine a_newa (t := .int) (x := 10) (n := 105) rfl sp_105 (by decide) d56_25 ?_
  refine a_putR (k := 3) (r := some 105) gk_56_22_103 fn_56_6_3 (Nat.le_of_ble_eq_true rfl) (by decide) d56_27 ?_
  refine a_aload_n (by rfl) (by decide) d56_30 ?_
  refine a_bipush (by decide) d56_31 ?_
  refine a_newa (t := .int) (x := 10) (n := 106) rfl sp_106 (by decide) d56_33 ?_
  refine a_putR (k := 4) (r := some 106) gk_56_25_103 fn_56_6_4 (Nat.le_of_ble_eq_true rfl) (by decide) d56_35 ?_
  refine a_aload_n (by rfl) (by decide) d56_38 ?_
  refine a_bipush (by decide) d56_39 ?_
  refine a_newa (t := .int) (x := 10) (n := 107) rfl sp_107 (by decide) d56_41 ?_
  refine a_putR (k := 5) (r := some 107) gk_56_28_103 fn_56_6_5 (Nat.le_of_ble_eq_true rfl) (by decide) d56_43 ?_
  refine a_vret rv_56 d56_46 (k _ _ _ rfl (fun b hb' => ?_) (fun hz => mset_0 (mset_0 (hz))) (fun hz => hz) rfl rfl rfl rfl)
  have hb : b ≠ 103 := fun q => hb' (by omega)
  refine ⟨?_, ?_, ?_⟩
  · first | rfl | simp only [gset_o hb]
  · first | rfl | simp only [mset_o hb]
  · first | rfl | simp only [mset_o hb]
theorem ct_OneWire_World_64 (hn : G.1 = 65) (k : ∀ G' I' J', G'.1 = 108 → (∀ b, ¬ (64 ≤ b ∧ b < 108) → G'.2 b = G.2 b ∧ I' b = I b ∧ J' b = J b) → (ZM I → ZM I') → (ZM J → ZM J') → (G'.2 65 ((1 : Nat) : Int) = some 66) → (G'.2 65 ((2 : Nat) : Int) = some 67) → (G'.2 65 ((3 : Nat) : Int) = some 68) → (G'.2 65 ((4 : Nat) : Int) = some 69) → (G'.2 65 ((5 : Nat) : Int) = some 70) → (G'.2 65 ((6 : Nat) : Int) = some 71) → (G'.2 64 ((1 : Nat) : Int) = some 65) → (G'.2 73 ((4 : Nat) : Int) = some 74) → (G'.2 73 ((5 : Nat) : Int) = some 75) → (G'.2 72 ((1 : Nat) : Int) = some 73) → (G'.2 72 ((2 : Nat) : Int) = some 76) → (G'.2 72 ((3 : Nat) : Int) = some 77) → (G'.2 72 ((4 : Nat) : Int) = some 78) → (G'.2 72 ((5 : Nat) : Int) = some 79) → (G'.2 72 ((6 : Nat) : Int) = some 80) → (G'.2 72 ((7 : Nat) : Int) = some 81) → (G'.2 72 ((8 : Nat) : Int) = some 82) → (G'.2 64 ((2 : Nat) : Int) = some 72) → (G'.2 83 ((1 : Nat) : Int) = some 84) → (G'.2 83 ((2 : Nat) : Int) = some 85) → (G'.2 83 ((3 : Nat) : Int) = some 86) → (G'.2 83 ((4 : Nat) : Int) = some 87) → (G'.2 83 ((5 : Nat) : Int) = some 88) → (G'.2 83 ((6 : Nat) : Int) = some 89) → (G'.2 83 ((7 : Nat) : Int) = some 90) → (G'.2 83 ((8 : Nat) : Int) = some 91) → (G'.2 83 ((9 : Nat) : Int) = some 92) → (G'.2 83 ((10 : Nat) : Int) = some 93) → (G'.2 64 ((3 : Nat) : Int) = some 83) → (G'.2 94 ((6 : Nat) : Int) = some 95) → (G'.2 94 ((7 : Nat) : Int) = some 96) → (G'.2 94 ((8 : Nat) : Int) = some 97) → (G'.2 64 ((4 : Nat) : Int) = some 94) → (G'.2 98 ((1 : Nat) : Int) = some 99) → (G'.2 98 ((2 : Nat) : Int) = some 100) → (G'.2 98 ((3 : Nat) : Int) = some 101) → (G'.2 98 ((4 : Nat) : Int) = some 102) → (G'.2 64 ((5 : Nat) : Int) = some 98) → (G'.2 103 ((2 : Nat) : Int) = some 104) → (G'.2 103 ((3 : Nat) : Int) = some 105) → (G'.2 103 ((4 : Nat) : Int) = some 106) → (G'.2 103 ((5 : Nat) : Int) = some 107) → (G'.2 64 ((6 : Nat) : Int) = some 103) → Q none G' I' J') : At (d + 2) 97 0 [some (vR 64)] [] G I J Q := by
  refine a_aload_n (by rfl) (by decide) d97_0 ?_
  refine a_obj mk_97_3 so_64 (Nat.le_of_ble_eq_true rfl) d97_1 ?_
  refine a_aload_n (by rfl) (by decide) d97_4 ?_
  refine a_iconst (by decide) d97_5 ?_
  refine a_putI (k := 0) gk_97_9_64 fn_97_10_0 (lt_of hn (by decide)) d97_6 ?_
  refine a_aload_n (by rfl) (by decide) d97_9 ?_
  refine a_new (n := 65) cr_97_15 hn sp_65 (by decide) d97_10 ?_
  refine a_dup (by rfl) d97_13 ?_
  refine a_calI (n := 0) (rest := [vR 65, vR 64]) (E := [some (vR 65)]) mk_97_17 (by decide) np_37 (by rfl) (rcv_0 sp_65 on_37 (Nat.le_of_ble_eq_true rfl)) (Nat.le_of_ble_eq_true rfl) (en_37 _) (eq_37 _) d97_14 (ct_OneWire_Farms_65 (d := d + 1) rfl (fun G1 I1 J1 n1 u1 zi1 zj1 f1_0 f1_1 f1_2 f1_3 f1_4 f1_5 => ?_))
  change At _ _ _ _ [vR 65, vR 64] _ _ _ _
  refine a_putR (k := 1) (r := some 65) gk_97_18_64 fn_97_10_1 (lt_of n1 (by decide)) (by decide) d97_17 ?_
  refine a_aload_n (by rfl) (by decide) d97_20 ?_
  refine a_new (n := 72) cr_97_22 n1 sp_72 (by decide) d97_21 ?_
  refine a_dup (by rfl) d97_24 ?_
  refine a_calI (n := 0) (rest := [vR 72, vR 64]) (E := [some (vR 72)]) mk_97_24 (by decide) np_61 (by rfl) (rcv_0 sp_72 on_61 (Nat.le_of_ble_eq_true rfl)) (Nat.le_of_ble_eq_true rfl) (en_61 _) (eq_61 _) d97_25 (ct_OneWire_Rules_72 (d := d) rfl (fun G2 I2 J2 n2 u2 zi2 zj2 f2_0 f2_1 f2_2 f2_3 f2_4 f2_5 f2_6 f2_7 f2_8 f2_9 => ?_))
  change At _ _ _ _ [vR 72, vR 64] _ _ _ _
  refine a_putR (k := 2) (r := some 72) gk_97_25_64 fn_97_10_2 (lt_of n2 (by decide)) (by decide) d97_28 ?_
  refine a_aload_n (by rfl) (by decide) d97_31 ?_
  refine a_new (n := 83) cr_97_29 n2 sp_83 (by decide) d97_32 ?_
  refine a_dup (by rfl) d97_35 ?_
  refine a_calI (n := 0) (rest := [vR 83, vR 64]) (E := [some (vR 83)]) mk_97_31 (by decide) np_1 (by rfl) (rcv_0 sp_83 on_1 (Nat.le_of_ble_eq_true rfl)) (Nat.le_of_ble_eq_true rfl) (en_1 _) (eq_1 _) d97_36 (ct_OneWire_Calls_83 (d := d + 1) rfl (fun G3 I3 J3 n3 u3 zi3 zj3 f3_0 f3_1 f3_2 f3_3 f3_4 f3_5 f3_6 f3_7 f3_8 f3_9 => ?_))
  change At _ _ _ _ [vR 83, vR 64] _ _ _ _
  refine a_putR (k := 3) (r := some 83) gk_97_32_64 fn_97_10_3 (lt_of n3 (by decide)) (by decide) d97_39 ?_
  refine a_aload_n (by rfl) (by decide) d97_42 ?_
  refine a_new (n := 94) cr_97_36 n3 sp_94 (by decide) d97_43 ?_
  refine a_dup (by rfl) d97_46 ?_
  refine a_calI (n := 0) (rest := [vR 94, vR 64]) (E := [some (vR 94)]) mk_97_38 (by decide) np_88 (by rfl) (rcv_0 sp_94 on_88 (Nat.le_of_ble_eq_true rfl)) (Nat.le_of_ble_eq_true rfl) (en_88 _) (eq_88 _) d97_47 (ct_OneWire_Wires_94 (d := d + 1) rfl (fun G4 I4 J4 n4 u4 zi4 zj4 f4_0 f4_1 f4_2 => ?_))
  change At _ _ _ _ [vR 94, vR 64] _ _ _ _
  refine a_putR (k := 4) (r := some 94) gk_97_39_64 fn_97_10_4 (lt_of n4 (by decide)) (by decide) d97_50 ?_
  refine a_aload_n (by rfl) (by decide) d97_53 ?_
  refine a_new (n := 98) cr_97_43 n4 sp_98 (by decide) d97_54 ?_
  refine a_dup (by rfl) d97_57 ?_
  refine a_calI (n := 0) (rest := [vR 98, vR 64]) (E := [some (vR 98)]) mk_97_45 (by decide) np_51 (by rfl) (rcv_0 sp_98 on_51 (Nat.le_of_ble_eq_true rfl)) (Nat.le_of_ble_eq_true rfl) (en_51 _) (eq_51 _) d97_58 (ct_OneWire_Ledger_98 (d := d + 1) rfl (fun G5 I5 J5 n5 u5 zi5 zj5 f5_0 f5_1 f5_2 f5_3 => ?_))
  change At _ _ _ _ [vR 98, vR 64] _ _ _ _
  refine a_putR (k := 5) (r := some 98) gk_97_46_64 fn_97_10_5 (lt_of n5 (by decide)) (by decide) d97_61 ?_
  refine a_aload_n (by rfl) (by decide) d97_64 ?_
  refine a_new (n := 103) cr_97_50 n5 sp_103 (by decide) d97_65 ?_
  refine a_dup (by rfl) d97_68 ?_
  refine a_calI (n := 0) (rest := [vR 103, vR 64]) (E := [some (vR 103)]) mk_97_52 (by decide) np_56 (by rfl) (rcv_0 sp_103 on_56 (Nat.le_of_ble_eq_true rfl)) (Nat.le_of_ble_eq_true rfl) (en_56 _) (eq_56 _) d97_69 (ct_OneWire_Meetings_103 (d := d + 1) rfl (fun G6 I6 J6 n6 u6 zi6 zj6 f6_0 f6_1 f6_2 f6_3 => ?_))
  change At _ _ _ _ [vR 103, vR 64] _ _ _ _
  refine a_putR (k := 6) (r := some 103) gk_97_53_64 fn_97_10_6 (lt_of n6 (by decide)) (by decide) d97_72 ?_
  refine a_vret rv_97 d97_75 (k _ _ _ n6 (fun b hb' => ?_) (fun hz => zi6 (zi5 (zi4 (zi3 (zi2 (zi1 (mset_0 (hz)))))))) (fun hz => zj6 (zj5 (zj4 (zj3 (zj2 (zj1 (hz))))))) ((congrFun (u6 65 (by omega)).1 _).trans ((congrFun (u5 65 (by omega)).1 _).trans ((congrFun (u4 65 (by omega)).1 _).trans ((congrFun (u3 65 (by omega)).1 _).trans ((congrFun (u2 65 (by omega)).1 _).trans f1_0))))) ((congrFun (u6 65 (by omega)).1 _).trans ((congrFun (u5 65 (by omega)).1 _).trans ((congrFun (u4 65 (by omega)).1 _).trans ((congrFun (u3 65 (by omega)).1 _).trans ((congrFun (u2 65 (by omega)).1 _).trans f1_1))))) ((congrFun (u6 65 (by omega)).1 _).trans ((congrFun (u5 65 (by omega)).1 _).trans ((congrFun (u4 65 (by omega)).1 _).trans ((congrFun (u3 65 (by omega)).1 _).trans ((congrFun (u2 65 (by omega)).1 _).trans f1_2))))) ((congrFun (u6 65 (by omega)).1 _).trans ((congrFun (u5 65 (by omega)).1 _).trans ((congrFun (u4 65 (by omega)).1 _).trans ((congrFun (u3 65 (by omega)).1 _).trans ((congrFun (u2 65 (by omega)).1 _).trans f1_3))))) ((congrFun (u6 65 (by omega)).1 _).trans ((congrFun (u5 65 (by omega)).1 _).trans ((congrFun (u4 65 (by omega)).1 _).trans ((congrFun (u3 65 (by omega)).1 _).trans ((congrFun (u2 65 (by omega)).1 _).trans f1_4))))) ((congrFun (u6 65 (by omega)).1 _).trans ((congrFun (u5 65 (by omega)).1 _).trans ((congrFun (u4 65 (by omega)).1 _).trans ((congrFun (u3 65 (by omega)).1 _).trans ((congrFun (u2 65 (by omega)).1 _).trans f1_5))))) ((congrFun (u6 64 (by omega)).1 _).trans ((congrFun (u5 64 (by omega)).1 _).trans ((congrFun (u4 64 (by omega)).1 _).trans ((congrFun (u3 64 (by omega)).1 _).trans ((congrFun (u2 64 (by omega)).1 _).trans rfl))))) ((congrFun (u6 73 (by omega)).1 _).trans ((congrFun (u5 73 (by omega)).1 _).trans ((congrFun (u4 73 (by omega)).1 _).trans ((congrFun (u3 73 (by omega)).1 _).trans f2_0)))) ((congrFun (u6 73 (by omega)).1 _).trans ((congrFun (u5 73 (by omega)).1 _).trans ((congrFun (u4 73 (by omega)).1 _).trans ((congrFun (u3 73 (by omega)).1 _).trans f2_1)))) ((congrFun (u6 72 (by omega)).1 _).trans ((congrFun (u5 72 (by omega)).1 _).trans ((congrFun (u4 72 (by omega)).1 _).trans ((congrFun (u3 72 (by omega)).1 _).trans f2_2)))) ((congrFun (u6 72 (by omega)).1 _).trans ((congrFun (u5 72 (by omega)).1 _).trans ((congrFun (u4 72 (by omega)).1 _).trans ((congrFun (u3 72 (by omega)).1 _).trans f2_3)))) ((congrFun (u6 72 (by omega)).1 _).trans ((congrFun (u5 72 (by omega)).1 _).trans ((congrFun (u4 72 (by omega)).1 _).trans ((congrFun (u3 72 (by omega)).1 _).trans f2_4)))) ((congrFun (u6 72 (by omega)).1 _).trans ((congrFun (u5 72 (by omega)).1 _).trans ((congrFun (u4 72 (by omega)).1 _).trans ((congrFun (u3 72 (by omega)).1 _).trans f2_5)))) ((congrFun (u6 72 (by omega)).1 _).trans ((congrFun (u5 72 (by omega)).1 _).trans ((congrFun (u4 72 (by omega)).1 _).trans ((congrFun (u3 72 (by omega)).1 _).trans f2_6)))) ((congrFun (u6 72 (by omega)).1 _).trans ((congrFun (u5 72 (by omega)).1 _).trans ((congrFun (u4 72 (by omega)).1 _).trans ((congrFun (u3 72 (by omega)).1 _).trans f2_7)))) ((congrFun (u6 72 (by omega)).1 _).trans ((congrFun (u5 72 (by omega)).1 _).trans ((congrFun (u4 72 (by omega)).1 _).trans ((congrFun (u3 72 (by omega)).1 _).trans f2_8)))) ((congrFun (u6 72 (by omega)).1 _).trans ((congrFun (u5 72 (by omega)).1 _).trans ((congrFun (u4 72 (by omega)).1 _).trans ((congrFun (u3 72 (by omega)).1 _).trans f2_9)))) ((congrFun (u6 64 (by omega)).1 _).trans ((congrFun (u5 64 (by omega)).1 _).trans ((congrFun (u4 64 (by omega)).1 _).trans ((congrFun (u3 64 (by omega)).1 _).trans rfl)))) ((congrFun (u6 83 (by omega)).1 _).trans ((congrFun (u5 83 (by omega)).1 _).trans ((congrFun (u4 83 (by omega)).1 _).trans f3_0))) ((congrFun (u6 83 (by omega)).1 _).trans ((congrFun (u5 83 (by omega)).1 _).trans ((congrFun (u4 83 (by omega)).1 _).trans f3_1))) ((congrFun (u6 83 (by omega)).1 _).trans ((congrFun (u5 83 (by omega)).1 _).trans ((congrFun (u4 83 (by omega)).1 _).trans f3_2))) ((congrFun (u6 83 (by omega)).1 _).trans ((congrFun (u5 83 (by omega)).1 _).trans ((congrFun (u4 83 (by omega)).1 _).trans f3_3))) ((congrFun (u6 83 (by omega)).1 _).trans ((congrFun (u5 83 (by omega)).1 _).trans ((congrFun (u4 83 (by omega)).1 _).trans f3_4))) ((congrFun (u6 83 (by omega)).1 _).trans ((congrFun (u5 83 (by omega)).1 _).trans ((congrFun (u4 83 (by omega)).1 _).trans f3_5))) ((congrFun (u6 83 (by omega)).1 _).trans ((congrFun (u5 83 (by omega)).1 _).trans ((congrFun (u4 83 (by omega)).1 _).trans f3_6))) ((congrFun (u6 83 (by omega)).1 _).trans ((congrFun (u5 83 (by omega)).1 _).trans ((congrFun (u4 83 (by omega)).1 _).trans f3_7))) ((congrFun (u6 83 (by omega)).1 _).trans ((congrFun (u5 83 (by omega)).1 _).trans ((congrFun (u4 83 (by omega)).1 _).trans f3_8))) ((congrFun (u6 83 (by omega)).1 _).trans ((congrFun (u5 83 (by omega)).1 _).trans ((congrFun (u4 83 (by omega)).1 _).trans f3_9))) ((congrFun (u6 64 (by omega)).1 _).trans ((congrFun (u5 64 (by omega)).1 _).trans ((congrFun (u4 64 (by omega)).1 _).trans rfl))) ((congrFun (u6 94 (by omega)).1 _).trans ((congrFun (u5 94 (by omega)).1 _).trans f4_0)) ((congrFun (u6 94 (by omega)).1 _).trans ((congrFun (u5 94 (by omega)).1 _).trans f4_1)) ((congrFun (u6 94 (by omega)).1 _).trans ((congrFun (u5 94 (by omega)).1 _).trans f4_2)) ((congrFun (u6 64 (by omega)).1 _).trans ((congrFun (u5 64 (by omega)).1 _).trans rfl)) ((congrFun (u6 98 (by omega)).1 _).trans f5_0) ((congrFun (u6 98 (by omega)).1 _).trans f5_1) ((congrFun (u6 98 (by omega)).1 _).trans f5_2) ((congrFun (u6 98 (by omega)).1 _).trans f5_3) ((congrFun (u6 64 (by omega)).1 _).trans rfl) f6_0 f6_1 f6_2 f6_3 rfl)
  have hb : b ≠ 64 := fun q => hb' (by omega)
  refine ⟨?_, ?_, ?_⟩
  · first | rfl | simp only [gset_o hb, (u6 b (by omega)).1, (u5 b (by omega)).1, (u4 b (by omega)).1, (u3 b (by omega)).1, (u2 b (by omega)).1, (u1 b (by omega)).1]
  · first | rfl | simp only [mset_o hb, (u6 b (by omega)).2.1, (u5 b (by omega)).2.1, (u4 b (by omega)).2.1, (u3 b (by omega)).2.1, (u2 b (by omega)).2.1, (u1 b (by omega)).2.1]
  · first | rfl | simp only [mset_o hb, (u6 b (by omega)).2.2, (u5 b (by omega)).2.2, (u4 b (by omega)).2.2, (u3 b (by omega)).2.2, (u2 b (by omega)).2.2, (u1 b (by omega)).2.2]
theorem ct_OneWire_Farms_2 (hn : G.1 = 3) (k : ∀ G' I' J', G'.1 = 9 → (∀ b, ¬ (2 ≤ b ∧ b < 9) → G'.2 b = G.2 b ∧ I' b = I b ∧ J' b = J b) → (ZM I → ZM I') → (ZM J → ZM J') → (G'.2 2 ((1 : Nat) : Int) = some 3) → (G'.2 2 ((2 : Nat) : Int) = some 4) → (G'.2 2 ((3 : Nat) : Int) = some 5) → (G'.2 2 ((4 : Nat) : Int) = some 6) → (G'.2 2 ((5 : Nat) : Int) = some 7) → (G'.2 2 ((6 : Nat) : Int) = some 8) → Q none G' I' J') : At d 37 0 [some (vR 2)] [] G I J Q := by
  refine a_aload_n (by rfl) (by decide) d37_0 ?_
  refine a_obj mk_37_3 so_2 (Nat.le_of_ble_eq_true rfl) d37_1 ?_
  refine a_aload_n (by rfl) (by decide) d37_4 ?_
  refine a_iconst (by decide) d37_5 ?_
  refine a_putI (k := 0) gk_37_9_2 fn_37_4_0 (lt_of hn (by decide)) d37_6 ?_
  refine a_aload_n (by rfl) (by decide) d37_9 ?_
  refine a_bipush (by decide) d37_10 ?_
  refine a_newa (t := .int) (x := 12) (n := 3) hn sp_3 (by decide) d37_12 ?_
  refine a_putR (k := 1) (r := some 3) gk_37_15_2 fn_37_4_1 (Nat.le_of_ble_eq_true rfl) (by decide) d37_14 ?_
  refine a_aload_n (by rfl) (by decide) d37_17 ?_
  refine a_bipush (by decide) d37_18 ?_
  refine a_newa (t := .int) (x := 12) (n := 4) rfl sp_4 (by decide) d37_20 ?_
  refine a_putR (k := 2) (r := some 4) gk_37_19_2 fn_37_4_2 (Nat.le_of_ble_eq_true rfl) (by decide) d37_22 ?_
  refine a_aload_n (by rfl) (by decide) d37_25 ?_
  refine a_bipush (by decide) d37_26 ?_
  refine a_newa (t := .int) (x := 12) (n := 5) rfl sp_5 (by decide) d37_28 ?_
  refine a_putR (k := 3) (r := some 5) gk_37_22_2 fn_37_4_3 (Nat.le_of_ble_eq_true rfl) (by decide) d37_30 ?_
  refine a_aload_n (by rfl) (by decide) d37_33 ?_
  refine a_bipush (by decide) d37_34 ?_
  refine a_newa (t := .int) (x := 12) (n := 6) rfl sp_6 (by decide) d37_36 ?_
  refine a_putR (k := 4) (r := some 6) gk_37_25_2 fn_37_4_4 (Nat.le_of_ble_eq_true rfl) (by decide) d37_38 ?_
  refine a_aload_n (by rfl) (by decide) d37_41 ?_
  refine a_bipush (by decide) d37_42 ?_
  refine a_newa (t := .int) (x := 12) (n := 7) rfl sp_7 (by decide) d37_44 ?_
  refine a_putR (k := 5) (r := some 7) gk_37_28_2 fn_37_4_5 (Nat.le_of_ble_eq_true rfl) (by decide) d37_46 ?_
  refine a_aload_n (by rfl) (by decide) d37_49 ?_
  refine a_bipush (by decide) d37_50 ?_
  refine a_newa (t := .int) (x := 12) (n := 8) rfl sp_8 (by decide) d37_52 ?_
  refine a_putR (k := 6) (r := some 8) gk_37_31_2 fn_37_4_6 (Nat.le_of_ble_eq_true rfl) (by decide) d37_54 ?_
  refine a_vret rv_37 d37_57 (k _ _ _ rfl (fun b hb' => ?_) (fun hz => mset_0 (hz)) (fun hz => hz) rfl rfl rfl rfl rfl rfl)
  have hb : b ≠ 2 := fun q => hb' (by omega)
  refine ⟨?_, ?_, ?_⟩
  · first | rfl | simp only [gset_o hb]
  · first | rfl | simp only [mset_o hb]
  · first | rfl | simp only [mset_o hb]
theorem ct_OneWire_Tape_10 (hn : G.1 = 11) (k : ∀ G' I' J', G'.1 = 13 → (∀ b, ¬ (10 ≤ b ∧ b < 13) → G'.2 b = G.2 b ∧ I' b = I b ∧ J' b = J b) → (ZM I → ZM I') → (ZM J → ZM J') → (G'.2 10 ((4 : Nat) : Int) = some 11) → (G'.2 10 ((5 : Nat) : Int) = some 12) → Q none G' I' J') : At d 73 0 [some (vR 10)] [] G I J Q := by
  refine a_aload_n (by rfl) (by decide) d73_0 ?_
  refine a_obj mk_73_3 so_10 (Nat.le_of_ble_eq_true rfl) d73_1 ?_
  refine a_aload_n (by rfl) (by decide) d73_4 ?_
  refine a_iconst (by decide) d73_5 ?_
  refine a_putI (k := 0) gk_73_9_10 fn_73_8_0 (lt_of hn (by decide)) d73_6 ?_
  refine a_aload_n (by rfl) (by decide) d73_9 ?_
  refine a_iconst (by decide) d73_10 ?_
  refine a_putI (k := 1) gk_73_15_10 fn_73_8_1 (lt_of hn (by decide)) d73_11 ?_
  refine a_aload_n (by rfl) (by decide) d73_14 ?_
  refine a_iconst (by decide) d73_15 ?_
  refine a_putI (k := 2) gk_73_18_10 fn_73_8_2 (lt_of hn (by decide)) d73_16 ?_
  refine a_aload_n (by rfl) (by decide) d73_19 ?_
  refine a_iconst (by decide) d73_20 ?_
  refine a_putZ (k := 3) gk_73_21_10 fn_73_8_3 (lt_of hn (by decide)) (by decide) d73_21 ?_
  refine a_aload_n (by rfl) (by decide) d73_24 ?_
  refine a_sipush (by decide) d73_25 ?_
  refine a_newa (t := .int) (x := 1320) (n := 11) hn sp_11 (by decide) d73_28 ?_
  refine a_putR (k := 4) (r := some 11) gk_73_25_10 fn_73_8_4 (Nat.le_of_ble_eq_true rfl) (by decide) d73_30 ?_
  refine a_aload_n (by rfl) (by decide) d73_33 ?_
  refine a_bipush (by decide) d73_34 ?_
  refine a_newa (t := .byte) (x := 120) (n := 12) rfl sp_12 (by decide) d73_36 ?_
  refine a_putR (k := 5) (r := some 12) gk_73_29_10 fn_73_8_5 (Nat.le_of_ble_eq_true rfl) (by decide) d73_38 ?_
  refine a_vret rv_73 d73_41 (k _ _ _ rfl (fun b hb' => ?_) (fun hz => mset_0 (mset_0 (mset_0 (mset_0 (hz))))) (fun hz => hz) rfl rfl)
  have hb : b ≠ 10 := fun q => hb' (by omega)
  refine ⟨?_, ?_, ?_⟩
  · first | rfl | simp only [gset_o hb]
  · first | rfl | simp only [mset_o hb]
  · first | rfl | simp only [mset_o hb]
theorem ct_OneWire_Rules_9 (hn : G.1 = 10) (k : ∀ G' I' J', G'.1 = 20 → (∀ b, ¬ (9 ≤ b ∧ b < 20) → G'.2 b = G.2 b ∧ I' b = I b ∧ J' b = J b) → (ZM I → ZM I') → (ZM J → ZM J') → (G'.2 10 ((4 : Nat) : Int) = some 11) → (G'.2 10 ((5 : Nat) : Int) = some 12) → (G'.2 9 ((1 : Nat) : Int) = some 10) → (G'.2 9 ((2 : Nat) : Int) = some 13) → (G'.2 9 ((3 : Nat) : Int) = some 14) → (G'.2 9 ((4 : Nat) : Int) = some 15) → (G'.2 9 ((5 : Nat) : Int) = some 16) → (G'.2 9 ((6 : Nat) : Int) = some 17) → (G'.2 9 ((7 : Nat) : Int) = some 18) → (G'.2 9 ((8 : Nat) : Int) = some 19) → Q none G' I' J') : At (d + 1) 61 0 [some (vR 9)] [] G I J Q := by
  refine a_aload_n (by rfl) (by decide) d61_0 ?_
  refine a_obj mk_61_3 so_9 (Nat.le_of_ble_eq_true rfl) d61_1 ?_
  refine a_aload_n (by rfl) (by decide) d61_4 ?_
  refine a_iconst (by decide) d61_5 ?_
  refine a_putI (k := 0) gk_61_9_9 fn_61_7_0 (lt_of hn (by decide)) d61_6 ?_
  refine a_aload_n (by rfl) (by decide) d61_9 ?_
  refine a_new (n := 10) cr_61_15 hn sp_10 (by decide) d61_10 ?_
  refine a_dup (by rfl) d61_13 ?_
  refine a_calI (n := 0) (rest := [vR 10, vR 9]) (E := [some (vR 10)]) mk_61_17 (by decide) np_73 (by rfl) (rcv_0 sp_10 on_73 (Nat.le_of_ble_eq_true rfl)) (Nat.le_of_ble_eq_true rfl) (en_73 _) (eq_73 _) d61_14 (ct_OneWire_Tape_10 (d := d) rfl (fun G1 I1 J1 n1 u1 zi1 zj1 f1_0 f1_1 => ?_))
  change At _ _ _ _ [vR 10, vR 9] _ _ _ _
  refine a_putR (k := 1) (r := some 10) gk_61_18_9 fn_61_7_1 (lt_of n1 (by decide)) (by decide) d61_17 ?_
  refine a_aload_n (by rfl) (by decide) d61_20 ?_
  refine a_bipush (by decide) d61_21 ?_
  refine a_newa (t := .int) (x := 88) (n := 13) n1 sp_13 (by decide) d61_23 ?_
  refine a_putR (k := 2) (r := some 13) gk_61_22_9 fn_61_7_2 (Nat.le_of_ble_eq_true rfl) (by decide) d61_25 ?_
  refine a_aload_n (by rfl) (by decide) d61_28 ?_
  refine a_bipush (by decide) d61_29 ?_
  refine a_newa (t := .int) (x := 11) (n := 14) rfl sp_14 (by decide) d61_31 ?_
  refine a_putR (k := 3) (r := some 14) gk_61_26_9 fn_61_7_3 (Nat.le_of_ble_eq_true rfl) (by decide) d61_33 ?_
  refine a_aload_n (by rfl) (by decide) d61_36 ?_
  refine a_bipush (by decide) d61_37 ?_
  refine a_newa (t := .int) (x := 11) (n := 15) rfl sp_15 (by decide) d61_39 ?_
  refine a_putR (k := 4) (r := some 15) gk_61_29_9 fn_61_7_4 (Nat.le_of_ble_eq_true rfl) (by decide) d61_41 ?_
  refine a_aload_n (by rfl) (by decide) d61_44 ?_
  refine a_bipush (by decide) d61_45 ?_
  refine a_newa (t := .int) (x := 88) (n := 16) rfl sp_16 (by decide) d61_47 ?_
  refine a_putR (k := 5) (r := some 16) gk_61_32_9 fn_61_7_5 (Nat.le_of_ble_eq_true rfl) (by decide) d61_49 ?_
  refine a_aload_n (by rfl) (by decide) d61_52 ?_
  refine a_bipush (by decide) d61_53 ?_
  refine a_newa (t := .int) (x := 88) (n := 17) rfl sp_17 (by decide) d61_55 ?_
  refine a_putR (k := 6) (r := some 17) gk_61_35_9 fn_61_7_6 (Nat.le_of_ble_eq_true rfl) (by decide) d61_57 ?_
  refine a_aload_n (by rfl) (by decide) d61_60 ?_
  refine a_bipush (by decide) d61_61 ?_
  refine a_newa (t := .int) (x := 88) (n := 18) rfl sp_18 (by decide) d61_63 ?_
  refine a_putR (k := 7) (r := some 18) gk_61_38_9 fn_61_7_7 (Nat.le_of_ble_eq_true rfl) (by decide) d61_65 ?_
  refine a_aload_n (by rfl) (by decide) d61_68 ?_
  refine a_bipush (by decide) d61_69 ?_
  refine a_newa (t := .int) (x := 6) (n := 19) rfl sp_19 (by decide) d61_71 ?_
  refine a_putR (k := 8) (r := some 19) gk_61_41_9 fn_61_7_8 (Nat.le_of_ble_eq_true rfl) (by decide) d61_73 ?_
  refine a_vret rv_61 d61_76 (k _ _ _ rfl (fun b hb' => ?_) (fun hz => zi1 (mset_0 (hz))) (fun hz => zj1 (hz)) f1_0 f1_1 rfl rfl rfl rfl rfl rfl rfl rfl)
  have hb : b ≠ 9 := fun q => hb' (by omega)
  refine ⟨?_, ?_, ?_⟩
  · first | rfl | simp only [gset_o hb, (u1 b (by omega)).1]
  · first | rfl | simp only [mset_o hb, (u1 b (by omega)).2.1]
  · first | rfl | simp only [mset_o hb, (u1 b (by omega)).2.2]
theorem ct_OneWire_Calls_20 (hn : G.1 = 21) (k : ∀ G' I' J', G'.1 = 31 → (∀ b, ¬ (20 ≤ b ∧ b < 31) → G'.2 b = G.2 b ∧ I' b = I b ∧ J' b = J b) → (ZM I → ZM I') → (ZM J → ZM J') → (G'.2 20 ((1 : Nat) : Int) = some 21) → (G'.2 20 ((2 : Nat) : Int) = some 22) → (G'.2 20 ((3 : Nat) : Int) = some 23) → (G'.2 20 ((4 : Nat) : Int) = some 24) → (G'.2 20 ((5 : Nat) : Int) = some 25) → (G'.2 20 ((6 : Nat) : Int) = some 26) → (G'.2 20 ((7 : Nat) : Int) = some 27) → (G'.2 20 ((8 : Nat) : Int) = some 28) → (G'.2 20 ((9 : Nat) : Int) = some 29) → (G'.2 20 ((10 : Nat) : Int) = some 30) → Q none G' I' J') : At d 1 0 [some (vR 20)] [] G I J Q := by
  refine a_aload_n (by rfl) (by decide) d1_0 ?_
  refine a_obj mk_1_3 so_20 (Nat.le_of_ble_eq_true rfl) d1_1 ?_
  refine a_aload_n (by rfl) (by decide) d1_4 ?_
  refine a_iconst (by decide) d1_5 ?_
  refine a_putI (k := 0) gk_1_9_20 fn_1_0_0 (lt_of hn (by decide)) d1_6 ?_
  refine a_aload_n (by rfl) (by decide) d1_9 ?_
  refine a_bipush (by decide) d1_10 ?_
  refine a_newa (t := .int) (x := 60) (n := 21) hn sp_21 (by decide) d1_12 ?_
  refine a_putR (k := 1) (r := some 21) gk_1_15_20 fn_1_0_1 (Nat.le_of_ble_eq_true rfl) (by decide) d1_14 ?_
  refine a_aload_n (by rfl) (by decide) d1_17 ?_
  refine a_bipush (by decide) d1_18 ?_
  refine a_newa (t := .int) (x := 60) (n := 22) rfl sp_22 (by decide) d1_20 ?_
  refine a_putR (k := 2) (r := some 22) gk_1_19_20 fn_1_0_2 (Nat.le_of_ble_eq_true rfl) (by decide) d1_22 ?_
  refine a_aload_n (by rfl) (by decide) d1_25 ?_
  refine a_bipush (by decide) d1_26 ?_
  refine a_newa (t := .int) (x := 60) (n := 23) rfl sp_23 (by decide) d1_28 ?_
  refine a_putR (k := 3) (r := some 23) gk_1_22_20 fn_1_0_3 (Nat.le_of_ble_eq_true rfl) (by decide) d1_30 ?_
  refine a_aload_n (by rfl) (by decide) d1_33 ?_
  refine a_bipush (by decide) d1_34 ?_
  refine a_newa (t := .int) (x := 60) (n := 24) rfl sp_24 (by decide) d1_36 ?_
  refine a_putR (k := 4) (r := some 24) gk_1_25_20 fn_1_0_4 (Nat.le_of_ble_eq_true rfl) (by decide) d1_38 ?_
  refine a_aload_n (by rfl) (by decide) d1_41 ?_
  refine a_bipush (by decide) d1_42 ?_
  refine a_newa (t := .long) (x := 60) (n := 25) rfl sp_25 (by decide) d1_44 ?_
  refine a_putR (k := 5) (r := some 25) gk_1_28_20 fn_1_0_5 (Nat.le_of_ble_eq_true rfl) (by decide) d1_46 ?_
  refine a_aload_n (by rfl) (by decide) d1_49 ?_
  refine a_bipush (by decide) d1_50 ?_
  refine a_newa (t := .int) (x := 60) (n := 26) rfl sp_26 (by decide) d1_52 ?_
  refine a_putR (k := 6) (r := some 26) gk_1_32_20 fn_1_0_6 (Nat.le_of_ble_eq_true rfl) (by decide) d1_54 ?_
  refine a_aload_n (by rfl) (by decide) d1_57 ?_
  refine a_bipush (by decide) d1_58 ?_
  refine a_newa (t := .int) (x := 60) (n := 27) rfl sp_27 (by decide) d1_60 ?_
  refine a_putR (k := 7) (r := some 27) gk_1_35_20 fn_1_0_7 (Nat.le_of_ble_eq_true rfl) (by decide) d1_62 ?_
  refine a_aload_n (by rfl) (by decide) d1_65 ?_
  refine a_bipush (by decide) d1_66 ?_
  refine a_newa (t := .int) (x := 60) (n := 28) rfl sp_28 (by decide) d1_68 ?_
  refine a_putR (k := 8) (r := some 28) gk_1_38_20 fn_1_0_8 (Nat.le_of_ble_eq_true rfl) (by decide) d1_70 ?_
  refine a_aload_n (by rfl) (by decide) d1_73 ?_
  refine a_bipush (by decide) d1_74 ?_
  refine a_newa (t := .int) (x := 60) (n := 29) rfl sp_29 (by decide) d1_76 ?_
  refine a_putR (k := 9) (r := some 29) gk_1_41_20 fn_1_0_9 (Nat.le_of_ble_eq_true rfl) (by decide) d1_78 ?_
  refine a_aload_n (by rfl) (by decide) d1_81 ?_
  refine a_bipush (by decide) d1_82 ?_
  refine a_newa (t := .int) (x := 60) (n := 30) rfl sp_30 (by decide) d1_84 ?_
  refine a_putR (k := 10) (r := some 30) gk_1_44_20 fn_1_0_10 (Nat.le_of_ble_eq_true rfl) (by decide) d1_86 ?_
  refine a_vret rv_1 d1_89 (k _ _ _ rfl (fun b hb' => ?_) (fun hz => mset_0 (hz)) (fun hz => hz) rfl rfl rfl rfl rfl rfl rfl rfl rfl rfl)
  have hb : b ≠ 20 := fun q => hb' (by omega)
  refine ⟨?_, ?_, ?_⟩
  · first | rfl | simp only [gset_o hb]
  · first | rfl | simp only [mset_o hb]
  · first | rfl | simp only [mset_o hb]
theorem ct_OneWire_Wires_31 (hn : G.1 = 32) (k : ∀ G' I' J', G'.1 = 35 → (∀ b, ¬ (31 ≤ b ∧ b < 35) → G'.2 b = G.2 b ∧ I' b = I b ∧ J' b = J b) → (ZM I → ZM I') → (ZM J → ZM J') → (G'.2 31 ((6 : Nat) : Int) = some 32) → (G'.2 31 ((7 : Nat) : Int) = some 33) → (G'.2 31 ((8 : Nat) : Int) = some 34) → Q none G' I' J') : At d 88 0 [some (vR 31)] [] G I J Q := by
  refine a_aload_n (by rfl) (by decide) d88_0 ?_
  refine a_obj mk_88_3 so_31 (Nat.le_of_ble_eq_true rfl) d88_1 ?_
  refine a_aload_n (by rfl) (by decide) d88_4 ?_
  refine a_lconst (v := 0) d88_5 ?_
  refine a_putJ (k := 0) gk_88_9_31 fn_88_9_0 (lt_of hn (by decide)) d88_6 ?_
  refine a_aload_n (by rfl) (by decide) d88_9 ?_
  refine a_iconst (by decide) d88_10 ?_
  refine a_putI (k := 1) gk_88_15_31 fn_88_9_1 (lt_of hn (by decide)) d88_11 ?_
  refine a_aload_n (by rfl) (by decide) d88_14 ?_
  refine a_iconst (by decide) d88_15 ?_
  refine a_putI (k := 2) gk_88_19_31 fn_88_9_2 (lt_of hn (by decide)) d88_16 ?_
  refine a_aload_n (by rfl) (by decide) d88_19 ?_
  refine a_iconst (by decide) d88_20 ?_
  refine a_putI (k := 3) gk_88_22_31 fn_88_9_3 (lt_of hn (by decide)) d88_21 ?_
  refine a_aload_n (by rfl) (by decide) d88_24 ?_
  refine a_iconst (by decide) d88_25 ?_
  refine a_putI (k := 4) gk_88_25_31 fn_88_9_4 (lt_of hn (by decide)) d88_26 ?_
  refine a_aload_n (by rfl) (by decide) d88_29 ?_
  refine a_iconst (by decide) d88_30 ?_
  refine a_putI (k := 5) gk_88_28_31 fn_88_9_5 (lt_of hn (by decide)) d88_31 ?_
  refine a_aload_n (by rfl) (by decide) d88_34 ?_
  refine a_bipush (by decide) d88_35 ?_
  refine a_newa (t := .long) (x := 20) (n := 32) hn sp_32 (by decide) d88_37 ?_
  refine a_putR (k := 6) (r := some 32) gk_88_31_31 fn_88_9_6 (Nat.le_of_ble_eq_true rfl) (by decide) d88_39 ?_
  refine a_aload_n (by rfl) (by decide) d88_42 ?_
  refine a_bipush (by decide) d88_43 ?_
  refine a_newa (t := .int) (x := 10) (n := 33) rfl sp_33 (by decide) d88_45 ?_
  refine a_putR (k := 7) (r := some 33) gk_88_35_31 fn_88_9_7 (Nat.le_of_ble_eq_true rfl) (by decide) d88_47 ?_
  refine a_aload_n (by rfl) (by decide) d88_50 ?_
  refine a_bipush (by decide) d88_51 ?_
  refine a_newa (t := .int) (x := 20) (n := 34) rfl sp_34 (by decide) d88_53 ?_
  refine a_putR (k := 8) (r := some 34) gk_88_39_31 fn_88_9_8 (Nat.le_of_ble_eq_true rfl) (by decide) d88_55 ?_
  refine a_vret rv_88 d88_58 (k _ _ _ rfl (fun b hb' => ?_) (fun hz => mset_0 (mset_0 (mset_0 (mset_0 (mset_0 (hz)))))) (fun hz => mset_0 (hz)) rfl rfl rfl)
  have hb : b ≠ 31 := fun q => hb' (by omega)
  refine ⟨?_, ?_, ?_⟩
  · first | rfl | simp only [gset_o hb]
  · first | rfl | simp only [mset_o hb]
  · first | rfl | simp only [mset_o hb]
theorem ct_OneWire_Ledger_35 (hn : G.1 = 36) (k : ∀ G' I' J', G'.1 = 40 → (∀ b, ¬ (35 ≤ b ∧ b < 40) → G'.2 b = G.2 b ∧ I' b = I b ∧ J' b = J b) → (ZM I → ZM I') → (ZM J → ZM J') → (G'.2 35 ((1 : Nat) : Int) = some 36) → (G'.2 35 ((2 : Nat) : Int) = some 37) → (G'.2 35 ((3 : Nat) : Int) = some 38) → (G'.2 35 ((4 : Nat) : Int) = some 39) → Q none G' I' J') : At d 51 0 [some (vR 35)] [] G I J Q := by
  refine a_aload_n (by rfl) (by decide) d51_0 ?_
  refine a_obj mk_51_3 so_35 (Nat.le_of_ble_eq_true rfl) d51_1 ?_
  refine a_aload_n (by rfl) (by decide) d51_4 ?_
  refine a_iconst (by decide) d51_5 ?_
  refine a_putI (k := 0) gk_51_9_35 fn_51_5_0 (lt_of hn (by decide)) d51_6 ?_
  refine a_aload_n (by rfl) (by decide) d51_9 ?_
  refine a_bipush (by decide) d51_10 ?_
  refine a_newa (t := .int) (x := 60) (n := 36) hn sp_36 (by decide) d51_12 ?_
  refine a_putR (k := 1) (r := some 36) gk_51_15_35 fn_51_5_1 (Nat.le_of_ble_eq_true rfl) (by decide) d51_14 ?_
  refine a_aload_n (by rfl) (by decide) d51_17 ?_
  refine a_bipush (by decide) d51_18 ?_
  refine a_newa (t := .int) (x := 60) (n := 37) rfl sp_37 (by decide) d51_20 ?_
  refine a_putR (k := 2) (r := some 37) gk_51_19_35 fn_51_5_2 (Nat.le_of_ble_eq_true rfl) (by decide) d51_22 ?_
  refine a_aload_n (by rfl) (by decide) d51_25 ?_
  refine a_bipush (by decide) d51_26 ?_
  refine a_newa (t := .int) (x := 60) (n := 38) rfl sp_38 (by decide) d51_28 ?_
  refine a_putR (k := 3) (r := some 38) gk_51_22_35 fn_51_5_3 (Nat.le_of_ble_eq_true rfl) (by decide) d51_30 ?_
  refine a_aload_n (by rfl) (by decide) d51_33 ?_
  refine a_bipush (by decide) d51_34 ?_
  refine a_newa (t := .int) (x := 60) (n := 39) rfl sp_39 (by decide) d51_36 ?_
  refine a_putR (k := 4) (r := some 39) gk_51_25_35 fn_51_5_4 (Nat.le_of_ble_eq_true rfl) (by decide) d51_38 ?_
  refine a_vret rv_51 d51_41 (k _ _ _ rfl (fun b hb' => ?_) (fun hz => mset_0 (hz)) (fun hz => hz) rfl rfl rfl rfl)
  have hb : b ≠ 35 := fun q => hb' (by omega)
  refine ⟨?_, ?_, ?_⟩
  · first | rfl | simp only [gset_o hb]
  · first | rfl | simp only [mset_o hb]
  · first | rfl | simp only [mset_o hb]
theorem ct_OneWire_Meetings_40 (hn : G.1 = 41) (k : ∀ G' I' J', G'.1 = 45 → (∀ b, ¬ (40 ≤ b ∧ b < 45) → G'.2 b = G.2 b ∧ I' b = I b ∧ J' b = J b) → (ZM I → ZM I') → (ZM J → ZM J') → (G'.2 40 ((2 : Nat) : Int) = some 41) → (G'.2 40 ((3 : Nat) : Int) = some 42) → (G'.2 40 ((4 : Nat) : Int) = some 43) → (G'.2 40 ((5 : Nat) : Int) = some 44) → Q none G' I' J') : At d 56 0 [some (vR 40)] [] G I J Q := by
  refine a_aload_n (by rfl) (by decide) d56_0 ?_
  refine a_obj mk_56_3 so_40 (Nat.le_of_ble_eq_true rfl) d56_1 ?_
  refine a_aload_n (by rfl) (by decide) d56_4 ?_
  refine a_iconst (by decide) d56_5 ?_
  refine a_putI (k := 0) gk_56_9_40 fn_56_6_0 (lt_of hn (by decide)) d56_6 ?_
  refine a_aload_n (by rfl) (by decide) d56_9 ?_
  refine a_iconst (by decide) d56_10 ?_
  refine a_putI (k := 1) gk_56_15_40 fn_56_6_1 (lt_of hn (by decide)) d56_11 ?_
  refine a_aload_n (by rfl) (by decide) d56_14 ?_
  refine a_bipush (by decide) d56_15 ?_
  refine a_newa (t := .int) (x := 10) (n := 41) hn sp_41 (by decide) d56_17 ?_
  refine a_putR (k := 2) (r := some 41) gk_56_18_40 fn_56_6_2 (Nat.le_of_ble_eq_true rfl) (by decide) d56_19 ?_
  refine a_aload_n (by rfl) (by decide) d56_22 ?_
  refine a_bipush (by decide) d56_23 ?_
  refine a_newa (t := .int) (x := 10) (n := 42) rfl sp_42 (by decide) d56_25 ?_
  refine a_putR (k := 3) (r := some 42) gk_56_22_40 fn_56_6_3 (Nat.le_of_ble_eq_true rfl) (by decide) d56_27 ?_
  refine a_aload_n (by rfl) (by decide) d56_30 ?_
  refine a_bipush (by decide) d56_31 ?_
  refine a_newa (t := .int) (x := 10) (n := 43) rfl sp_43 (by decide) d56_33 ?_
  refine a_putR (k := 4) (r := some 43) gk_56_25_40 fn_56_6_4 (Nat.le_of_ble_eq_true rfl) (by decide) d56_35 ?_
  refine a_aload_n (by rfl) (by decide) d56_38 ?_
  refine a_bipush (by decide) d56_39 ?_
  refine a_newa (t := .int) (x := 10) (n := 44) rfl sp_44 (by decide) d56_41 ?_
  refine a_putR (k := 5) (r := some 44) gk_56_28_40 fn_56_6_5 (Nat.le_of_ble_eq_true rfl) (by decide) d56_43 ?_
  refine a_vret rv_56 d56_46 (k _ _ _ rfl (fun b hb' => ?_) (fun hz => mset_0 (mset_0 (hz))) (fun hz => hz) rfl rfl rfl rfl)
  have hb : b ≠ 40 := fun q => hb' (by omega)
  refine ⟨?_, ?_, ?_⟩
  · first | rfl | simp only [gset_o hb]
  · first | rfl | simp only [mset_o hb]
  · first | rfl | simp only [mset_o hb]
theorem ct_OneWire_World_1 (hn : G.1 = 2) (k : ∀ G' I' J', G'.1 = 45 → (∀ b, ¬ (1 ≤ b ∧ b < 45) → G'.2 b = G.2 b ∧ I' b = I b ∧ J' b = J b) → (ZM I → ZM I') → (ZM J → ZM J') → (G'.2 2 ((1 : Nat) : Int) = some 3) → (G'.2 2 ((2 : Nat) : Int) = some 4) → (G'.2 2 ((3 : Nat) : Int) = some 5) → (G'.2 2 ((4 : Nat) : Int) = some 6) → (G'.2 2 ((5 : Nat) : Int) = some 7) → (G'.2 2 ((6 : Nat) : Int) = some 8) → (G'.2 1 ((1 : Nat) : Int) = some 2) → (G'.2 10 ((4 : Nat) : Int) = some 11) → (G'.2 10 ((5 : Nat) : Int) = some 12) → (G'.2 9 ((1 : Nat) : Int) = some 10) → (G'.2 9 ((2 : Nat) : Int) = some 13) → (G'.2 9 ((3 : Nat) : Int) = some 14) → (G'.2 9 ((4 : Nat) : Int) = some 15) → (G'.2 9 ((5 : Nat) : Int) = some 16) → (G'.2 9 ((6 : Nat) : Int) = some 17) → (G'.2 9 ((7 : Nat) : Int) = some 18) → (G'.2 9 ((8 : Nat) : Int) = some 19) → (G'.2 1 ((2 : Nat) : Int) = some 9) → (G'.2 20 ((1 : Nat) : Int) = some 21) → (G'.2 20 ((2 : Nat) : Int) = some 22) → (G'.2 20 ((3 : Nat) : Int) = some 23) → (G'.2 20 ((4 : Nat) : Int) = some 24) → (G'.2 20 ((5 : Nat) : Int) = some 25) → (G'.2 20 ((6 : Nat) : Int) = some 26) → (G'.2 20 ((7 : Nat) : Int) = some 27) → (G'.2 20 ((8 : Nat) : Int) = some 28) → (G'.2 20 ((9 : Nat) : Int) = some 29) → (G'.2 20 ((10 : Nat) : Int) = some 30) → (G'.2 1 ((3 : Nat) : Int) = some 20) → (G'.2 31 ((6 : Nat) : Int) = some 32) → (G'.2 31 ((7 : Nat) : Int) = some 33) → (G'.2 31 ((8 : Nat) : Int) = some 34) → (G'.2 1 ((4 : Nat) : Int) = some 31) → (G'.2 35 ((1 : Nat) : Int) = some 36) → (G'.2 35 ((2 : Nat) : Int) = some 37) → (G'.2 35 ((3 : Nat) : Int) = some 38) → (G'.2 35 ((4 : Nat) : Int) = some 39) → (G'.2 1 ((5 : Nat) : Int) = some 35) → (G'.2 40 ((2 : Nat) : Int) = some 41) → (G'.2 40 ((3 : Nat) : Int) = some 42) → (G'.2 40 ((4 : Nat) : Int) = some 43) → (G'.2 40 ((5 : Nat) : Int) = some 44) → (G'.2 1 ((6 : Nat) : Int) = some 40) → Q none G' I' J') : At (d + 2) 97 0 [some (vR 1)] [] G I J Q := by
  refine a_aload_n (by rfl) (by decide) d97_0 ?_
  refine a_obj mk_97_3 so_1 (Nat.le_of_ble_eq_true rfl) d97_1 ?_
  refine a_aload_n (by rfl) (by decide) d97_4 ?_
  refine a_iconst (by decide) d97_5 ?_
  refine a_putI (k := 0) gk_97_9_1 fn_97_10_0 (lt_of hn (by decide)) d97_6 ?_
  refine a_aload_n (by rfl) (by decide) d97_9 ?_
  refine a_new (n := 2) cr_97_15 hn sp_2 (by decide) d97_10 ?_
  refine a_dup (by rfl) d97_13 ?_
  refine a_calI (n := 0) (rest := [vR 2, vR 1]) (E := [some (vR 2)]) mk_97_17 (by decide) np_37 (by rfl) (rcv_0 sp_2 on_37 (Nat.le_of_ble_eq_true rfl)) (Nat.le_of_ble_eq_true rfl) (en_37 _) (eq_37 _) d97_14 (ct_OneWire_Farms_2 (d := d + 1) rfl (fun G1 I1 J1 n1 u1 zi1 zj1 f1_0 f1_1 f1_2 f1_3 f1_4 f1_5 => ?_))
  change At _ _ _ _ [vR 2, vR 1] _ _ _ _
  refine a_putR (k := 1) (r := some 2) gk_97_18_1 fn_97_10_1 (lt_of n1 (by decide)) (by decide) d97_17 ?_
  refine a_aload_n (by rfl) (by decide) d97_20 ?_
  refine a_new (n := 9) cr_97_22 n1 sp_9 (by decide) d97_21 ?_
  refine a_dup (by rfl) d97_24 ?_
  refine a_calI (n := 0) (rest := [vR 9, vR 1]) (E := [some (vR 9)]) mk_97_24 (by decide) np_61 (by rfl) (rcv_0 sp_9 on_61 (Nat.le_of_ble_eq_true rfl)) (Nat.le_of_ble_eq_true rfl) (en_61 _) (eq_61 _) d97_25 (ct_OneWire_Rules_9 (d := d) rfl (fun G2 I2 J2 n2 u2 zi2 zj2 f2_0 f2_1 f2_2 f2_3 f2_4 f2_5 f2_6 f2_7 f2_8 f2_9 => ?_))
  change At _ _ _ _ [vR 9, vR 1] _ _ _ _
  refine a_putR (k := 2) (r := some 9) gk_97_25_1 fn_97_10_2 (lt_of n2 (by decide)) (by decide) d97_28 ?_
  refine a_aload_n (by rfl) (by decide) d97_31 ?_
  refine a_new (n := 20) cr_97_29 n2 sp_20 (by decide) d97_32 ?_
  refine a_dup (by rfl) d97_35 ?_
  refine a_calI (n := 0) (rest := [vR 20, vR 1]) (E := [some (vR 20)]) mk_97_31 (by decide) np_1 (by rfl) (rcv_0 sp_20 on_1 (Nat.le_of_ble_eq_true rfl)) (Nat.le_of_ble_eq_true rfl) (en_1 _) (eq_1 _) d97_36 (ct_OneWire_Calls_20 (d := d + 1) rfl (fun G3 I3 J3 n3 u3 zi3 zj3 f3_0 f3_1 f3_2 f3_3 f3_4 f3_5 f3_6 f3_7 f3_8 f3_9 => ?_))
  change At _ _ _ _ [vR 20, vR 1] _ _ _ _
  refine a_putR (k := 3) (r := some 20) gk_97_32_1 fn_97_10_3 (lt_of n3 (by decide)) (by decide) d97_39 ?_
  refine a_aload_n (by rfl) (by decide) d97_42 ?_
  refine a_new (n := 31) cr_97_36 n3 sp_31 (by decide) d97_43 ?_
  refine a_dup (by rfl) d97_46 ?_
  refine a_calI (n := 0) (rest := [vR 31, vR 1]) (E := [some (vR 31)]) mk_97_38 (by decide) np_88 (by rfl) (rcv_0 sp_31 on_88 (Nat.le_of_ble_eq_true rfl)) (Nat.le_of_ble_eq_true rfl) (en_88 _) (eq_88 _) d97_47 (ct_OneWire_Wires_31 (d := d + 1) rfl (fun G4 I4 J4 n4 u4 zi4 zj4 f4_0 f4_1 f4_2 => ?_))
  change At _ _ _ _ [vR 31, vR 1] _ _ _ _
  refine a_putR (k := 4) (r := some 31) gk_97_39_1 fn_97_10_4 (lt_of n4 (by decide)) (by decide) d97_50 ?_
  refine a_aload_n (by rfl) (by decide) d97_53 ?_
  refine a_new (n := 35) cr_97_43 n4 sp_35 (by decide) d97_54 ?_
  refine a_dup (by rfl) d97_57 ?_
  refine a_calI (n := 0) (rest := [vR 35, vR 1]) (E := [some (vR 35)]) mk_97_45 (by decide) np_51 (by rfl) (rcv_0 sp_35 on_51 (Nat.le_of_ble_eq_true rfl)) (Nat.le_of_ble_eq_true rfl) (en_51 _) (eq_51 _) d97_58 (ct_OneWire_Ledger_35 (d := d + 1) rfl (fun G5 I5 J5 n5 u5 zi5 zj5 f5_0 f5_1 f5_2 f5_3 => ?_))
  change At _ _ _ _ [vR 35, vR 1] _ _ _ _
  refine a_putR (k := 5) (r := some 35) gk_97_46_1 fn_97_10_5 (lt_of n5 (by decide)) (by decide) d97_61 ?_
  refine a_aload_n (by rfl) (by decide) d97_64 ?_
  refine a_new (n := 40) cr_97_50 n5 sp_40 (by decide) d97_65 ?_
  refine a_dup (by rfl) d97_68 ?_
  refine a_calI (n := 0) (rest := [vR 40, vR 1]) (E := [some (vR 40)]) mk_97_52 (by decide) np_56 (by rfl) (rcv_0 sp_40 on_56 (Nat.le_of_ble_eq_true rfl)) (Nat.le_of_ble_eq_true rfl) (en_56 _) (eq_56 _) d97_69 (ct_OneWire_Meetings_40 (d := d + 1) rfl (fun G6 I6 J6 n6 u6 zi6 zj6 f6_0 f6_1 f6_2 f6_3 => ?_))
  change At _ _ _ _ [vR 40, vR 1] _ _ _ _
  refine a_putR (k := 6) (r := some 40) gk_97_53_1 fn_97_10_6 (lt_of n6 (by decide)) (by decide) d97_72 ?_
  refine a_vret rv_97 d97_75 (k _ _ _ n6 (fun b hb' => ?_) (fun hz => zi6 (zi5 (zi4 (zi3 (zi2 (zi1 (mset_0 (hz)))))))) (fun hz => zj6 (zj5 (zj4 (zj3 (zj2 (zj1 (hz))))))) ((congrFun (u6 2 (by omega)).1 _).trans ((congrFun (u5 2 (by omega)).1 _).trans ((congrFun (u4 2 (by omega)).1 _).trans ((congrFun (u3 2 (by omega)).1 _).trans ((congrFun (u2 2 (by omega)).1 _).trans f1_0))))) ((congrFun (u6 2 (by omega)).1 _).trans ((congrFun (u5 2 (by omega)).1 _).trans ((congrFun (u4 2 (by omega)).1 _).trans ((congrFun (u3 2 (by omega)).1 _).trans ((congrFun (u2 2 (by omega)).1 _).trans f1_1))))) ((congrFun (u6 2 (by omega)).1 _).trans ((congrFun (u5 2 (by omega)).1 _).trans ((congrFun (u4 2 (by omega)).1 _).trans ((congrFun (u3 2 (by omega)).1 _).trans ((congrFun (u2 2 (by omega)).1 _).trans f1_2))))) ((congrFun (u6 2 (by omega)).1 _).trans ((congrFun (u5 2 (by omega)).1 _).trans ((congrFun (u4 2 (by omega)).1 _).trans ((congrFun (u3 2 (by omega)).1 _).trans ((congrFun (u2 2 (by omega)).1 _).trans f1_3))))) ((congrFun (u6 2 (by omega)).1 _).trans ((congrFun (u5 2 (by omega)).1 _).trans ((congrFun (u4 2 (by omega)).1 _).trans ((congrFun (u3 2 (by omega)).1 _).trans ((congrFun (u2 2 (by omega)).1 _).trans f1_4))))) ((congrFun (u6 2 (by omega)).1 _).trans ((congrFun (u5 2 (by omega)).1 _).trans ((congrFun (u4 2 (by omega)).1 _).trans ((congrFun (u3 2 (by omega)).1 _).trans ((congrFun (u2 2 (by omega)).1 _).trans f1_5))))) ((congrFun (u6 1 (by omega)).1 _).trans ((congrFun (u5 1 (by omega)).1 _).trans ((congrFun (u4 1 (by omega)).1 _).trans ((congrFun (u3 1 (by omega)).1 _).trans ((congrFun (u2 1 (by omega)).1 _).trans rfl))))) ((congrFun (u6 10 (by omega)).1 _).trans ((congrFun (u5 10 (by omega)).1 _).trans ((congrFun (u4 10 (by omega)).1 _).trans ((congrFun (u3 10 (by omega)).1 _).trans f2_0)))) ((congrFun (u6 10 (by omega)).1 _).trans ((congrFun (u5 10 (by omega)).1 _).trans ((congrFun (u4 10 (by omega)).1 _).trans ((congrFun (u3 10 (by omega)).1 _).trans f2_1)))) ((congrFun (u6 9 (by omega)).1 _).trans ((congrFun (u5 9 (by omega)).1 _).trans ((congrFun (u4 9 (by omega)).1 _).trans ((congrFun (u3 9 (by omega)).1 _).trans f2_2)))) ((congrFun (u6 9 (by omega)).1 _).trans ((congrFun (u5 9 (by omega)).1 _).trans ((congrFun (u4 9 (by omega)).1 _).trans ((congrFun (u3 9 (by omega)).1 _).trans f2_3)))) ((congrFun (u6 9 (by omega)).1 _).trans ((congrFun (u5 9 (by omega)).1 _).trans ((congrFun (u4 9 (by omega)).1 _).trans ((congrFun (u3 9 (by omega)).1 _).trans f2_4)))) ((congrFun (u6 9 (by omega)).1 _).trans ((congrFun (u5 9 (by omega)).1 _).trans ((congrFun (u4 9 (by omega)).1 _).trans ((congrFun (u3 9 (by omega)).1 _).trans f2_5)))) ((congrFun (u6 9 (by omega)).1 _).trans ((congrFun (u5 9 (by omega)).1 _).trans ((congrFun (u4 9 (by omega)).1 _).trans ((congrFun (u3 9 (by omega)).1 _).trans f2_6)))) ((congrFun (u6 9 (by omega)).1 _).trans ((congrFun (u5 9 (by omega)).1 _).trans ((congrFun (u4 9 (by omega)).1 _).trans ((congrFun (u3 9 (by omega)).1 _).trans f2_7)))) ((congrFun (u6 9 (by omega)).1 _).trans ((congrFun (u5 9 (by omega)).1 _).trans ((congrFun (u4 9 (by omega)).1 _).trans ((congrFun (u3 9 (by omega)).1 _).trans f2_8)))) ((congrFun (u6 9 (by omega)).1 _).trans ((congrFun (u5 9 (by omega)).1 _).trans ((congrFun (u4 9 (by omega)).1 _).trans ((congrFun (u3 9 (by omega)).1 _).trans f2_9)))) ((congrFun (u6 1 (by omega)).1 _).trans ((congrFun (u5 1 (by omega)).1 _).trans ((congrFun (u4 1 (by omega)).1 _).trans ((congrFun (u3 1 (by omega)).1 _).trans rfl)))) ((congrFun (u6 20 (by omega)).1 _).trans ((congrFun (u5 20 (by omega)).1 _).trans ((congrFun (u4 20 (by omega)).1 _).trans f3_0))) ((congrFun (u6 20 (by omega)).1 _).trans ((congrFun (u5 20 (by omega)).1 _).trans ((congrFun (u4 20 (by omega)).1 _).trans f3_1))) ((congrFun (u6 20 (by omega)).1 _).trans ((congrFun (u5 20 (by omega)).1 _).trans ((congrFun (u4 20 (by omega)).1 _).trans f3_2))) ((congrFun (u6 20 (by omega)).1 _).trans ((congrFun (u5 20 (by omega)).1 _).trans ((congrFun (u4 20 (by omega)).1 _).trans f3_3))) ((congrFun (u6 20 (by omega)).1 _).trans ((congrFun (u5 20 (by omega)).1 _).trans ((congrFun (u4 20 (by omega)).1 _).trans f3_4))) ((congrFun (u6 20 (by omega)).1 _).trans ((congrFun (u5 20 (by omega)).1 _).trans ((congrFun (u4 20 (by omega)).1 _).trans f3_5))) ((congrFun (u6 20 (by omega)).1 _).trans ((congrFun (u5 20 (by omega)).1 _).trans ((congrFun (u4 20 (by omega)).1 _).trans f3_6))) ((congrFun (u6 20 (by omega)).1 _).trans ((congrFun (u5 20 (by omega)).1 _).trans ((congrFun (u4 20 (by omega)).1 _).trans f3_7))) ((congrFun (u6 20 (by omega)).1 _).trans ((congrFun (u5 20 (by omega)).1 _).trans ((congrFun (u4 20 (by omega)).1 _).trans f3_8))) ((congrFun (u6 20 (by omega)).1 _).trans ((congrFun (u5 20 (by omega)).1 _).trans ((congrFun (u4 20 (by omega)).1 _).trans f3_9))) ((congrFun (u6 1 (by omega)).1 _).trans ((congrFun (u5 1 (by omega)).1 _).trans ((congrFun (u4 1 (by omega)).1 _).trans rfl))) ((congrFun (u6 31 (by omega)).1 _).trans ((congrFun (u5 31 (by omega)).1 _).trans f4_0)) ((congrFun (u6 31 (by omega)).1 _).trans ((congrFun (u5 31 (by omega)).1 _).trans f4_1)) ((congrFun (u6 31 (by omega)).1 _).trans ((congrFun (u5 31 (by omega)).1 _).trans f4_2)) ((congrFun (u6 1 (by omega)).1 _).trans ((congrFun (u5 1 (by omega)).1 _).trans rfl)) ((congrFun (u6 35 (by omega)).1 _).trans f5_0) ((congrFun (u6 35 (by omega)).1 _).trans f5_1) ((congrFun (u6 35 (by omega)).1 _).trans f5_2) ((congrFun (u6 35 (by omega)).1 _).trans f5_3) ((congrFun (u6 1 (by omega)).1 _).trans rfl) f6_0 f6_1 f6_2 f6_3 rfl)
  have hb : b ≠ 1 := fun q => hb' (by omega)
  refine ⟨?_, ?_, ?_⟩
  · first | rfl | simp only [gset_o hb, (u6 b (by omega)).1, (u5 b (by omega)).1, (u4 b (by omega)).1, (u3 b (by omega)).1, (u2 b (by omega)).1, (u1 b (by omega)).1]
  · first | rfl | simp only [mset_o hb, (u6 b (by omega)).2.1, (u5 b (by omega)).2.1, (u4 b (by omega)).2.1, (u3 b (by omega)).2.1, (u2 b (by omega)).2.1, (u1 b (by omega)).2.1]
  · first | rfl | simp only [mset_o hb, (u6 b (by omega)).2.2, (u5 b (by omega)).2.2, (u4 b (by omega)).2.2, (u3 b (by omega)).2.2, (u2 b (by omega)).2.2, (u1 b (by omega)).2.2]
theorem ct_OneWire_Exchange_45 (hn : G.1 = 46) (k : ∀ G' I' J', G'.1 = 48 → (∀ b, ¬ (45 ≤ b ∧ b < 48) → G'.2 b = G.2 b ∧ I' b = I b ∧ J' b = J b) → (ZM I → ZM I') → (ZM J → ZM J') → (G'.2 45 ((0 : Nat) : Int) = some 46) → (G'.2 45 ((1 : Nat) : Int) = some 47) → Q none G' I' J') : At d 30 0 [some (vR 45)] [] G I J Q := by
  refine a_aload_n (by rfl) (by decide) d30_0 ?_
  refine a_obj mk_30_3 so_45 (Nat.le_of_ble_eq_true rfl) d30_1 ?_
  refine a_aload_n (by rfl) (by decide) d30_4 ?_
  refine a_bipush (by decide) d30_5 ?_
  refine a_newa (t := .int) (x := 60) (n := 46) hn sp_46 (by decide) d30_7 ?_
  refine a_putR (k := 0) (r := some 46) gk_30_9_45 fn_30_3_0 (Nat.le_of_ble_eq_true rfl) (by decide) d30_9 ?_
  refine a_aload_n (by rfl) (by decide) d30_12 ?_
  refine a_bipush (by decide) d30_13 ?_
  refine a_newa (t := .int) (x := 60) (n := 47) rfl sp_47 (by decide) d30_15 ?_
  refine a_putR (k := 1) (r := some 47) gk_30_15_45 fn_30_3_1 (Nat.le_of_ble_eq_true rfl) (by decide) d30_17 ?_
  refine a_aload_n (by rfl) (by decide) d30_20 ?_
  refine a_iconst (by decide) d30_21 ?_
  refine a_putI (k := 2) gk_30_18_45 fn_30_3_2 (Nat.le_of_ble_eq_true rfl) d30_22 ?_
  refine a_aload_n (by rfl) (by decide) d30_25 ?_
  refine a_iconst (by decide) d30_26 ?_
  refine a_putI (k := 3) gk_30_22_45 fn_30_3_3 (Nat.le_of_ble_eq_true rfl) d30_27 ?_
  refine a_aload_n (by rfl) (by decide) d30_30 ?_
  refine a_iconst (by decide) d30_31 ?_
  refine a_putI (k := 4) gk_30_25_45 fn_30_3_4 (Nat.le_of_ble_eq_true rfl) d30_32 ?_
  refine a_aload_n (by rfl) (by decide) d30_35 ?_
  refine a_iconst (by decide) d30_36 ?_
  refine a_putI (k := 5) gk_30_28_45 fn_30_3_5 (Nat.le_of_ble_eq_true rfl) d30_37 ?_
  refine a_vret rv_30 d30_40 (k _ _ _ rfl (fun b hb' => ?_) (fun hz => mset_0 (mset_0 (mset_0 (mset_0 (hz))))) (fun hz => hz) rfl rfl)
  have hb : b ≠ 45 := fun q => hb' (by omega)
  refine ⟨?_, ?_, ?_⟩
  · first | rfl | simp only [gset_o hb]
  · first | rfl | simp only [mset_o hb]
  · first | rfl | simp only [mset_o hb]
theorem ct_OneWire_Codes_48 (hn : G.1 = 49) (k : ∀ G' I' J', G'.1 = 51 → (∀ b, ¬ (48 ≤ b ∧ b < 51) → G'.2 b = G.2 b ∧ I' b = I b ∧ J' b = J b) → (ZM I → ZM I') → (ZM J → ZM J') → (G'.2 48 ((1 : Nat) : Int) = some 49) → (G'.2 48 ((5 : Nat) : Int) = some 50) → Q none G' I' J') : At d 19 0 [some (vR 48)] [] G I J Q := by
  refine a_aload_n (by rfl) (by decide) d19_0 ?_
  refine a_obj mk_19_3 so_48 (Nat.le_of_ble_eq_true rfl) d19_1 ?_
  refine a_aload_n (by rfl) (by decide) d19_4 ?_
  refine a_iconst (by decide) d19_5 ?_
  refine a_putI (k := 0) gk_19_9_48 fn_19_1_0 (lt_of hn (by decide)) d19_6 ?_
  refine a_aload_n (by rfl) (by decide) d19_9 ?_
  refine a_iconst (by decide) d19_10 ?_
  refine a_newa (t := .int) (x := 5) (n := 49) hn sp_49 (by decide) d19_11 ?_
  refine a_putR (k := 1) (r := some 49) gk_19_15_48 fn_19_1_1 (Nat.le_of_ble_eq_true rfl) (by decide) d19_13 ?_
  refine a_aload_n (by rfl) (by decide) d19_16 ?_
  refine a_iconst (by decide) d19_17 ?_
  refine a_putI (k := 2) gk_19_19_48 fn_19_1_2 (Nat.le_of_ble_eq_true rfl) d19_18 ?_
  refine a_aload_n (by rfl) (by decide) d19_21 ?_
  refine a_iconst (by decide) d19_22 ?_
  refine a_putI (k := 3) gk_19_22_48 fn_19_1_3 (Nat.le_of_ble_eq_true rfl) d19_23 ?_
  refine a_aload_n (by rfl) (by decide) d19_26 ?_
  refine a_iconst (by decide) d19_27 ?_
  refine a_putI (k := 4) gk_19_25_48 fn_19_1_4 (Nat.le_of_ble_eq_true rfl) d19_28 ?_
  refine a_aload_n (by rfl) (by decide) d19_31 ?_
  refine a_iconst (by decide) d19_32 ?_
  refine a_newa (t := .int) (x := 5) (n := 50) rfl sp_50 (by decide) d19_33 ?_
  refine a_putR (k := 5) (r := some 50) gk_19_28_48 fn_19_1_5 (Nat.le_of_ble_eq_true rfl) (by decide) d19_35 ?_
  refine a_vret rv_19 d19_38 (k _ _ _ rfl (fun b hb' => ?_) (fun hz => mset_0 (mset_0 (mset_0 (mset_0 (hz))))) (fun hz => hz) rfl rfl)
  have hb : b ≠ 48 := fun q => hb' (by omega)
  refine ⟨?_, ?_, ?_⟩
  · first | rfl | simp only [gset_o hb]
  · first | rfl | simp only [mset_o hb]
  · first | rfl | simp only [mset_o hb]
theorem ct_OneWire_Division_51 (hn : G.1 = 52) (k : ∀ G' I' J', G'.1 = 56 → (∀ b, ¬ (51 ≤ b ∧ b < 56) → G'.2 b = G.2 b ∧ I' b = I b ∧ J' b = J b) → (ZM I → ZM I') → (ZM J → ZM J') → (G'.2 51 ((1 : Nat) : Int) = some 52) → (G'.2 51 ((4 : Nat) : Int) = some 53) → (G'.2 51 ((5 : Nat) : Int) = some 54) → (G'.2 51 ((6 : Nat) : Int) = some 55) → Q none G' I' J') : At d 26 0 [some (vR 51)] [] G I J Q := by
  refine a_aload_n (by rfl) (by decide) d26_0 ?_
  refine a_obj mk_26_3 so_51 (Nat.le_of_ble_eq_true rfl) d26_1 ?_
  refine a_aload_n (by rfl) (by decide) d26_4 ?_
  refine a_iconst (by decide) d26_5 ?_
  refine a_putI (k := 0) gk_26_9_51 fn_26_2_0 (lt_of hn (by decide)) d26_6 ?_
  refine a_aload_n (by rfl) (by decide) d26_9 ?_
  refine a_bipush (by decide) d26_10 ?_
  refine a_newa (t := .int) (x := 7) (n := 52) hn sp_52 (by decide) d26_12 ?_
  refine a_putR (k := 1) (r := some 52) gk_26_15_51 fn_26_2_1 (Nat.le_of_ble_eq_true rfl) (by decide) d26_14 ?_
  refine a_aload_n (by rfl) (by decide) d26_17 ?_
  refine a_iconst (by decide) d26_18 ?_
  refine a_putI (k := 2) gk_26_19_51 fn_26_2_2 (Nat.le_of_ble_eq_true rfl) d26_19 ?_
  refine a_aload_n (by rfl) (by decide) d26_22 ?_
  refine a_iconst (by decide) d26_23 ?_
  refine a_putI (k := 3) gk_26_22_51 fn_26_2_3 (Nat.le_of_ble_eq_true rfl) d26_24 ?_
  refine a_aload_n (by rfl) (by decide) d26_27 ?_
  refine a_bipush (by decide) d26_28 ?_
  refine a_newa (t := .int) (x := 7) (n := 53) rfl sp_53 (by decide) d26_30 ?_
  refine a_putR (k := 4) (r := some 53) gk_26_25_51 fn_26_2_4 (Nat.le_of_ble_eq_true rfl) (by decide) d26_32 ?_
  refine a_aload_n (by rfl) (by decide) d26_35 ?_
  refine a_bipush (by decide) d26_36 ?_
  refine a_newa (t := .int) (x := 49) (n := 54) rfl sp_54 (by decide) d26_38 ?_
  refine a_putR (k := 5) (r := some 54) gk_26_28_51 fn_26_2_5 (Nat.le_of_ble_eq_true rfl) (by decide) d26_40 ?_
  refine a_aload_n (by rfl) (by decide) d26_43 ?_
  refine a_bipush (by decide) d26_44 ?_
  refine a_newa (t := .int) (x := 7) (n := 55) rfl sp_55 (by decide) d26_46 ?_
  refine a_putR (k := 6) (r := some 55) gk_26_31_51 fn_26_2_6 (Nat.le_of_ble_eq_true rfl) (by decide) d26_48 ?_
  refine a_vret rv_26 d26_51 (k _ _ _ rfl (fun b hb' => ?_) (fun hz => mset_0 (mset_0 (mset_0 (hz)))) (fun hz => hz) rfl rfl rfl rfl)
  have hb : b ≠ 51 := fun q => hb' (by omega)
  refine ⟨?_, ?_, ?_⟩
  · first | rfl | simp only [gset_o hb]
  · first | rfl | simp only [mset_o hb]
  · first | rfl | simp only [mset_o hb]
theorem ct_OneWire_0 (hn : G.1 = 1) (k : ∀ G' I' J', G'.1 = 56 → (∀ b, ¬ (0 ≤ b ∧ b < 56) → G'.2 b = G.2 b ∧ I' b = I b ∧ J' b = J b) → (ZM I → ZM I') → (ZM J → ZM J') → (G'.2 2 ((1 : Nat) : Int) = some 3) → (G'.2 2 ((2 : Nat) : Int) = some 4) → (G'.2 2 ((3 : Nat) : Int) = some 5) → (G'.2 2 ((4 : Nat) : Int) = some 6) → (G'.2 2 ((5 : Nat) : Int) = some 7) → (G'.2 2 ((6 : Nat) : Int) = some 8) → (G'.2 1 ((1 : Nat) : Int) = some 2) → (G'.2 10 ((4 : Nat) : Int) = some 11) → (G'.2 10 ((5 : Nat) : Int) = some 12) → (G'.2 9 ((1 : Nat) : Int) = some 10) → (G'.2 9 ((2 : Nat) : Int) = some 13) → (G'.2 9 ((3 : Nat) : Int) = some 14) → (G'.2 9 ((4 : Nat) : Int) = some 15) → (G'.2 9 ((5 : Nat) : Int) = some 16) → (G'.2 9 ((6 : Nat) : Int) = some 17) → (G'.2 9 ((7 : Nat) : Int) = some 18) → (G'.2 9 ((8 : Nat) : Int) = some 19) → (G'.2 1 ((2 : Nat) : Int) = some 9) → (G'.2 20 ((1 : Nat) : Int) = some 21) → (G'.2 20 ((2 : Nat) : Int) = some 22) → (G'.2 20 ((3 : Nat) : Int) = some 23) → (G'.2 20 ((4 : Nat) : Int) = some 24) → (G'.2 20 ((5 : Nat) : Int) = some 25) → (G'.2 20 ((6 : Nat) : Int) = some 26) → (G'.2 20 ((7 : Nat) : Int) = some 27) → (G'.2 20 ((8 : Nat) : Int) = some 28) → (G'.2 20 ((9 : Nat) : Int) = some 29) → (G'.2 20 ((10 : Nat) : Int) = some 30) → (G'.2 1 ((3 : Nat) : Int) = some 20) → (G'.2 31 ((6 : Nat) : Int) = some 32) → (G'.2 31 ((7 : Nat) : Int) = some 33) → (G'.2 31 ((8 : Nat) : Int) = some 34) → (G'.2 1 ((4 : Nat) : Int) = some 31) → (G'.2 35 ((1 : Nat) : Int) = some 36) → (G'.2 35 ((2 : Nat) : Int) = some 37) → (G'.2 35 ((3 : Nat) : Int) = some 38) → (G'.2 35 ((4 : Nat) : Int) = some 39) → (G'.2 1 ((5 : Nat) : Int) = some 35) → (G'.2 40 ((2 : Nat) : Int) = some 41) → (G'.2 40 ((3 : Nat) : Int) = some 42) → (G'.2 40 ((4 : Nat) : Int) = some 43) → (G'.2 40 ((5 : Nat) : Int) = some 44) → (G'.2 1 ((6 : Nat) : Int) = some 40) → (G'.2 0 ((0 : Nat) : Int) = some 1) → (G'.2 45 ((0 : Nat) : Int) = some 46) → (G'.2 45 ((1 : Nat) : Int) = some 47) → (G'.2 0 ((1 : Nat) : Int) = some 45) → (G'.2 48 ((1 : Nat) : Int) = some 49) → (G'.2 48 ((5 : Nat) : Int) = some 50) → (G'.2 0 ((2 : Nat) : Int) = some 48) → (G'.2 51 ((1 : Nat) : Int) = some 52) → (G'.2 51 ((4 : Nat) : Int) = some 53) → (G'.2 51 ((5 : Nat) : Int) = some 54) → (G'.2 51 ((6 : Nat) : Int) = some 55) → (G'.2 0 ((3 : Nat) : Int) = some 51) → (G.2 0 ((4 : Nat) : Int) = none → G'.2 0 ((4 : Nat) : Int) = none) → Q none G' I' J') : At (d + 3) 108 0 [some (vR 0)] [] G I J Q := by
  refine a_aload_n (by rfl) (by decide) d108_0 ?_
  refine a_obj mk_108_3 so_0 (Nat.le_of_ble_eq_true rfl) d108_1 ?_
  refine a_aload_n (by rfl) (by decide) d108_4 ?_
  refine a_new (n := 1) cr_108_9 hn sp_1 (by decide) d108_5 ?_
  refine a_dup (by rfl) d108_8 ?_
  refine a_calI (n := 0) (rest := [vR 1, vR 0]) (E := [some (vR 1)]) mk_108_11 (by decide) np_97 (by rfl) (rcv_0 sp_1 on_97 (Nat.le_of_ble_eq_true rfl)) (Nat.le_of_ble_eq_true rfl) (en_97 _) (eq_97 _) d108_9 (ct_OneWire_World_1 (d := d) rfl (fun G1 I1 J1 n1 u1 zi1 zj1 f1_0 f1_1 f1_2 f1_3 f1_4 f1_5 f1_6 f1_7 f1_8 f1_9 f1_10 f1_11 f1_12 f1_13 f1_14 f1_15 f1_16 f1_17 f1_18 f1_19 f1_20 f1_21 f1_22 f1_23 f1_24 f1_25 f1_26 f1_27 f1_28 f1_29 f1_30 f1_31 f1_32 f1_33 f1_34 f1_35 f1_36 f1_37 f1_38 f1_39 f1_40 f1_41 f1_42 => ?_))
  change At _ _ _ _ [vR 1, vR 0] _ _ _ _
  refine a_putR (k := 0) (r := some 1) gk_108_12_0 fn_108_11_0 (lt_of n1 (by decide)) (by decide) d108_12 ?_
  refine a_aload_n (by rfl) (by decide) d108_15 ?_
  refine a_new (n := 45) cr_108_16 n1 sp_45 (by decide) d108_16 ?_
  refine a_dup (by rfl) d108_19 ?_
  refine a_calI (n := 0) (rest := [vR 45, vR 0]) (E := [some (vR 45)]) mk_108_18 (by decide) np_30 (by rfl) (rcv_0 sp_45 on_30 (Nat.le_of_ble_eq_true rfl)) (Nat.le_of_ble_eq_true rfl) (en_30 _) (eq_30 _) d108_20 (ct_OneWire_Exchange_45 (d := d + 2) rfl (fun G2 I2 J2 n2 u2 zi2 zj2 f2_0 f2_1 => ?_))
  change At _ _ _ _ [vR 45, vR 0] _ _ _ _
  refine a_putR (k := 1) (r := some 45) gk_108_19_0 fn_108_11_1 (lt_of n2 (by decide)) (by decide) d108_23 ?_
  refine a_aload_n (by rfl) (by decide) d108_26 ?_
  refine a_new (n := 48) cr_108_23 n2 sp_48 (by decide) d108_27 ?_
  refine a_dup (by rfl) d108_30 ?_
  refine a_calI (n := 0) (rest := [vR 48, vR 0]) (E := [some (vR 48)]) mk_108_25 (by decide) np_19 (by rfl) (rcv_0 sp_48 on_19 (Nat.le_of_ble_eq_true rfl)) (Nat.le_of_ble_eq_true rfl) (en_19 _) (eq_19 _) d108_31 (ct_OneWire_Codes_48 (d := d + 2) rfl (fun G3 I3 J3 n3 u3 zi3 zj3 f3_0 f3_1 => ?_))
  change At _ _ _ _ [vR 48, vR 0] _ _ _ _
  refine a_putR (k := 2) (r := some 48) gk_108_26_0 fn_108_11_2 (lt_of n3 (by decide)) (by decide) d108_34 ?_
  refine a_aload_n (by rfl) (by decide) d108_37 ?_
  refine a_new (n := 51) cr_108_30 n3 sp_51 (by decide) d108_38 ?_
  refine a_dup (by rfl) d108_41 ?_
  refine a_calI (n := 0) (rest := [vR 51, vR 0]) (E := [some (vR 51)]) mk_108_32 (by decide) np_26 (by rfl) (rcv_0 sp_51 on_26 (Nat.le_of_ble_eq_true rfl)) (Nat.le_of_ble_eq_true rfl) (en_26 _) (eq_26 _) d108_42 (ct_OneWire_Division_51 (d := d + 2) rfl (fun G4 I4 J4 n4 u4 zi4 zj4 f4_0 f4_1 f4_2 f4_3 => ?_))
  change At _ _ _ _ [vR 51, vR 0] _ _ _ _
  refine a_putR (k := 3) (r := some 51) gk_108_33_0 fn_108_11_3 (lt_of n4 (by decide)) (by decide) d108_45 ?_
  refine a_aload_n (by rfl) (by decide) d108_48 ?_
  refine a_null d108_49 ?_
  refine a_putR (k := 4) (r := none) gk_108_37_0 fn_108_11_4 (lt_of n4 (by decide)) (by decide) d108_50 ?_
  refine a_vret rv_108 d108_53 (k _ _ _ n4 (fun b hb' => ?_) (fun hz => zi4 (zi3 (zi2 (zi1 (hz))))) (fun hz => zj4 (zj3 (zj2 (zj1 (hz))))) ((congrFun (u4 2 (by omega)).1 _).trans ((congrFun (u3 2 (by omega)).1 _).trans ((congrFun (u2 2 (by omega)).1 _).trans f1_0))) ((congrFun (u4 2 (by omega)).1 _).trans ((congrFun (u3 2 (by omega)).1 _).trans ((congrFun (u2 2 (by omega)).1 _).trans f1_1))) ((congrFun (u4 2 (by omega)).1 _).trans ((congrFun (u3 2 (by omega)).1 _).trans ((congrFun (u2 2 (by omega)).1 _).trans f1_2))) ((congrFun (u4 2 (by omega)).1 _).trans ((congrFun (u3 2 (by omega)).1 _).trans ((congrFun (u2 2 (by omega)).1 _).trans f1_3))) ((congrFun (u4 2 (by omega)).1 _).trans ((congrFun (u3 2 (by omega)).1 _).trans ((congrFun (u2 2 (by omega)).1 _).trans f1_4))) ((congrFun (u4 2 (by omega)).1 _).trans ((congrFun (u3 2 (by omega)).1 _).trans ((congrFun (u2 2 (by omega)).1 _).trans f1_5))) ((congrFun (u4 1 (by omega)).1 _).trans ((congrFun (u3 1 (by omega)).1 _).trans ((congrFun (u2 1 (by omega)).1 _).trans f1_6))) ((congrFun (u4 10 (by omega)).1 _).trans ((congrFun (u3 10 (by omega)).1 _).trans ((congrFun (u2 10 (by omega)).1 _).trans f1_7))) ((congrFun (u4 10 (by omega)).1 _).trans ((congrFun (u3 10 (by omega)).1 _).trans ((congrFun (u2 10 (by omega)).1 _).trans f1_8))) ((congrFun (u4 9 (by omega)).1 _).trans ((congrFun (u3 9 (by omega)).1 _).trans ((congrFun (u2 9 (by omega)).1 _).trans f1_9))) ((congrFun (u4 9 (by omega)).1 _).trans ((congrFun (u3 9 (by omega)).1 _).trans ((congrFun (u2 9 (by omega)).1 _).trans f1_10))) ((congrFun (u4 9 (by omega)).1 _).trans ((congrFun (u3 9 (by omega)).1 _).trans ((congrFun (u2 9 (by omega)).1 _).trans f1_11))) ((congrFun (u4 9 (by omega)).1 _).trans ((congrFun (u3 9 (by omega)).1 _).trans ((congrFun (u2 9 (by omega)).1 _).trans f1_12))) ((congrFun (u4 9 (by omega)).1 _).trans ((congrFun (u3 9 (by omega)).1 _).trans ((congrFun (u2 9 (by omega)).1 _).trans f1_13))) ((congrFun (u4 9 (by omega)).1 _).trans ((congrFun (u3 9 (by omega)).1 _).trans ((congrFun (u2 9 (by omega)).1 _).trans f1_14))) ((congrFun (u4 9 (by omega)).1 _).trans ((congrFun (u3 9 (by omega)).1 _).trans ((congrFun (u2 9 (by omega)).1 _).trans f1_15))) ((congrFun (u4 9 (by omega)).1 _).trans ((congrFun (u3 9 (by omega)).1 _).trans ((congrFun (u2 9 (by omega)).1 _).trans f1_16))) ((congrFun (u4 1 (by omega)).1 _).trans ((congrFun (u3 1 (by omega)).1 _).trans ((congrFun (u2 1 (by omega)).1 _).trans f1_17))) ((congrFun (u4 20 (by omega)).1 _).trans ((congrFun (u3 20 (by omega)).1 _).trans ((congrFun (u2 20 (by omega)).1 _).trans f1_18))) ((congrFun (u4 20 (by omega)).1 _).trans ((congrFun (u3 20 (by omega)).1 _).trans ((congrFun (u2 20 (by omega)).1 _).trans f1_19))) ((congrFun (u4 20 (by omega)).1 _).trans ((congrFun (u3 20 (by omega)).1 _).trans ((congrFun (u2 20 (by omega)).1 _).trans f1_20))) ((congrFun (u4 20 (by omega)).1 _).trans ((congrFun (u3 20 (by omega)).1 _).trans ((congrFun (u2 20 (by omega)).1 _).trans f1_21))) ((congrFun (u4 20 (by omega)).1 _).trans ((congrFun (u3 20 (by omega)).1 _).trans ((congrFun (u2 20 (by omega)).1 _).trans f1_22))) ((congrFun (u4 20 (by omega)).1 _).trans ((congrFun (u3 20 (by omega)).1 _).trans ((congrFun (u2 20 (by omega)).1 _).trans f1_23))) ((congrFun (u4 20 (by omega)).1 _).trans ((congrFun (u3 20 (by omega)).1 _).trans ((congrFun (u2 20 (by omega)).1 _).trans f1_24))) ((congrFun (u4 20 (by omega)).1 _).trans ((congrFun (u3 20 (by omega)).1 _).trans ((congrFun (u2 20 (by omega)).1 _).trans f1_25))) ((congrFun (u4 20 (by omega)).1 _).trans ((congrFun (u3 20 (by omega)).1 _).trans ((congrFun (u2 20 (by omega)).1 _).trans f1_26))) ((congrFun (u4 20 (by omega)).1 _).trans ((congrFun (u3 20 (by omega)).1 _).trans ((congrFun (u2 20 (by omega)).1 _).trans f1_27))) ((congrFun (u4 1 (by omega)).1 _).trans ((congrFun (u3 1 (by omega)).1 _).trans ((congrFun (u2 1 (by omega)).1 _).trans f1_28))) ((congrFun (u4 31 (by omega)).1 _).trans ((congrFun (u3 31 (by omega)).1 _).trans ((congrFun (u2 31 (by omega)).1 _).trans f1_29))) ((congrFun (u4 31 (by omega)).1 _).trans ((congrFun (u3 31 (by omega)).1 _).trans ((congrFun (u2 31 (by omega)).1 _).trans f1_30))) ((congrFun (u4 31 (by omega)).1 _).trans ((congrFun (u3 31 (by omega)).1 _).trans ((congrFun (u2 31 (by omega)).1 _).trans f1_31))) ((congrFun (u4 1 (by omega)).1 _).trans ((congrFun (u3 1 (by omega)).1 _).trans ((congrFun (u2 1 (by omega)).1 _).trans f1_32))) ((congrFun (u4 35 (by omega)).1 _).trans ((congrFun (u3 35 (by omega)).1 _).trans ((congrFun (u2 35 (by omega)).1 _).trans f1_33))) ((congrFun (u4 35 (by omega)).1 _).trans ((congrFun (u3 35 (by omega)).1 _).trans ((congrFun (u2 35 (by omega)).1 _).trans f1_34))) ((congrFun (u4 35 (by omega)).1 _).trans ((congrFun (u3 35 (by omega)).1 _).trans ((congrFun (u2 35 (by omega)).1 _).trans f1_35))) ((congrFun (u4 35 (by omega)).1 _).trans ((congrFun (u3 35 (by omega)).1 _).trans ((congrFun (u2 35 (by omega)).1 _).trans f1_36))) ((congrFun (u4 1 (by omega)).1 _).trans ((congrFun (u3 1 (by omega)).1 _).trans ((congrFun (u2 1 (by omega)).1 _).trans f1_37))) ((congrFun (u4 40 (by omega)).1 _).trans ((congrFun (u3 40 (by omega)).1 _).trans ((congrFun (u2 40 (by omega)).1 _).trans f1_38))) ((congrFun (u4 40 (by omega)).1 _).trans ((congrFun (u3 40 (by omega)).1 _).trans ((congrFun (u2 40 (by omega)).1 _).trans f1_39))) ((congrFun (u4 40 (by omega)).1 _).trans ((congrFun (u3 40 (by omega)).1 _).trans ((congrFun (u2 40 (by omega)).1 _).trans f1_40))) ((congrFun (u4 40 (by omega)).1 _).trans ((congrFun (u3 40 (by omega)).1 _).trans ((congrFun (u2 40 (by omega)).1 _).trans f1_41))) ((congrFun (u4 1 (by omega)).1 _).trans ((congrFun (u3 1 (by omega)).1 _).trans ((congrFun (u2 1 (by omega)).1 _).trans f1_42))) ((congrFun (u4 0 (by omega)).1 _).trans ((congrFun (u3 0 (by omega)).1 _).trans ((congrFun (u2 0 (by omega)).1 _).trans rfl))) ((congrFun (u4 45 (by omega)).1 _).trans ((congrFun (u3 45 (by omega)).1 _).trans f2_0)) ((congrFun (u4 45 (by omega)).1 _).trans ((congrFun (u3 45 (by omega)).1 _).trans f2_1)) ((congrFun (u4 0 (by omega)).1 _).trans ((congrFun (u3 0 (by omega)).1 _).trans rfl)) ((congrFun (u4 48 (by omega)).1 _).trans f3_0) ((congrFun (u4 48 (by omega)).1 _).trans f3_1) ((congrFun (u4 0 (by omega)).1 _).trans rfl) f4_0 f4_1 f4_2 f4_3 rfl (fun _ => rfl))
  have hb : b ≠ 0 := fun q => hb' (by omega)
  refine ⟨?_, ?_, ?_⟩
  · first | rfl | simp only [gset_o hb, (u4 b (by omega)).1, (u3 b (by omega)).1, (u2 b (by omega)).1, (u1 b (by omega)).1]
  · first | rfl | simp only [mset_o hb, (u4 b (by omega)).2.1, (u3 b (by omega)).2.1, (u2 b (by omega)).2.1, (u1 b (by omega)).2.1]
  · first | rfl | simp only [mset_o hb, (u4 b (by omega)).2.2, (u3 b (by omega)).2.2, (u2 b (by omega)).2.2, (u1 b (by omega)).2.2]
theorem ct_OneWireModel_56 (hn : G.1 = 57) (k : ∀ G' I' J', G'.1 = 64 → (∀ b, ¬ (56 ≤ b ∧ b < 64) → G'.2 b = G.2 b ∧ I' b = I b ∧ J' b = J b) → (ZM I → ZM I') → (ZM J → ZM J') → (G'.2 56 ((1 : Nat) : Int) = some 57) → (G'.2 56 ((2 : Nat) : Int) = some 58) → (G'.2 56 ((3 : Nat) : Int) = some 59) → (G'.2 56 ((15 : Nat) : Int) = some 60) → (G'.2 56 ((16 : Nat) : Int) = some 61) → (G'.2 56 ((17 : Nat) : Int) = some 62) → (G'.2 56 ((18 : Nat) : Int) = some 63) → Q none G' I' J') : At d 149 0 [some (vR 56)] [] G I J Q := by
  refine a_aload_n (by rfl) (by decide) d149_0 ?_
  refine a_obj mk_149_7 so_56 (Nat.le_of_ble_eq_true rfl) d149_1 ?_
  refine a_aload_n (by rfl) (by decide) d149_4 ?_
  refine a_sipush (by decide) d149_5 ?_
  refine a_newa (t := .int) (x := 2456) (n := 57) hn sp_57 (by decide) d149_8 ?_
  refine a_putR (k := 1) (r := some 57) gk_149_13_56 fn_149_12_1 (Nat.le_of_ble_eq_true rfl) (by decide) d149_10 ?_
  refine a_aload_n (by rfl) (by decide) d149_13 ?_
  refine a_bipush (by decide) d149_14 ?_
  refine a_newa (t := .int) (x := 7) (n := 58) rfl sp_58 (by decide) d149_16 ?_
  refine a_putR (k := 2) (r := some 58) gk_149_17_56 fn_149_12_2 (Nat.le_of_ble_eq_true rfl) (by decide) d149_18 ?_
  refine a_aload_n (by rfl) (by decide) d149_21 ?_
  refine a_bipush (by decide) d149_22 ?_
  refine a_newa (t := .int) (x := 7) (n := 59) rfl sp_59 (by decide) d149_24 ?_
  refine a_putR (k := 3) (r := some 59) gk_149_20_56 fn_149_12_3 (Nat.le_of_ble_eq_true rfl) (by decide) d149_26 ?_
  refine a_aload_n (by rfl) (by decide) d149_29 ?_
  refine a_bipush (by decide) d149_30 ?_
  refine a_newa (t := .boolean) (x := 60) (n := 60) rfl sp_60 (by decide) d149_32 ?_
  refine a_putR (k := 15) (r := some 60) gk_149_23_56 fn_149_12_15 (Nat.le_of_ble_eq_true rfl) (by decide) d149_34 ?_
  refine a_aload_n (by rfl) (by decide) d149_37 ?_
  refine a_bipush (by decide) d149_38 ?_
  refine a_newa (t := .int) (x := 60) (n := 61) rfl sp_61 (by decide) d149_40 ?_
  refine a_putR (k := 16) (r := some 61) gk_149_27_56 fn_149_12_16 (Nat.le_of_ble_eq_true rfl) (by decide) d149_42 ?_
  refine a_aload_n (by rfl) (by decide) d149_45 ?_
  refine a_sipush (by decide) d149_46 ?_
  refine a_newa (t := .int) (x := 144) (n := 62) rfl sp_62 (by decide) d149_49 ?_
  refine a_putR (k := 17) (r := some 62) gk_149_30_56 fn_149_12_17 (Nat.le_of_ble_eq_true rfl) (by decide) d149_51 ?_
  refine a_aload_n (by rfl) (by decide) d149_54 ?_
  refine a_sipush (by decide) d149_55 ?_
  refine a_newa (t := .int) (x := 2456) (n := 63) rfl sp_63 (by decide) d149_58 ?_
  refine a_putR (k := 18) (r := some 63) gk_149_33_56 fn_149_12_18 (Nat.le_of_ble_eq_true rfl) (by decide) d149_60 ?_
  refine a_vret rv_149 d149_63 (k _ _ _ rfl (fun b hb' => ?_) (fun hz => hz) (fun hz => hz) rfl rfl rfl rfl rfl rfl rfl)
  have hb : b ≠ 56 := fun q => hb' (by omega)
  refine ⟨?_, ?_, ?_⟩
  · first | rfl | simp only [gset_o hb]
  · first | rfl | simp only [mset_o hb]
  · first | rfl | simp only [mset_o hb]
end CT
