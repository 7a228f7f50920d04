/-! what stands of the cells in every call of the law: which of them are made (b: the kept World too), where their fields point (by wip/whole/genblocks.py) -/
def refL : List ((Nat × Nat) × Nat) := [((0, 0), 1), ((0, 1), 45), ((0, 2), 48), ((0, 3), 51), ((1, 1), 2), ((1, 2), 9), ((1, 3), 20), ((1, 4), 31), ((1, 5), 35), ((1, 6), 40), ((2, 1), 3), ((2, 2), 4), ((2, 3), 5), ((2, 4), 6), ((2, 5), 7), ((2, 6), 8), ((9, 1), 10), ((9, 2), 13), ((9, 3), 14), ((9, 4), 15), ((9, 5), 16), ((9, 6), 17), ((9, 7), 18), ((9, 8), 19), ((10, 4), 11), ((10, 5), 12), ((20, 1), 21), ((20, 2), 22), ((20, 3), 23), ((20, 4), 24), ((20, 5), 25), ((20, 6), 26), ((20, 7), 27), ((20, 8), 28), ((20, 9), 29), ((20, 10), 30), ((31, 6), 32), ((31, 7), 33), ((31, 8), 34), ((35, 1), 36), ((35, 2), 37), ((35, 3), 38), ((35, 4), 39), ((40, 2), 41), ((40, 3), 42), ((40, 4), 43), ((40, 5), 44), ((45, 0), 46), ((45, 1), 47), ((48, 1), 49), ((48, 5), 50), ((51, 1), 52), ((51, 4), 53), ((51, 5), 54), ((51, 6), 55), ((56, 1), 57), ((56, 2), 58), ((56, 3), 59), ((56, 15), 60), ((56, 16), 61), ((56, 17), 62), ((56, 18), 63)]
def refK : List ((Nat × Nat) × Nat) := [((64, 1), 65), ((64, 2), 72), ((64, 3), 83), ((64, 4), 94), ((64, 5), 98), ((64, 6), 103), ((65, 1), 66), ((65, 2), 67), ((65, 3), 68), ((65, 4), 69), ((65, 5), 70), ((65, 6), 71), ((72, 1), 73), ((72, 2), 76), ((72, 3), 77), ((72, 4), 78), ((72, 5), 79), ((72, 6), 80), ((72, 7), 81), ((72, 8), 82), ((73, 4), 74), ((73, 5), 75), ((83, 1), 84), ((83, 2), 85), ((83, 3), 86), ((83, 4), 87), ((83, 5), 88), ((83, 6), 89), ((83, 7), 90), ((83, 8), 91), ((83, 9), 92), ((83, 10), 93), ((94, 6), 95), ((94, 7), 96), ((94, 8), 97), ((98, 1), 99), ((98, 2), 100), ((98, 3), 101), ((98, 4), 102), ((103, 2), 104), ((103, 3), 105), ((103, 4), 106), ((103, 5), 107)]
def GW (b : Bool) (G : aG) : Prop := G.1 = (if b = true then 108 else 64) ∧ (∀ e ∈ refL, G.2 e.1.1 ((e.1.2 : Nat) : Int) = some e.2) ∧ (b = false → G.2 0 ((4 : Nat) : Int) = none) ∧ (b = true → G.2 0 ((4 : Nat) : Int) = some 64 ∧ ∀ e ∈ refK, G.2 e.1.1 ((e.1.2 : Nat) : Int) = some e.2)
theorem gl {b : Bool} {G : aG} {a : Nat} (hG : GW b G) (h : a < 64) : a < G.1 := by
  rw [hG.1]
  split <;> omega
theorem glk {G : aG} {a : Nat} (hG : GW true G) (h : a < 108) : a < G.1 := by
  rw [hG.1]
  exact h
theorem rf_0_0 {b : Bool} {G : aG} (hG : GW b G) : G.2 0 ((0 : Nat) : Int) = some 1 := hG.2.1 ((0, 0), 1) (List.mem_of_getElem? (i := 0) rfl)
theorem rf_0_1 {b : Bool} {G : aG} (hG : GW b G) : G.2 0 ((1 : Nat) : Int) = some 45 := hG.2.1 ((0, 1), 45) (List.mem_of_getElem? (i := 1) rfl)
theorem rf_0_2 {b : Bool} {G : aG} (hG : GW b G) : G.2 0 ((2 : Nat) : Int) = some 48 := hG.2.1 ((0, 2), 48) (List.mem_of_getElem? (i := 2) rfl)
theorem rf_0_3 {b : Bool} {G : aG} (hG : GW b G) : G.2 0 ((3 : Nat) : Int) = some 51 := hG.2.1 ((0, 3), 51) (List.mem_of_getElem? (i := 3) rfl)
theorem rf_1_1 {b : Bool} {G : aG} (hG : GW b G) : G.2 1 ((1 : Nat) : Int) = some 2 := hG.2.1 ((1, 1), 2) (List.mem_of_getElem? (i := 4) rfl)
theorem rf_1_2 {b : Bool} {G : aG} (hG : GW b G) : G.2 1 ((2 : Nat) : Int) = some 9 := hG.2.1 ((1, 2), 9) (List.mem_of_getElem? (i := 5) rfl)
theorem rf_1_3 {b : Bool} {G : aG} (hG : GW b G) : G.2 1 ((3 : Nat) : Int) = some 20 := hG.2.1 ((1, 3), 20) (List.mem_of_getElem? (i := 6) rfl)
theorem rf_1_4 {b : Bool} {G : aG} (hG : GW b G) : G.2 1 ((4 : Nat) : Int) = some 31 := hG.2.1 ((1, 4), 31) (List.mem_of_getElem? (i := 7) rfl)
theorem rf_1_5 {b : Bool} {G : aG} (hG : GW b G) : G.2 1 ((5 : Nat) : Int) = some 35 := hG.2.1 ((1, 5), 35) (List.mem_of_getElem? (i := 8) rfl)
theorem rf_1_6 {b : Bool} {G : aG} (hG : GW b G) : G.2 1 ((6 : Nat) : Int) = some 40 := hG.2.1 ((1, 6), 40) (List.mem_of_getElem? (i := 9) rfl)
theorem rf_2_1 {b : Bool} {G : aG} (hG : GW b G) : G.2 2 ((1 : Nat) : Int) = some 3 := hG.2.1 ((2, 1), 3) (List.mem_of_getElem? (i := 10) rfl)
theorem rf_2_2 {b : Bool} {G : aG} (hG : GW b G) : G.2 2 ((2 : Nat) : Int) = some 4 := hG.2.1 ((2, 2), 4) (List.mem_of_getElem? (i := 11) rfl)
theorem rf_2_3 {b : Bool} {G : aG} (hG : GW b G) : G.2 2 ((3 : Nat) : Int) = some 5 := hG.2.1 ((2, 3), 5) (List.mem_of_getElem? (i := 12) rfl)
theorem rf_2_4 {b : Bool} {G : aG} (hG : GW b G) : G.2 2 ((4 : Nat) : Int) = some 6 := hG.2.1 ((2, 4), 6) (List.mem_of_getElem? (i := 13) rfl)
theorem rf_2_5 {b : Bool} {G : aG} (hG : GW b G) : G.2 2 ((5 : Nat) : Int) = some 7 := hG.2.1 ((2, 5), 7) (List.mem_of_getElem? (i := 14) rfl)
theorem rf_2_6 {b : Bool} {G : aG} (hG : GW b G) : G.2 2 ((6 : Nat) : Int) = some 8 := hG.2.1 ((2, 6), 8) (List.mem_of_getElem? (i := 15) rfl)
theorem rf_9_1 {b : Bool} {G : aG} (hG : GW b G) : G.2 9 ((1 : Nat) : Int) = some 10 := hG.2.1 ((9, 1), 10) (List.mem_of_getElem? (i := 16) rfl)
theorem rf_9_2 {b : Bool} {G : aG} (hG : GW b G) : G.2 9 ((2 : Nat) : Int) = some 13 := hG.2.1 ((9, 2), 13) (List.mem_of_getElem? (i := 17) rfl)
theorem rf_9_3 {b : Bool} {G : aG} (hG : GW b G) : G.2 9 ((3 : Nat) : Int) = some 14 := hG.2.1 ((9, 3), 14) (List.mem_of_getElem? (i := 18) rfl)
theorem rf_9_4 {b : Bool} {G : aG} (hG : GW b G) : G.2 9 ((4 : Nat) : Int) = some 15 := hG.2.1 ((9, 4), 15) (List.mem_of_getElem? (i := 19) rfl)
theorem rf_9_5 {b : Bool} {G : aG} (hG : GW b G) : G.2 9 ((5 : Nat) : Int) = some 16 := hG.2.1 ((9, 5), 16) (List.mem_of_getElem? (i := 20) rfl)
theorem rf_9_6 {b : Bool} {G : aG} (hG : GW b G) : G.2 9 ((6 : Nat) : Int) = some 17 := hG.2.1 ((9, 6), 17) (List.mem_of_getElem? (i := 21) rfl)
theorem rf_9_7 {b : Bool} {G : aG} (hG : GW b G) : G.2 9 ((7 : Nat) : Int) = some 18 := hG.2.1 ((9, 7), 18) (List.mem_of_getElem? (i := 22) rfl)
theorem rf_9_8 {b : Bool} {G : aG} (hG : GW b G) : G.2 9 ((8 : Nat) : Int) = some 19 := hG.2.1 ((9, 8), 19) (List.mem_of_getElem? (i := 23) rfl)
theorem rf_10_4 {b : Bool} {G : aG} (hG : GW b G) : G.2 10 ((4 : Nat) : Int) = some 11 := hG.2.1 ((10, 4), 11) (List.mem_of_getElem? (i := 24) rfl)
theorem rf_10_5 {b : Bool} {G : aG} (hG : GW b G) : G.2 10 ((5 : Nat) : Int) = some 12 := hG.2.1 ((10, 5), 12) (List.mem_of_getElem? (i := 25) rfl)
theorem rf_20_1 {b : Bool} {G : aG} (hG : GW b G) : G.2 20 ((1 : Nat) : Int) = some 21 := hG.2.1 ((20, 1), 21) (List.mem_of_getElem? (i := 26) rfl)
theorem rf_20_2 {b : Bool} {G : aG} (hG : GW b G) : G.2 20 ((2 : Nat) : Int) = some 22 := hG.2.1 ((20, 2), 22) (List.mem_of_getElem? (i := 27) rfl)
theorem rf_20_3 {b : Bool} {G : aG} (hG : GW b G) : G.2 20 ((3 : Nat) : Int) = some 23 := hG.2.1 ((20, 3), 23) (List.mem_of_getElem? (i := 28) rfl)
theorem rf_20_4 {b : Bool} {G : aG} (hG : GW b G) : G.2 20 ((4 : Nat) : Int) = some 24 := hG.2.1 ((20, 4), 24) (List.mem_of_getElem? (i := 29) rfl)
theorem rf_20_5 {b : Bool} {G : aG} (hG : GW b G) : G.2 20 ((5 : Nat) : Int) = some 25 := hG.2.1 ((20, 5), 25) (List.mem_of_getElem? (i := 30) rfl)
theorem rf_20_6 {b : Bool} {G : aG} (hG : GW b G) : G.2 20 ((6 : Nat) : Int) = some 26 := hG.2.1 ((20, 6), 26) (List.mem_of_getElem? (i := 31) rfl)
theorem rf_20_7 {b : Bool} {G : aG} (hG : GW b G) : G.2 20 ((7 : Nat) : Int) = some 27 := hG.2.1 ((20, 7), 27) (List.mem_of_getElem? (i := 32) rfl)
theorem rf_20_8 {b : Bool} {G : aG} (hG : GW b G) : G.2 20 ((8 : Nat) : Int) = some 28 := hG.2.1 ((20, 8), 28) (List.mem_of_getElem? (i := 33) rfl)
theorem rf_20_9 {b : Bool} {G : aG} (hG : GW b G) : G.2 20 ((9 : Nat) : Int) = some 29 := hG.2.1 ((20, 9), 29) (List.mem_of_getElem? (i := 34) rfl)
theorem rf_20_10 {b : Bool} {G : aG} (hG : GW b G) : G.2 20 ((10 : Nat) : Int) = some 30 := hG.2.1 ((20, 10), 30) (List.mem_of_getElem? (i := 35) rfl)
theorem rf_31_6 {b : Bool} {G : aG} (hG : GW b G) : G.2 31 ((6 : Nat) : Int) = some 32 := hG.2.1 ((31, 6), 32) (List.mem_of_getElem? (i := 36) rfl)
theorem rf_31_7 {b : Bool} {G : aG} (hG : GW b G) : G.2 31 ((7 : Nat) : Int) = some 33 := hG.2.1 ((31, 7), 33) (List.mem_of_getElem? (i := 37) rfl)
theorem rf_31_8 {b : Bool} {G : aG} (hG : GW b G) : G.2 31 ((8 : Nat) : Int) = some 34 := hG.2.1 ((31, 8), 34) (List.mem_of_getElem? (i := 38) rfl)
theorem rf_35_1 {b : Bool} {G : aG} (hG : GW b G) : G.2 35 ((1 : Nat) : Int) = some 36 := hG.2.1 ((35, 1), 36) (List.mem_of_getElem? (i := 39) rfl)
theorem rf_35_2 {b : Bool} {G : aG} (hG : GW b G) : G.2 35 ((2 : Nat) : Int) = some 37 := hG.2.1 ((35, 2), 37) (List.mem_of_getElem? (i := 40) rfl)
theorem rf_35_3 {b : Bool} {G : aG} (hG : GW b G) : G.2 35 ((3 : Nat) : Int) = some 38 := hG.2.1 ((35, 3), 38) (List.mem_of_getElem? (i := 41) rfl)
theorem rf_35_4 {b : Bool} {G : aG} (hG : GW b G) : G.2 35 ((4 : Nat) : Int) = some 39 := hG.2.1 ((35, 4), 39) (List.mem_of_getElem? (i := 42) rfl)
theorem rf_40_2 {b : Bool} {G : aG} (hG : GW b G) : G.2 40 ((2 : Nat) : Int) = some 41 := hG.2.1 ((40, 2), 41) (List.mem_of_getElem? (i := 43) rfl)
theorem rf_40_3 {b : Bool} {G : aG} (hG : GW b G) : G.2 40 ((3 : Nat) : Int) = some 42 := hG.2.1 ((40, 3), 42) (List.mem_of_getElem? (i := 44) rfl)
theorem rf_40_4 {b : Bool} {G : aG} (hG : GW b G) : G.2 40 ((4 : Nat) : Int) = some 43 := hG.2.1 ((40, 4), 43) (List.mem_of_getElem? (i := 45) rfl)
theorem rf_40_5 {b : Bool} {G : aG} (hG : GW b G) : G.2 40 ((5 : Nat) : Int) = some 44 := hG.2.1 ((40, 5), 44) (List.mem_of_getElem? (i := 46) rfl)
theorem rf_45_0 {b : Bool} {G : aG} (hG : GW b G) : G.2 45 ((0 : Nat) : Int) = some 46 := hG.2.1 ((45, 0), 46) (List.mem_of_getElem? (i := 47) rfl)
theorem rf_45_1 {b : Bool} {G : aG} (hG : GW b G) : G.2 45 ((1 : Nat) : Int) = some 47 := hG.2.1 ((45, 1), 47) (List.mem_of_getElem? (i := 48) rfl)
theorem rf_48_1 {b : Bool} {G : aG} (hG : GW b G) : G.2 48 ((1 : Nat) : Int) = some 49 := hG.2.1 ((48, 1), 49) (List.mem_of_getElem? (i := 49) rfl)
theorem rf_48_5 {b : Bool} {G : aG} (hG : GW b G) : G.2 48 ((5 : Nat) : Int) = some 50 := hG.2.1 ((48, 5), 50) (List.mem_of_getElem? (i := 50) rfl)
theorem rf_51_1 {b : Bool} {G : aG} (hG : GW b G) : G.2 51 ((1 : Nat) : Int) = some 52 := hG.2.1 ((51, 1), 52) (List.mem_of_getElem? (i := 51) rfl)
theorem rf_51_4 {b : Bool} {G : aG} (hG : GW b G) : G.2 51 ((4 : Nat) : Int) = some 53 := hG.2.1 ((51, 4), 53) (List.mem_of_getElem? (i := 52) rfl)
theorem rf_51_5 {b : Bool} {G : aG} (hG : GW b G) : G.2 51 ((5 : Nat) : Int) = some 54 := hG.2.1 ((51, 5), 54) (List.mem_of_getElem? (i := 53) rfl)
theorem rf_51_6 {b : Bool} {G : aG} (hG : GW b G) : G.2 51 ((6 : Nat) : Int) = some 55 := hG.2.1 ((51, 6), 55) (List.mem_of_getElem? (i := 54) rfl)
theorem rf_56_1 {b : Bool} {G : aG} (hG : GW b G) : G.2 56 ((1 : Nat) : Int) = some 57 := hG.2.1 ((56, 1), 57) (List.mem_of_getElem? (i := 55) rfl)
theorem rf_56_2 {b : Bool} {G : aG} (hG : GW b G) : G.2 56 ((2 : Nat) : Int) = some 58 := hG.2.1 ((56, 2), 58) (List.mem_of_getElem? (i := 56) rfl)
theorem rf_56_3 {b : Bool} {G : aG} (hG : GW b G) : G.2 56 ((3 : Nat) : Int) = some 59 := hG.2.1 ((56, 3), 59) (List.mem_of_getElem? (i := 57) rfl)
theorem rf_56_15 {b : Bool} {G : aG} (hG : GW b G) : G.2 56 ((15 : Nat) : Int) = some 60 := hG.2.1 ((56, 15), 60) (List.mem_of_getElem? (i := 58) rfl)
theorem rf_56_16 {b : Bool} {G : aG} (hG : GW b G) : G.2 56 ((16 : Nat) : Int) = some 61 := hG.2.1 ((56, 16), 61) (List.mem_of_getElem? (i := 59) rfl)
theorem rf_56_17 {b : Bool} {G : aG} (hG : GW b G) : G.2 56 ((17 : Nat) : Int) = some 62 := hG.2.1 ((56, 17), 62) (List.mem_of_getElem? (i := 60) rfl)
theorem rf_56_18 {b : Bool} {G : aG} (hG : GW b G) : G.2 56 ((18 : Nat) : Int) = some 63 := hG.2.1 ((56, 18), 63) (List.mem_of_getElem? (i := 61) rfl)
theorem rf_64_1 {G : aG} (hG : GW true G) : G.2 64 ((1 : Nat) : Int) = some 65 := (hG.2.2.2 rfl).2 ((64, 1), 65) (List.mem_of_getElem? (i := 0) rfl)
theorem rf_64_2 {G : aG} (hG : GW true G) : G.2 64 ((2 : Nat) : Int) = some 72 := (hG.2.2.2 rfl).2 ((64, 2), 72) (List.mem_of_getElem? (i := 1) rfl)
theorem rf_64_3 {G : aG} (hG : GW true G) : G.2 64 ((3 : Nat) : Int) = some 83 := (hG.2.2.2 rfl).2 ((64, 3), 83) (List.mem_of_getElem? (i := 2) rfl)
theorem rf_64_4 {G : aG} (hG : GW true G) : G.2 64 ((4 : Nat) : Int) = some 94 := (hG.2.2.2 rfl).2 ((64, 4), 94) (List.mem_of_getElem? (i := 3) rfl)
theorem rf_64_5 {G : aG} (hG : GW true G) : G.2 64 ((5 : Nat) : Int) = some 98 := (hG.2.2.2 rfl).2 ((64, 5), 98) (List.mem_of_getElem? (i := 4) rfl)
theorem rf_64_6 {G : aG} (hG : GW true G) : G.2 64 ((6 : Nat) : Int) = some 103 := (hG.2.2.2 rfl).2 ((64, 6), 103) (List.mem_of_getElem? (i := 5) rfl)
theorem rf_65_1 {G : aG} (hG : GW true G) : G.2 65 ((1 : Nat) : Int) = some 66 := (hG.2.2.2 rfl).2 ((65, 1), 66) (List.mem_of_getElem? (i := 6) rfl)
theorem rf_65_2 {G : aG} (hG : GW true G) : G.2 65 ((2 : Nat) : Int) = some 67 := (hG.2.2.2 rfl).2 ((65, 2), 67) (List.mem_of_getElem? (i := 7) rfl)
theorem rf_65_3 {G : aG} (hG : GW true G) : G.2 65 ((3 : Nat) : Int) = some 68 := (hG.2.2.2 rfl).2 ((65, 3), 68) (List.mem_of_getElem? (i := 8) rfl)
theorem rf_65_4 {G : aG} (hG : GW true G) : G.2 65 ((4 : Nat) : Int) = some 69 := (hG.2.2.2 rfl).2 ((65, 4), 69) (List.mem_of_getElem? (i := 9) rfl)
theorem rf_65_5 {G : aG} (hG : GW true G) : G.2 65 ((5 : Nat) : Int) = some 70 := (hG.2.2.2 rfl).2 ((65, 5), 70) (List.mem_of_getElem? (i := 10) rfl)
theorem rf_65_6 {G : aG} (hG : GW true G) : G.2 65 ((6 : Nat) : Int) = some 71 := (hG.2.2.2 rfl).2 ((65, 6), 71) (List.mem_of_getElem? (i := 11) rfl)
theorem rf_72_1 {G : aG} (hG : GW true G) : G.2 72 ((1 : Nat) : Int) = some 73 := (hG.2.2.2 rfl).2 ((72, 1), 73) (List.mem_of_getElem? (i := 12) rfl)
theorem rf_72_2 {G : aG} (hG : GW true G) : G.2 72 ((2 : Nat) : Int) = some 76 := (hG.2.2.2 rfl).2 ((72, 2), 76) (List.mem_of_getElem? (i := 13) rfl)
theorem rf_72_3 {G : aG} (hG : GW true G) : G.2 72 ((3 : Nat) : Int) = some 77 := (hG.2.2.2 rfl).2 ((72, 3), 77) (List.mem_of_getElem? (i := 14) rfl)
theorem rf_72_4 {G : aG} (hG : GW true G) : G.2 72 ((4 : Nat) : Int) = some 78 := (hG.2.2.2 rfl).2 ((72, 4), 78) (List.mem_of_getElem? (i := 15) rfl)
theorem rf_72_5 {G : aG} (hG : GW true G) : G.2 72 ((5 : Nat) : Int) = some 79 := (hG.2.2.2 rfl).2 ((72, 5), 79) (List.mem_of_getElem? (i := 16) rfl)
theorem rf_72_6 {G : aG} (hG : GW true G) : G.2 72 ((6 : Nat) : Int) = some 80 := (hG.2.2.2 rfl).2 ((72, 6), 80) (List.mem_of_getElem? (i := 17) rfl)
theorem rf_72_7 {G : aG} (hG : GW true G) : G.2 72 ((7 : Nat) : Int) = some 81 := (hG.2.2.2 rfl).2 ((72, 7), 81) (List.mem_of_getElem? (i := 18) rfl)
theorem rf_72_8 {G : aG} (hG : GW true G) : G.2 72 ((8 : Nat) : Int) = some 82 := (hG.2.2.2 rfl).2 ((72, 8), 82) (List.mem_of_getElem? (i := 19) rfl)
theorem rf_73_4 {G : aG} (hG : GW true G) : G.2 73 ((4 : Nat) : Int) = some 74 := (hG.2.2.2 rfl).2 ((73, 4), 74) (List.mem_of_getElem? (i := 20) rfl)
theorem rf_73_5 {G : aG} (hG : GW true G) : G.2 73 ((5 : Nat) : Int) = some 75 := (hG.2.2.2 rfl).2 ((73, 5), 75) (List.mem_of_getElem? (i := 21) rfl)
theorem rf_83_1 {G : aG} (hG : GW true G) : G.2 83 ((1 : Nat) : Int) = some 84 := (hG.2.2.2 rfl).2 ((83, 1), 84) (List.mem_of_getElem? (i := 22) rfl)
theorem rf_83_2 {G : aG} (hG : GW true G) : G.2 83 ((2 : Nat) : Int) = some 85 := (hG.2.2.2 rfl).2 ((83, 2), 85) (List.mem_of_getElem? (i := 23) rfl)
theorem rf_83_3 {G : aG} (hG : GW true G) : G.2 83 ((3 : Nat) : Int) = some 86 := (hG.2.2.2 rfl).2 ((83, 3), 86) (List.mem_of_getElem? (i := 24) rfl)
theorem rf_83_4 {G : aG} (hG : GW true G) : G.2 83 ((4 : Nat) : Int) = some 87 := (hG.2.2.2 rfl).2 ((83, 4), 87) (List.mem_of_getElem? (i := 25) rfl)
theorem rf_83_5 {G : aG} (hG : GW true G) : G.2 83 ((5 : Nat) : Int) = some 88 := (hG.2.2.2 rfl).2 ((83, 5), 88) (List.mem_of_getElem? (i := 26) rfl)
theorem rf_83_6 {G : aG} (hG : GW true G) : G.2 83 ((6 : Nat) : Int) = some 89 := (hG.2.2.2 rfl).2 ((83, 6), 89) (List.mem_of_getElem? (i := 27) rfl)
theorem rf_83_7 {G : aG} (hG : GW true G) : G.2 83 ((7 : Nat) : Int) = some 90 := (hG.2.2.2 rfl).2 ((83, 7), 90) (List.mem_of_getElem? (i := 28) rfl)
theorem rf_83_8 {G : aG} (hG : GW true G) : G.2 83 ((8 : Nat) : Int) = some 91 := (hG.2.2.2 rfl).2 ((83, 8), 91) (List.mem_of_getElem? (i := 29) rfl)
theorem rf_83_9 {G : aG} (hG : GW true G) : G.2 83 ((9 : Nat) : Int) = some 92 := (hG.2.2.2 rfl).2 ((83, 9), 92) (List.mem_of_getElem? (i := 30) rfl)
theorem rf_83_10 {G : aG} (hG : GW true G) : G.2 83 ((10 : Nat) : Int) = some 93 := (hG.2.2.2 rfl).2 ((83, 10), 93) (List.mem_of_getElem? (i := 31) rfl)
theorem rf_94_6 {G : aG} (hG : GW true G) : G.2 94 ((6 : Nat) : Int) = some 95 := (hG.2.2.2 rfl).2 ((94, 6), 95) (List.mem_of_getElem? (i := 32) rfl)
theorem rf_94_7 {G : aG} (hG : GW true G) : G.2 94 ((7 : Nat) : Int) = some 96 := (hG.2.2.2 rfl).2 ((94, 7), 96) (List.mem_of_getElem? (i := 33) rfl)
theorem rf_94_8 {G : aG} (hG : GW true G) : G.2 94 ((8 : Nat) : Int) = some 97 := (hG.2.2.2 rfl).2 ((94, 8), 97) (List.mem_of_getElem? (i := 34) rfl)
theorem rf_98_1 {G : aG} (hG : GW true G) : G.2 98 ((1 : Nat) : Int) = some 99 := (hG.2.2.2 rfl).2 ((98, 1), 99) (List.mem_of_getElem? (i := 35) rfl)
theorem rf_98_2 {G : aG} (hG : GW true G) : G.2 98 ((2 : Nat) : Int) = some 100 := (hG.2.2.2 rfl).2 ((98, 2), 100) (List.mem_of_getElem? (i := 36) rfl)
theorem rf_98_3 {G : aG} (hG : GW true G) : G.2 98 ((3 : Nat) : Int) = some 101 := (hG.2.2.2 rfl).2 ((98, 3), 101) (List.mem_of_getElem? (i := 37) rfl)
theorem rf_98_4 {G : aG} (hG : GW true G) : G.2 98 ((4 : Nat) : Int) = some 102 := (hG.2.2.2 rfl).2 ((98, 4), 102) (List.mem_of_getElem? (i := 38) rfl)
theorem rf_103_2 {G : aG} (hG : GW true G) : G.2 103 ((2 : Nat) : Int) = some 104 := (hG.2.2.2 rfl).2 ((103, 2), 104) (List.mem_of_getElem? (i := 39) rfl)
theorem rf_103_3 {G : aG} (hG : GW true G) : G.2 103 ((3 : Nat) : Int) = some 105 := (hG.2.2.2 rfl).2 ((103, 3), 105) (List.mem_of_getElem? (i := 40) rfl)
theorem rf_103_4 {G : aG} (hG : GW true G) : G.2 103 ((4 : Nat) : Int) = some 106 := (hG.2.2.2 rfl).2 ((103, 4), 106) (List.mem_of_getElem? (i := 41) rfl)
theorem rf_103_5 {G : aG} (hG : GW true G) : G.2 103 ((5 : Nat) : Int) = some 107 := (hG.2.2.2 rfl).2 ((103, 5), 107) (List.mem_of_getElem? (i := 42) rfl)
theorem rf_k1 {G : aG} (hG : GW true G) : G.2 0 ((4 : Nat) : Int) = some 64 := (hG.2.2.2 rfl).1
theorem rf_k0 {G : aG} (hG : GW false G) : G.2 0 ((4 : Nat) : Int) = none := hG.2.2.1 rfl
theorem retZ {m : Nat} {x : Int} (h : rty m = some .boolean) (g : x = 0 ∨ x = 1) : retOk (rty m) x = true := by
  rw [h]
  rcases g with rfl | rfl <;> rfl
theorem retC {m : Nat} {x : Int} (h : rty m = some .char) (g : 0 ≤ x ∧ x ≤ 65535) : retOk (rty m) x = true := by
  rw [h]
  simp [retOk, g]
theorem retB {m : Nat} {x : Int} (h : rty m = some .byte) (g : -128 ≤ x ∧ x ≤ 127) : retOk (rty m) x = true := by
  rw [h]
  simp [retOk, g]
theorem mk_109_40 : mthR 109 40 = some (1, 144) := by decide +kernel
theorem np_144 : npr 144 = 3 := by decide +kernel
theorem en_144 (x0 : Int) (x1 : Int) (x2 : Int) : entOk 144 [vI x0, vI x1, vI x2] = true := rfl
theorem eq_144 (x0 : Int) (x1 : Int) (x2 : Int) : ent (mxl 144) [vI x0, vI x1, vI x2] = [some (vI x0), some (vI x1), some (vI x2)] := rfl
theorem rt_109 (x : Int) : retOk (rty 109) x = true := rfl
theorem gk_109_12_0 : getOk 109 12 0 11 0 2 = true := by decide +kernel
theorem gk_109_44_1 : getOk 109 44 1 10 1 2 = true := by decide +kernel
theorem gk_109_48_2 : getOk 109 48 2 4 0 0 = true := by decide +kernel
theorem mk_109_54 : mthR 109 54 = some (0, 98) := by decide +kernel
theorem np_98 : npr 98 = 0 := by decide +kernel
theorem en_98 (a0 : Nat) : entOk 98 [vR a0] = true := rfl
theorem eq_98 (a0 : Nat) : ent (mxl 98) [vR a0] = [some (vR a0)] := rfl
theorem sp_1 : SH 1 = (0, 10) := by decide +kernel
theorem on_98 : oNum 98 = 10 := by decide +kernel
theorem mk_109_58 : mthR 109 58 = some (0, 41) := by decide +kernel
theorem np_41 : npr 41 = 4 := by decide +kernel
theorem en_41 (a0 : Nat) (x1 : Int) (x2 : Int) (x3 : Int) (x4 : Int) : entOk 41 [vR a0, vI x1, vI x2, vI x3, vI x4] = true := rfl
theorem eq_41 (a0 : Nat) (x1 : Int) (x2 : Int) (x3 : Int) (x4 : Int) : ent (mxl 41) [vR a0, vI x1, vI x2, vI x3, vI x4] = [some (vR a0), some (vI x1), some (vI x2), some (vI x3), some (vI x4)] := rfl
theorem sp_2 : SH 2 = (0, 4) := by decide +kernel
theorem on_41 : oNum 41 = 4 := by decide +kernel
theorem gk_110_12_0 : getOk 110 12 0 11 0 2 = true := by decide +kernel
theorem gk_110_44_1 : getOk 110 44 1 10 1 2 = true := by decide +kernel
theorem mk_110_62 : mthR 110 62 = some (0, 39) := by decide +kernel
theorem np_39 : npr 39 = 1 := by decide +kernel
theorem en_39 (a0 : Nat) (x1 : Int) : entOk 39 [vR a0, vI x1] = true := rfl
theorem eq_39 (a0 : Nat) (x1 : Int) : ent (mxl 39) [vR a0, vI x1] = [some (vR a0), some (vI x1)] := rfl
theorem on_39 : oNum 39 = 4 := by decide +kernel
theorem mk_110_40 : mthR 110 40 = some (1, 144) := by decide +kernel
theorem rt_110 (x : Int) : retOk (rty 110) x = true := rfl
theorem gk_110_66_2 : getOk 110 66 2 4 4 2 = true := by decide +kernel
theorem sp_6 : SH 6 = (1, 12) := by decide +kernel
theorem gk_111_12_0 : getOk 111 12 0 11 0 2 = true := by decide +kernel
theorem gk_111_44_1 : getOk 111 44 1 10 1 2 = true := by decide +kernel
theorem mk_111_62 : mthR 111 62 = some (0, 39) := by decide +kernel
theorem rt_111 (x : Int) : retOk (rty 111) x = true := rfl
theorem gk_111_66_2 : getOk 111 66 2 4 4 2 = true := by decide +kernel
theorem mk_111_70 : mthR 111 70 = some (1, 20) := by decide +kernel
theorem np_20 : npr 20 = 2 := by decide +kernel
theorem en_20 (x0 : Int) (x1 : Int) : entOk 20 [vI x0, vI x1] = true := rfl
theorem eq_20 (x0 : Int) (x1 : Int) : ent (mxl 20) [vI x0, vI x1] = [some (vI x0), some (vI x1), none, none] := rfl
theorem mk_112_40 : mthR 112 40 = some (1, 144) := by decide +kernel
theorem gk_112_12_0 : getOk 112 12 0 11 0 2 = true := by decide +kernel
theorem gk_112_44_1 : getOk 112 44 1 10 1 2 = true := by decide +kernel
theorem mk_112_74 : mthR 112 74 = some (1, 22) := by decide +kernel
theorem np_22 : npr 22 = 2 := by decide +kernel
theorem en_22 (a0 : Nat) (x1 : Int) : entOk 22 [vR a0, vI x1] = true := rfl
theorem eq_22 (a0 : Nat) (x1 : Int) : ent (mxl 22) [vR a0, vI x1] = [some (vR a0), some (vI x1), none, none, none] := rfl
theorem rt_112 (x : Int) : retOk (rty 112) x = true := rfl
theorem mk_113_40 : mthR 113 40 = some (1, 144) := by decide +kernel
theorem gk_113_12_0 : getOk 113 12 0 11 0 2 = true := by decide +kernel
theorem gk_113_44_1 : getOk 113 44 1 10 1 2 = true := by decide +kernel
theorem mk_113_78 : mthR 113 78 = some (0, 45) := by decide +kernel
theorem np_45 : npr 45 = 1 := by decide +kernel
theorem en_45 (a0 : Nat) (x1 : Int) : entOk 45 [vR a0, vI x1] = true := rfl
theorem eq_45 (a0 : Nat) (x1 : Int) : ent (mxl 45) [vR a0, vI x1] = [some (vR a0), some (vI x1), none, none] := rfl
theorem on_45 : oNum 45 = 4 := by decide +kernel
theorem rt_113 (x : Int) : retOk (rty 113) x = true := rfl
theorem mk_113_82 : mthR 113 82 = some (1, 241) := by decide +kernel
theorem np_241 : npr 241 = 1 := by decide +kernel
theorem en_241 (x0 : Int) : entOk 241 [vI x0] = true := rfl
theorem eq_241 (x0 : Int) : ent (mxl 241) [vI x0] = [some (vI x0)] := rfl
theorem mk_113_87 : mthR 113 87 = some (8, 0) := by decide +kernel
theorem gk_113_26_0 : getOk 113 26 0 11 2 2 = true := by decide +kernel
theorem mk_113_92 : mthR 113 92 = some (0, 23) := by decide +kernel
theorem np_23 : npr 23 = 2 := by decide +kernel
theorem en_23 (a0 : Nat) (x1 : Int) (x2 : Int) : entOk 23 [vR a0, vI x1, vI x2] = true := rfl
theorem eq_23 (a0 : Nat) (x1 : Int) (x2 : Int) : ent (mxl 23) [vR a0, vI x1, vI x2] = [some (vR a0), some (vI x1), some (vI x2), none] := rfl
theorem sp_48 : SH 48 = (0, 1) := by decide +kernel
theorem on_23 : oNum 23 = 1 := by decide +kernel
theorem gk_113_99_48 : getOk 113 99 48 1 1 2 = true := by decide +kernel
theorem sp_49 : SH 49 = (1, 5) := by decide +kernel
theorem gk_113_96_48 : getOk 113 96 48 1 0 0 = true := by decide +kernel
theorem mk_114_40 : mthR 114 40 = some (1, 144) := by decide +kernel
theorem gk_114_12_0 : getOk 114 12 0 11 0 2 = true := by decide +kernel
theorem gk_114_102_1 : getOk 114 102 1 10 2 2 = true := by decide +kernel
theorem gk_114_106_9 : getOk 114 106 9 7 1 2 = true := by decide +kernel
theorem gk_114_112_10 : getOk 114 112 10 8 0 0 = true := by decide +kernel
theorem rt_114 (x : Int) : retOk (rty 114) x = true := rfl
theorem mk_114_115 : mthR 114 115 = some (0, 75) := by decide +kernel
theorem np_75 : npr 75 = 2 := by decide +kernel
theorem en_75 (a0 : Nat) (y1 : Int) (x2 : Int) : entOk 75 [vR a0, vL y1, vI x2] = true := rfl
theorem eq_75 (a0 : Nat) (y1 : Int) (x2 : Int) : ent (mxl 75) [vR a0, vL y1, vI x2] = [some (vR a0), some (vL y1), none, some (vI x2), none] := rfl
theorem sp_10 : SH 10 = (0, 8) := by decide +kernel
theorem on_75 : oNum 75 = 8 := by decide +kernel
theorem mk_115_40 : mthR 115 40 = some (1, 144) := by decide +kernel
theorem gk_115_12_0 : getOk 115 12 0 11 0 2 = true := by decide +kernel
theorem gk_115_102_1 : getOk 115 102 1 10 2 2 = true := by decide +kernel
theorem gk_115_119_9 : getOk 115 119 9 7 0 0 = true := by decide +kernel
theorem rt_115 (x : Int) : retOk (rty 115) x = true := rfl
theorem mk_115_120 : mthR 115 120 = some (0, 65) := by decide +kernel
theorem np_65 : npr 65 = 0 := by decide +kernel
theorem en_65 (a0 : Nat) : entOk 65 [vR a0] = true := rfl
theorem eq_65 (a0 : Nat) : ent (mxl 65) [vR a0] = [some (vR a0), none] := rfl
theorem sp_9 : SH 9 = (0, 7) := by decide +kernel
theorem on_65 : oNum 65 = 7 := by decide +kernel
theorem mk_115_123 : mthR 115 123 = some (0, 67) := by decide +kernel
theorem np_67 : npr 67 = 1 := by decide +kernel
theorem en_67 (a0 : Nat) (x1 : Int) : entOk 67 [vR a0, vI x1] = true := rfl
theorem eq_67 (a0 : Nat) (x1 : Int) : ent (mxl 67) [vR a0, vI x1] = [some (vR a0), some (vI x1)] := rfl
theorem on_67 : oNum 67 = 7 := by decide +kernel
theorem mk_116_126 : mthR 116 126 = some (0, 146) := by decide +kernel
theorem np_146 : npr 146 = 2 := by decide +kernel
theorem en_146 (a0 : Nat) (x1 : Int) (x2 : Int) : entOk 146 [vR a0, vI x1, vI x2] = true := rfl
theorem eq_146 (a0 : Nat) (x1 : Int) (x2 : Int) : ent (mxl 146) [vR a0, vI x1, vI x2] = [some (vR a0), some (vI x1), some (vI x2)] := rfl
theorem sp_0 : SH 0 = (0, 11) := by decide +kernel
theorem on_146 : oNum 146 = 11 := by decide +kernel
theorem mk_116_40 : mthR 116 40 = some (1, 144) := by decide +kernel
theorem rt_116 (x : Int) : retOk (rty 116) x = true := rfl
theorem gk_116_12_0 : getOk 116 12 0 11 0 2 = true := by decide +kernel
theorem mk_116_129 : mthR 116 129 = some (0, 101) := by decide +kernel
theorem np_101 : npr 101 = 3 := by decide +kernel
theorem en_101 (a0 : Nat) (x1 : Int) (x2 : Int) (x3 : Int) : entOk 101 [vR a0, vI x1, vI x2, vI x3] = true := rfl
theorem eq_101 (a0 : Nat) (x1 : Int) (x2 : Int) (x3 : Int) : ent (mxl 101) [vR a0, vI x1, vI x2, vI x3] = [some (vR a0), some (vI x1), some (vI x2), some (vI x3), none] := rfl
theorem on_101 : oNum 101 = 10 := by decide +kernel
theorem mk_117_126 : mthR 117 126 = some (0, 146) := by decide +kernel
theorem mk_117_40 : mthR 117 40 = some (1, 144) := by decide +kernel
theorem rt_117 (x : Int) : retOk (rty 117) x = true := rfl
theorem gk_117_12_0 : getOk 117 12 0 11 0 2 = true := by decide +kernel
theorem mk_117_133 : mthR 117 133 = some (0, 100) := by decide +kernel
theorem np_100 : npr 100 = 1 := by decide +kernel
theorem en_100 (a0 : Nat) (x1 : Int) : entOk 100 [vR a0, vI x1] = true := rfl
theorem eq_100 (a0 : Nat) (x1 : Int) : ent (mxl 100) [vR a0, vI x1] = [some (vR a0), some (vI x1), none] := rfl
theorem on_100 : oNum 100 = 10 := by decide +kernel
theorem gk_117_102_1 : getOk 117 102 1 10 2 2 = true := by decide +kernel
theorem mk_117_137 : mthR 117 137 = some (0, 70) := by decide +kernel
theorem np_70 : npr 70 = 2 := by decide +kernel
theorem en_70 (a0 : Nat) (x1 : Int) (x2 : Int) : entOk 70 [vR a0, vI x1, vI x2] = true := rfl
theorem eq_70 (a0 : Nat) (x1 : Int) (x2 : Int) : ent (mxl 70) [vR a0, vI x1, vI x2] = [some (vR a0), some (vI x1), some (vI x2), none, none, none, none] := rfl
theorem on_70 : oNum 70 = 7 := by decide +kernel
theorem gk_118_12_0 : getOk 118 12 0 11 0 2 = true := by decide +kernel
theorem gk_118_44_1 : getOk 118 44 1 10 1 2 = true := by decide +kernel
theorem mk_118_62 : mthR 118 62 = some (0, 39) := by decide +kernel
theorem rt_118 (x : Int) : retOk (rty 118) x = true := rfl
theorem mk_118_140 : mthR 118 140 = some (0, 147) := by decide +kernel
theorem np_147 : npr 147 = 1 := by decide +kernel
theorem en_147 (a0 : Nat) (x1 : Int) : entOk 147 [vR a0, vI x1] = true := rfl
theorem eq_147 (a0 : Nat) (x1 : Int) : ent (mxl 147) [vR a0, vI x1] = [some (vR a0), some (vI x1)] := rfl
theorem on_147 : oNum 147 = 11 := by decide +kernel
theorem gk_118_143_1 : getOk 118 143 1 10 3 2 = true := by decide +kernel
theorem gk_118_147_20 : getOk 118 147 20 0 0 0 = true := by decide +kernel
theorem gk_118_150_2 : getOk 118 150 2 4 1 2 = true := by decide +kernel
theorem sp_3 : SH 3 = (1, 12) := by decide +kernel
theorem gk_118_153_1 : getOk 118 153 1 10 0 0 = true := by decide +kernel
theorem mk_118_156 : mthR 118 156 = some (0, 4) := by decide +kernel
theorem np_4 : npr 4 = 6 := by decide +kernel
theorem en_4 (a0 : Nat) (a1 : Nat) (x2 : Int) (x3 : Int) (x4 : Int) (x5 : Int) (x6 : Int) : entOk 4 [vR a0, vR a1, vI x2, vI x3, vI x4, vI x5, vI x6] = true := rfl
theorem eq_4 (a0 : Nat) (a1 : Nat) (x2 : Int) (x3 : Int) (x4 : Int) (x5 : Int) (x6 : Int) : ent (mxl 4) [vR a0, vR a1, vI x2, vI x3, vI x4, vI x5, vI x6] = [some (vR a0), some (vR a1), some (vI x2), some (vI x3), some (vI x4), some (vI x5), some (vI x6)] := rfl
theorem sp_20 : SH 20 = (0, 0) := by decide +kernel
theorem on_4 : oNum 4 = 0 := by decide +kernel
theorem gk_119_12_0 : getOk 119 12 0 11 0 2 = true := by decide +kernel
theorem gk_119_44_1 : getOk 119 44 1 10 1 2 = true := by decide +kernel
theorem mk_119_62 : mthR 119 62 = some (0, 39) := by decide +kernel
theorem rt_119 (x : Int) : retOk (rty 119) x = true := rfl
theorem mk_119_40 : mthR 119 40 = some (1, 144) := by decide +kernel
theorem mk_119_140 : mthR 119 140 = some (0, 147) := by decide +kernel
theorem gk_119_143_1 : getOk 119 143 1 10 3 2 = true := by decide +kernel
theorem gk_119_147_20 : getOk 119 147 20 0 0 0 = true := by decide +kernel
theorem gk_119_153_1 : getOk 119 153 1 10 0 0 = true := by decide +kernel
theorem mk_119_156 : mthR 119 156 = some (0, 4) := by decide +kernel
theorem gk_120_12_0 : getOk 120 12 0 11 0 2 = true := by decide +kernel
theorem gk_120_143_1 : getOk 120 143 1 10 3 2 = true := by decide +kernel
theorem mk_120_159 : mthR 120 159 = some (0, 3) := by decide +kernel
theorem np_3 : npr 3 = 1 := by decide +kernel
theorem en_3 (a0 : Nat) (x1 : Int) : entOk 3 [vR a0, vI x1] = true := rfl
theorem eq_3 (a0 : Nat) (x1 : Int) : ent (mxl 3) [vR a0, vI x1] = [some (vR a0), some (vI x1)] := rfl
theorem on_3 : oNum 3 = 0 := by decide +kernel
theorem rt_120 (x : Int) : retOk (rty 120) x = true := rfl
theorem gk_120_160_20 : getOk 120 160 20 0 1 2 = true := by decide +kernel
theorem sp_21 : SH 21 = (1, 60) := by decide +kernel
theorem gk_120_163_20 : getOk 120 163 20 0 9 2 = true := by decide +kernel
theorem sp_29 : SH 29 = (1, 60) := by decide +kernel
theorem gk_120_166_20 : getOk 120 166 20 0 7 2 = true := by decide +kernel
theorem sp_27 : SH 27 = (1, 60) := by decide +kernel
theorem mk_120_169 : mthR 120 169 = some (0, 102) := by decide +kernel
theorem np_102 : npr 102 = 2 := by decide +kernel
theorem en_102 (a0 : Nat) (x1 : Int) (x2 : Int) : entOk 102 [vR a0, vI x1, vI x2] = true := rfl
theorem eq_102 (a0 : Nat) (x1 : Int) (x2 : Int) : ent (mxl 102) [vR a0, vI x1, vI x2] = [some (vR a0), some (vI x1), some (vI x2), none, none] := rfl
theorem on_102 : oNum 102 = 10 := by decide +kernel
theorem mk_120_172 : mthR 120 172 = some (0, 6) := by decide +kernel
theorem np_6 : npr 6 = 1 := by decide +kernel
theorem en_6 (a0 : Nat) (x1 : Int) : entOk 6 [vR a0, vI x1] = true := rfl
theorem eq_6 (a0 : Nat) (x1 : Int) : ent (mxl 6) [vR a0, vI x1] = [some (vR a0), some (vI x1)] := rfl
theorem on_6 : oNum 6 = 0 := by decide +kernel
theorem gk_120_44_1 : getOk 120 44 1 10 1 2 = true := by decide +kernel
theorem mk_120_175 : mthR 120 175 = some (0, 7) := by decide +kernel
theorem np_7 : npr 7 = 2 := by decide +kernel
theorem en_7 (a0 : Nat) (x1 : Int) (a2 : Nat) : entOk 7 [vR a0, vI x1, vR a2] = true := rfl
theorem eq_7 (a0 : Nat) (x1 : Int) (a2 : Nat) : ent (mxl 7) [vR a0, vI x1, vR a2] = [some (vR a0), some (vI x1), some (vR a2)] := rfl
theorem on_7 : oNum 7 = 0 := by decide +kernel
theorem gk_120_153_1 : getOk 120 153 1 10 0 0 = true := by decide +kernel
theorem mk_120_179 : mthR 120 179 = some (0, 8) := by decide +kernel
theorem np_8 : npr 8 = 2 := by decide +kernel
theorem en_8 (a0 : Nat) (x1 : Int) (x2 : Int) : entOk 8 [vR a0, vI x1, vI x2] = true := rfl
theorem eq_8 (a0 : Nat) (x1 : Int) (x2 : Int) : ent (mxl 8) [vR a0, vI x1, vI x2] = [some (vR a0), some (vI x1), some (vI x2)] := rfl
theorem on_8 : oNum 8 = 0 := by decide +kernel
theorem mk_120_182 : mthR 120 182 = some (0, 9) := by decide +kernel
theorem np_9 : npr 9 = 2 := by decide +kernel
theorem en_9 (a0 : Nat) (x1 : Int) (a2 : Nat) : entOk 9 [vR a0, vI x1, vR a2] = true := rfl
theorem eq_9 (a0 : Nat) (x1 : Int) (a2 : Nat) : ent (mxl 9) [vR a0, vI x1, vR a2] = [some (vR a0), some (vI x1), some (vR a2), none] := rfl
theorem on_9 : oNum 9 = 0 := by decide +kernel
theorem mk_120_185 : mthR 120 185 = some (0, 103) := by decide +kernel
theorem np_103 : npr 103 = 1 := by decide +kernel
theorem en_103 (a0 : Nat) (x1 : Int) : entOk 103 [vR a0, vI x1] = true := rfl
theorem eq_103 (a0 : Nat) (x1 : Int) : ent (mxl 103) [vR a0, vI x1] = [some (vR a0), some (vI x1)] := rfl
theorem on_103 : oNum 103 = 10 := by decide +kernel
theorem gk_121_12_0 : getOk 121 12 0 11 0 2 = true := by decide +kernel
theorem gk_121_143_1 : getOk 121 143 1 10 3 2 = true := by decide +kernel
theorem mk_121_159 : mthR 121 159 = some (0, 3) := by decide +kernel
theorem rt_121 (x : Int) : retOk (rty 121) x = true := rfl
theorem mk_121_40 : mthR 121 40 = some (1, 144) := by decide +kernel
theorem gk_121_160_20 : getOk 121 160 20 0 1 2 = true := by decide +kernel
theorem mk_121_188 : mthR 121 188 = some (1, 5) := by decide +kernel
theorem np_5 : npr 5 = 2 := by decide +kernel
theorem en_5 (x0 : Int) (x1 : Int) : entOk 5 [vI x0, vI x1] = true := rfl
theorem eq_5 (x0 : Int) (x1 : Int) : ent (mxl 5) [vI x0, vI x1] = [some (vI x0), some (vI x1), none, none] := rfl
theorem gk_121_191_20 : getOk 121 191 20 0 6 2 = true := by decide +kernel
theorem sp_26 : SH 26 = (1, 60) := by decide +kernel
theorem mk_122_40 : mthR 122 40 = some (1, 144) := by decide +kernel
theorem rt_122 (x : Int) : retOk (rty 122) x = true := rfl
theorem gk_122_12_0 : getOk 122 12 0 11 0 2 = true := by decide +kernel
theorem gk_122_153_1 : getOk 122 153 1 10 0 0 = true := by decide +kernel
theorem ck_122_194 : cstL.lookup (oNum 122, 194) = some (.inl 40100) := by decide +kernel
theorem gk_122_19_0 : getOk 122 19 0 11 1 2 = true := by decide +kernel
theorem mk_122_195 : mthR 122 195 = some (0, 31) := by decide +kernel
theorem np_31 : npr 31 = 2 := by decide +kernel
theorem en_31 (a0 : Nat) (a1 : Nat) (x2 : Int) : entOk 31 [vR a0, vR a1, vI x2] = true := rfl
theorem eq_31 (a0 : Nat) (a1 : Nat) (x2 : Int) : ent (mxl 31) [vR a0, vR a1, vI x2] = [some (vR a0), some (vR a1), some (vI x2), none, none] := rfl
theorem sp_45 : SH 45 = (0, 3) := by decide +kernel
theorem on_31 : oNum 31 = 3 := by decide +kernel
theorem gk_123_12_0 : getOk 123 12 0 11 0 2 = true := by decide +kernel
theorem gk_123_143_1 : getOk 123 143 1 10 3 2 = true := by decide +kernel
theorem mk_123_199 : mthR 123 199 = some (0, 11) := by decide +kernel
theorem np_11 : npr 11 = 0 := by decide +kernel
theorem en_11 (a0 : Nat) : entOk 11 [vR a0] = true := rfl
theorem eq_11 (a0 : Nat) : ent (mxl 11) [vR a0] = [some (vR a0), none, none] := rfl
theorem on_11 : oNum 11 = 0 := by decide +kernel
theorem rt_123 (x : Int) : retOk (rty 123) x = true := rfl
theorem mk_123_40 : mthR 123 40 = some (1, 144) := by decide +kernel
theorem mk_123_202 : mthR 123 202 = some (0, 12) := by decide +kernel
theorem np_12 : npr 12 = 1 := by decide +kernel
theorem en_12 (a0 : Nat) (x1 : Int) : entOk 12 [vR a0, vI x1] = true := rfl
theorem eq_12 (a0 : Nat) (x1 : Int) : ent (mxl 12) [vR a0, vI x1] = [some (vR a0), some (vI x1), none] := rfl
theorem on_12 : oNum 12 = 0 := by decide +kernel
theorem gk_124_12_0 : getOk 124 12 0 11 0 2 = true := by decide +kernel
theorem gk_124_44_1 : getOk 124 44 1 10 1 2 = true := by decide +kernel
theorem mk_124_62 : mthR 124 62 = some (0, 39) := by decide +kernel
theorem rt_124 (x : Int) : retOk (rty 124) x = true := rfl
theorem gk_124_143_1 : getOk 124 143 1 10 3 2 = true := by decide +kernel
theorem mk_124_159 : mthR 124 159 = some (0, 3) := by decide +kernel
theorem mk_124_205 : mthR 124 205 = some (0, 13) := by decide +kernel
theorem np_13 : npr 13 = 3 := by decide +kernel
theorem en_13 (a0 : Nat) (x1 : Int) (x2 : Int) (a3 : Nat) : entOk 13 [vR a0, vI x1, vI x2, vR a3] = true := rfl
theorem eq_13 (a0 : Nat) (x1 : Int) (x2 : Int) (a3 : Nat) : ent (mxl 13) [vR a0, vI x1, vI x2, vR a3] = [some (vR a0), some (vI x1), some (vI x2), some (vR a3)] := rfl
theorem on_13 : oNum 13 = 0 := by decide +kernel
theorem gk_124_209_20 : getOk 124 209 20 0 10 2 = true := by decide +kernel
theorem sp_30 : SH 30 = (1, 60) := by decide +kernel
theorem mk_124_82 : mthR 124 82 = some (1, 241) := by decide +kernel
theorem gk_125_12_0 : getOk 125 12 0 11 0 2 = true := by decide +kernel
theorem gk_125_143_1 : getOk 125 143 1 10 3 2 = true := by decide +kernel
theorem mk_125_159 : mthR 125 159 = some (0, 3) := by decide +kernel
theorem gk_125_44_1 : getOk 125 44 1 10 1 2 = true := by decide +kernel
theorem mk_125_212 : mthR 125 212 = some (0, 15) := by decide +kernel
theorem np_15 : npr 15 = 2 := by decide +kernel
theorem en_15 (a0 : Nat) (x1 : Int) (a2 : Nat) : entOk 15 [vR a0, vI x1, vR a2] = true := rfl
theorem eq_15 (a0 : Nat) (x1 : Int) (a2 : Nat) : ent (mxl 15) [vR a0, vI x1, vR a2] = [some (vR a0), some (vI x1), some (vR a2)] := rfl
theorem on_15 : oNum 15 = 0 := by decide +kernel
theorem rt_125 (x : Int) : retOk (rty 125) x = true := rfl
theorem mk_126_215 : mthR 126 215 = some (1, 145) := by decide +kernel
theorem np_145 : npr 145 = 2 := by decide +kernel
theorem en_145 (x0 : Int) (x1 : Int) : entOk 145 [vI x0, vI x1] = true := rfl
theorem eq_145 (x0 : Int) (x1 : Int) : ent (mxl 145) [vI x0, vI x1] = [some (vI x0), some (vI x1)] := rfl
theorem gk_126_12_0 : getOk 126 12 0 11 0 2 = true := by decide +kernel
theorem gk_126_218_1 : getOk 126 218 1 10 4 2 = true := by decide +kernel
theorem mk_126_222 : mthR 126 222 = some (0, 90) := by decide +kernel
theorem np_90 : npr 90 = 2 := by decide +kernel
theorem en_90 (a0 : Nat) (x1 : Int) (x2 : Int) : entOk 90 [vR a0, vI x1, vI x2] = true := rfl
theorem eq_90 (a0 : Nat) (x1 : Int) (x2 : Int) : ent (mxl 90) [vR a0, vI x1, vI x2] = [some (vR a0), some (vI x1), some (vI x2), none] := rfl
theorem sp_31 : SH 31 = (0, 9) := by decide +kernel
theorem on_90 : oNum 90 = 9 := by decide +kernel
theorem rt_126 (x : Int) : retOk (rty 126) x = true := rfl
theorem gk_127_12_0 : getOk 127 12 0 11 0 2 = true := by decide +kernel
theorem gk_127_44_1 : getOk 127 44 1 10 1 2 = true := by decide +kernel
theorem mk_127_62 : mthR 127 62 = some (0, 39) := by decide +kernel
theorem rt_127 (x : Int) : retOk (rty 127) x = true := rfl
theorem mk_127_228 : mthR 127 228 = some (0, 40) := by decide +kernel
theorem np_40 : npr 40 = 1 := by decide +kernel
theorem en_40 (a0 : Nat) (x1 : Int) : entOk 40 [vR a0, vI x1] = true := rfl
theorem eq_40 (a0 : Nat) (x1 : Int) : ent (mxl 40) [vR a0, vI x1] = [some (vR a0), some (vI x1)] := rfl
theorem on_40 : oNum 40 = 4 := by decide +kernel
theorem mk_127_231 : mthR 127 231 = some (0, 46) := by decide +kernel
theorem np_46 : npr 46 = 2 := by decide +kernel
theorem en_46 (a0 : Nat) (x1 : Int) (x2 : Int) : entOk 46 [vR a0, vI x1, vI x2] = true := rfl
theorem eq_46 (a0 : Nat) (x1 : Int) (x2 : Int) : ent (mxl 46) [vR a0, vI x1, vI x2] = [some (vR a0), some (vI x1), some (vI x2)] := rfl
theorem on_46 : oNum 46 = 4 := by decide +kernel
theorem gk_127_218_1 : getOk 127 218 1 10 4 2 = true := by decide +kernel
theorem gk_127_235_31 : getOk 127 235 31 9 0 1 = true := by decide +kernel
theorem gk_128_12_0 : getOk 128 12 0 11 0 2 = true := by decide +kernel
theorem gk_128_44_1 : getOk 128 44 1 10 1 2 = true := by decide +kernel
theorem mk_128_62 : mthR 128 62 = some (0, 39) := by decide +kernel
theorem rt_128 (x : Int) : retOk (rty 128) x = true := rfl
theorem mk_128_228 : mthR 128 228 = some (0, 40) := by decide +kernel
theorem gk_128_218_1 : getOk 128 218 1 10 4 2 = true := by decide +kernel
theorem gk_128_239_31 : getOk 128 239 31 9 1 0 = true := by decide +kernel
theorem mk_128_231 : mthR 128 231 = some (0, 46) := by decide +kernel
theorem mk_128_242 : mthR 128 242 = some (0, 91) := by decide +kernel
theorem np_91 : npr 91 = 2 := by decide +kernel
theorem en_91 (a0 : Nat) (y1 : Int) (x2 : Int) : entOk 91 [vR a0, vL y1, vI x2] = true := rfl
theorem eq_91 (a0 : Nat) (y1 : Int) (x2 : Int) : ent (mxl 91) [vR a0, vL y1, vI x2] = [some (vR a0), some (vL y1), none, some (vI x2)] := rfl
theorem on_91 : oNum 91 = 9 := by decide +kernel
theorem mk_129_215 : mthR 129 215 = some (1, 145) := by decide +kernel
theorem gk_129_12_0 : getOk 129 12 0 11 0 2 = true := by decide +kernel
theorem gk_129_218_1 : getOk 129 218 1 10 4 2 = true := by decide +kernel
theorem mk_129_246 : mthR 129 246 = some (0, 92) := by decide +kernel
theorem np_92 : npr 92 = 1 := by decide +kernel
theorem en_92 (a0 : Nat) (x1 : Int) : entOk 92 [vR a0, vI x1] = true := rfl
theorem eq_92 (a0 : Nat) (x1 : Int) : ent (mxl 92) [vR a0, vI x1] = [some (vR a0), some (vI x1), none] := rfl
theorem on_92 : oNum 92 = 9 := by decide +kernel
theorem rt_129 (x : Int) : retOk (rty 129) x = true := rfl
theorem gk_129_249_31 : getOk 129 249 31 9 2 0 = true := by decide +kernel
theorem mk_129_252 : mthR 129 252 = some (0, 93) := by decide +kernel
theorem np_93 : npr 93 = 1 := by decide +kernel
theorem en_93 (a0 : Nat) (x1 : Int) : entOk 93 [vR a0, vI x1] = true := rfl
theorem eq_93 (a0 : Nat) (x1 : Int) : ent (mxl 93) [vR a0, vI x1] = [some (vR a0), some (vI x1)] := rfl
theorem on_93 : oNum 93 = 9 := by decide +kernel
theorem mk_130_40 : mthR 130 40 = some (1, 144) := by decide +kernel
theorem gk_130_12_0 : getOk 130 12 0 11 0 2 = true := by decide +kernel
theorem gk_130_218_1 : getOk 130 218 1 10 4 2 = true := by decide +kernel
theorem mk_130_255 : mthR 130 255 = some (0, 94) := by decide +kernel
theorem np_94 : npr 94 = 0 := by decide +kernel
theorem en_94 (a0 : Nat) : entOk 94 [vR a0] = true := rfl
theorem eq_94 (a0 : Nat) : ent (mxl 94) [vR a0] = [some (vR a0), none, none] := rfl
theorem on_94 : oNum 94 = 9 := by decide +kernel
theorem rt_130 (x : Int) : retOk (rty 130) x = true := rfl
theorem gk_130_258_31 : getOk 130 258 31 9 4 0 = true := by decide +kernel
theorem gk_130_261_31 : getOk 130 261 31 9 3 0 = true := by decide +kernel
theorem gk_131_12_0 : getOk 131 12 0 11 0 2 = true := by decide +kernel
theorem gk_131_44_1 : getOk 131 44 1 10 1 2 = true := by decide +kernel
theorem mk_131_62 : mthR 131 62 = some (0, 39) := by decide +kernel
theorem rt_131 (x : Int) : retOk (rty 131) x = true := rfl
theorem mk_131_40 : mthR 131 40 = some (1, 144) := by decide +kernel
theorem gk_131_264_1 : getOk 131 264 1 10 5 2 = true := by decide +kernel
theorem gk_131_268_35 : getOk 131 268 35 5 0 0 = true := by decide +kernel
theorem mk_131_54 : mthR 131 54 = some (0, 98) := by decide +kernel
theorem mk_131_271 : mthR 131 271 = some (0, 53) := by decide +kernel
theorem np_53 : npr 53 = 4 := by decide +kernel
theorem en_53 (a0 : Nat) (x1 : Int) (x2 : Int) (x3 : Int) (x4 : Int) : entOk 53 [vR a0, vI x1, vI x2, vI x3, vI x4] = true := rfl
theorem eq_53 (a0 : Nat) (x1 : Int) (x2 : Int) (x3 : Int) (x4 : Int) : ent (mxl 53) [vR a0, vI x1, vI x2, vI x3, vI x4] = [some (vR a0), some (vI x1), some (vI x2), some (vI x3), some (vI x4)] := rfl
theorem sp_35 : SH 35 = (0, 5) := by decide +kernel
theorem on_53 : oNum 53 = 5 := by decide +kernel
theorem mk_131_274 : mthR 131 274 = some (0, 54) := by decide +kernel
theorem np_54 : npr 54 = 2 := by decide +kernel
theorem en_54 (a0 : Nat) (x1 : Int) (x2 : Int) : entOk 54 [vR a0, vI x1, vI x2] = true := rfl
theorem eq_54 (a0 : Nat) (x1 : Int) (x2 : Int) : ent (mxl 54) [vR a0, vI x1, vI x2] = [some (vR a0), some (vI x1), some (vI x2), none, none] := rfl
theorem on_54 : oNum 54 = 5 := by decide +kernel
theorem gk_132_12_0 : getOk 132 12 0 11 0 2 = true := by decide +kernel
theorem gk_132_44_1 : getOk 132 44 1 10 1 2 = true := by decide +kernel
theorem mk_132_62 : mthR 132 62 = some (0, 39) := by decide +kernel
theorem mk_132_54 : mthR 132 54 = some (0, 98) := by decide +kernel
theorem rt_132 (x : Int) : retOk (rty 132) x = true := rfl
theorem mk_132_40 : mthR 132 40 = some (1, 144) := by decide +kernel
theorem mk_132_277 : mthR 132 277 = some (0, 106) := by decide +kernel
theorem np_106 : npr 106 = 2 := by decide +kernel
theorem en_106 (a0 : Nat) (x1 : Int) (x2 : Int) : entOk 106 [vR a0, vI x1, vI x2] = true := rfl
theorem eq_106 (a0 : Nat) (x1 : Int) (x2 : Int) : ent (mxl 106) [vR a0, vI x1, vI x2] = [some (vR a0), some (vI x1), some (vI x2), none, none] := rfl
theorem on_106 : oNum 106 = 10 := by decide +kernel
theorem gk_133_12_0 : getOk 133 12 0 11 0 2 = true := by decide +kernel
theorem gk_133_44_1 : getOk 133 44 1 10 1 2 = true := by decide +kernel
theorem mk_133_62 : mthR 133 62 = some (0, 39) := by decide +kernel
theorem mk_133_280 : mthR 133 280 = some (0, 107) := by decide +kernel
theorem np_107 : npr 107 = 1 := by decide +kernel
theorem en_107 (a0 : Nat) (x1 : Int) : entOk 107 [vR a0, vI x1] = true := rfl
theorem eq_107 (a0 : Nat) (x1 : Int) : ent (mxl 107) [vR a0, vI x1] = [some (vR a0), some (vI x1), none, none] := rfl
theorem on_107 : oNum 107 = 10 := by decide +kernel
theorem rt_133 (x : Int) : retOk (rty 133) x = true := rfl
theorem gk_134_12_0 : getOk 134 12 0 11 0 2 = true := by decide +kernel
theorem gk_134_44_1 : getOk 134 44 1 10 1 2 = true := by decide +kernel
theorem mk_134_62 : mthR 134 62 = some (0, 39) := by decide +kernel
theorem mk_134_40 : mthR 134 40 = some (1, 144) := by decide +kernel
theorem rt_134 (x : Int) : retOk (rty 134) x = true := rfl
theorem gk_134_143_1 : getOk 134 143 1 10 3 2 = true := by decide +kernel
theorem mk_134_283 : mthR 134 283 = some (0, 17) := by decide +kernel
theorem np_17 : npr 17 = 3 := by decide +kernel
theorem en_17 (a0 : Nat) (x1 : Int) (x2 : Int) (x3 : Int) : entOk 17 [vR a0, vI x1, vI x2, vI x3] = true := rfl
theorem eq_17 (a0 : Nat) (x1 : Int) (x2 : Int) (x3 : Int) : ent (mxl 17) [vR a0, vI x1, vI x2, vI x3] = [some (vR a0), some (vI x1), some (vI x2), some (vI x3), none, none, none, none] := rfl
theorem on_17 : oNum 17 = 0 := by decide +kernel
theorem mk_134_87 : mthR 134 87 = some (8, 0) := by decide +kernel
theorem gk_135_12_0 : getOk 135 12 0 11 0 2 = true := by decide +kernel
theorem gk_135_44_1 : getOk 135 44 1 10 1 2 = true := by decide +kernel
theorem mk_135_62 : mthR 135 62 = some (0, 39) := by decide +kernel
theorem rt_135 (x : Int) : retOk (rty 135) x = true := rfl
theorem mk_135_286 : mthR 135 286 = some (0, 49) := by decide +kernel
theorem np_49 : npr 49 = 2 := by decide +kernel
theorem en_49 (a0 : Nat) (x1 : Int) (x2 : Int) : entOk 49 [vR a0, vI x1, vI x2] = true := rfl
theorem eq_49 (a0 : Nat) (x1 : Int) (x2 : Int) : ent (mxl 49) [vR a0, vI x1, vI x2] = [some (vR a0), some (vI x1), some (vI x2)] := rfl
theorem on_49 : oNum 49 = 4 := by decide +kernel
theorem gk_136_12_0 : getOk 136 12 0 11 0 2 = true := by decide +kernel
theorem gk_136_44_1 : getOk 136 44 1 10 1 2 = true := by decide +kernel
theorem gk_136_48_2 : getOk 136 48 2 4 0 0 = true := by decide +kernel
theorem mk_136_87 : mthR 136 87 = some (8, 0) := by decide +kernel
theorem mk_136_40 : mthR 136 40 = some (1, 144) := by decide +kernel
theorem rt_136 (x : Int) : retOk (rty 136) x = true := rfl
theorem gk_136_33_0 : getOk 136 33 0 11 3 2 = true := by decide +kernel
theorem mk_136_289 : mthR 136 289 = some (0, 27) := by decide +kernel
theorem np_27 : npr 27 = 3 := by decide +kernel
theorem en_27 (a0 : Nat) (a1 : Nat) (x2 : Int) (x3 : Int) : entOk 27 [vR a0, vR a1, vI x2, vI x3] = true := rfl
theorem eq_27 (a0 : Nat) (a1 : Nat) (x2 : Int) (x3 : Int) : ent (mxl 27) [vR a0, vR a1, vI x2, vI x3] = [some (vR a0), some (vR a1), some (vI x2), some (vI x3), none, none] := rfl
theorem sp_51 : SH 51 = (0, 2) := by decide +kernel
theorem on_27 : oNum 27 = 2 := by decide +kernel
theorem gk_136_293_51 : getOk 136 293 51 2 1 2 = true := by decide +kernel
theorem sp_52 : SH 52 = (1, 7) := by decide +kernel
theorem gk_136_292_51 : getOk 136 292 51 2 0 0 = true := by decide +kernel
theorem gk_137_12_0 : getOk 137 12 0 11 0 2 = true := by decide +kernel
theorem gk_137_294_1 : getOk 137 294 1 10 6 2 = true := by decide +kernel
theorem gk_137_298_40 : getOk 137 298 40 6 0 0 = true := by decide +kernel
theorem mk_137_40 : mthR 137 40 = some (1, 144) := by decide +kernel
theorem gk_137_44_1 : getOk 137 44 1 10 1 2 = true := by decide +kernel
theorem gk_137_48_2 : getOk 137 48 2 4 0 0 = true := by decide +kernel
theorem rt_137 (x : Int) : retOk (rty 137) x = true := rfl
theorem mk_137_82 : mthR 137 82 = some (1, 241) := by decide +kernel
theorem mk_137_301 : mthR 137 301 = some (0, 58) := by decide +kernel
theorem np_58 : npr 58 = 4 := by decide +kernel
theorem en_58 (a0 : Nat) (x1 : Int) (x2 : Int) (x3 : Int) (x4 : Int) : entOk 58 [vR a0, vI x1, vI x2, vI x3, vI x4] = true := rfl
theorem eq_58 (a0 : Nat) (x1 : Int) (x2 : Int) (x3 : Int) (x4 : Int) : ent (mxl 58) [vR a0, vI x1, vI x2, vI x3, vI x4] = [some (vR a0), some (vI x1), some (vI x2), some (vI x3), some (vI x4)] := rfl
theorem sp_40 : SH 40 = (0, 6) := by decide +kernel
theorem on_58 : oNum 58 = 6 := by decide +kernel
theorem gk_138_12_0 : getOk 138 12 0 11 0 2 = true := by decide +kernel
theorem gk_138_294_1 : getOk 138 294 1 10 6 2 = true := by decide +kernel
theorem gk_138_298_40 : getOk 138 298 40 6 0 0 = true := by decide +kernel
theorem mk_138_40 : mthR 138 40 = some (1, 144) := by decide +kernel
theorem mk_138_302 : mthR 138 302 = some (0, 59) := by decide +kernel
theorem np_59 : npr 59 = 1 := by decide +kernel
theorem en_59 (a0 : Nat) (x1 : Int) : entOk 59 [vR a0, vI x1] = true := rfl
theorem eq_59 (a0 : Nat) (x1 : Int) : ent (mxl 59) [vR a0, vI x1] = [some (vR a0), some (vI x1), none] := rfl
theorem on_59 : oNum 59 = 6 := by decide +kernel
theorem rt_138 (x : Int) : retOk (rty 138) x = true := rfl
theorem gk_139_12_0 : getOk 139 12 0 11 0 2 = true := by decide +kernel
theorem gk_139_294_1 : getOk 139 294 1 10 6 2 = true := by decide +kernel
theorem mk_139_305 : mthR 139 305 = some (0, 60) := by decide +kernel
theorem np_60 : npr 60 = 0 := by decide +kernel
theorem en_60 (a0 : Nat) : entOk 60 [vR a0] = true := rfl
theorem eq_60 (a0 : Nat) : ent (mxl 60) [vR a0] = [some (vR a0), none, none, none, none] := rfl
theorem on_60 : oNum 60 = 6 := by decide +kernel
theorem rt_139 (x : Int) : retOk (rty 139) x = true := rfl
theorem mk_140_40 : mthR 140 40 = some (1, 144) := by decide +kernel
theorem rt_140 (x : Int) : retOk (rty 140) x = true := rfl
theorem gk_140_12_0 : getOk 140 12 0 11 0 2 = true := by decide +kernel
theorem gk_140_102_1 : getOk 140 102 1 10 2 2 = true := by decide +kernel
theorem mk_140_120 : mthR 140 120 = some (0, 65) := by decide +kernel
theorem gk_140_143_1 : getOk 140 143 1 10 3 2 = true := by decide +kernel
theorem mk_140_159 : mthR 140 159 = some (0, 3) := by decide +kernel
theorem mk_140_54 : mthR 140 54 = some (0, 98) := by decide +kernel
theorem mk_140_123 : mthR 140 123 = some (0, 67) := by decide +kernel
theorem mk_140_308 : mthR 140 308 = some (0, 104) := by decide +kernel
theorem np_104 : npr 104 = 1 := by decide +kernel
theorem en_104 (a0 : Nat) (x1 : Int) : entOk 104 [vR a0, vI x1] = true := rfl
theorem eq_104 (a0 : Nat) (x1 : Int) : ent (mxl 104) [vR a0, vI x1] = [some (vR a0), some (vI x1), none, none] := rfl
theorem on_104 : oNum 104 = 10 := by decide +kernel
theorem mk_140_169 : mthR 140 169 = some (0, 102) := by decide +kernel
theorem mk_140_311 : mthR 140 311 = some (0, 68) := by decide +kernel
theorem np_68 : npr 68 = 0 := by decide +kernel
theorem en_68 (a0 : Nat) : entOk 68 [vR a0] = true := rfl
theorem eq_68 (a0 : Nat) : ent (mxl 68) [vR a0] = [some (vR a0)] := rfl
theorem on_68 : oNum 68 = 7 := by decide +kernel
theorem rt_143 (x : Int) : retOk (rty 143) x = true := rfl
theorem gk_143_12_0 : getOk 143 12 0 11 0 2 = true := by decide +kernel
theorem gk_143_44_1 : getOk 143 44 1 10 1 2 = true := by decide +kernel
theorem gk_143_48_2 : getOk 143 48 2 4 0 0 = true := by decide +kernel
theorem gk_143_102_1 : getOk 143 102 1 10 2 2 = true := by decide +kernel
theorem gk_143_119_9 : getOk 143 119 9 7 0 0 = true := by decide +kernel
theorem gk_143_143_1 : getOk 143 143 1 10 3 2 = true := by decide +kernel
theorem gk_143_147_20 : getOk 143 147 20 0 0 0 = true := by decide +kernel
theorem gk_143_153_1 : getOk 143 153 1 10 0 0 = true := by decide +kernel
theorem mk_143_318 : mthR 143 318 = some (0, 16) := by decide +kernel
theorem np_16 : npr 16 = 1 := by decide +kernel
theorem en_16 (a0 : Nat) (x1 : Int) : entOk 16 [vR a0, vI x1] = true := rfl
theorem eq_16 (a0 : Nat) (x1 : Int) : ent (mxl 16) [vR a0, vI x1] = [some (vR a0), some (vI x1), none, none] := rfl
theorem on_16 : oNum 16 = 0 := by decide +kernel
theorem gk_143_106_9 : getOk 143 106 9 7 1 2 = true := by decide +kernel
theorem gk_143_112_10 : getOk 143 112 10 8 0 0 = true := by decide +kernel
theorem gk_143_294_1 : getOk 143 294 1 10 6 2 = true := by decide +kernel
theorem gk_143_298_40 : getOk 143 298 40 6 0 0 = true := by decide +kernel
theorem mk_157_40 : mthR 157 40 = some (1, 150) := by decide +kernel
theorem np_150 : npr 150 = 1 := by decide +kernel
theorem en_150 (x0 : Int) : entOk 150 [vI x0] = true := rfl
theorem eq_150 (x0 : Int) : ent (mxl 150) [vI x0] = [some (vI x0)] := rfl
theorem rt_157 (x : Int) : retOk (rty 157) x = true := rfl
theorem mk_157_36 : mthR 157 36 = some (1, 148) := by decide +kernel
theorem np_148 : npr 148 = 3 := by decide +kernel
theorem en_148 (x0 : Int) (x1 : Int) (x2 : Int) : entOk 148 [vI x0, vI x1, vI x2] = true := rfl
theorem eq_148 (x0 : Int) (x1 : Int) (x2 : Int) : ent (mxl 148) [vI x0, vI x1, vI x2] = [some (vI x0), some (vI x1), some (vI x2)] := rfl
theorem gk_157_13_56 : getOk 157 13 56 12 1 2 = true := by decide +kernel
theorem sp_57 : SH 57 = (1, 2456) := by decide +kernel
theorem mk_157_44 : mthR 157 44 = some (0, 155) := by decide +kernel
theorem np_155 : npr 155 = 0 := by decide +kernel
theorem en_155 (a0 : Nat) : entOk 155 [vR a0] = true := rfl
theorem eq_155 (a0 : Nat) : ent (mxl 155) [vR a0] = [some (vR a0)] := rfl
theorem sp_56 : SH 56 = (0, 12) := by decide +kernel
theorem on_155 : oNum 155 = 12 := by decide +kernel
theorem mk_158_48 : mthR 158 48 = some (0, 151) := by decide +kernel
theorem np_151 : npr 151 = 1 := by decide +kernel
theorem en_151 (a0 : Nat) (x1 : Int) : entOk 151 [vR a0, vI x1] = true := rfl
theorem eq_151 (a0 : Nat) (x1 : Int) : ent (mxl 151) [vR a0, vI x1] = [some (vR a0), some (vI x1)] := rfl
theorem on_151 : oNum 151 = 12 := by decide +kernel
theorem mk_158_36 : mthR 158 36 = some (1, 148) := by decide +kernel
theorem rt_158 (x : Int) : retOk (rty 158) x = true := rfl
theorem mk_158_51 : mthR 158 51 = some (0, 153) := by decide +kernel
theorem np_153 : npr 153 = 2 := by decide +kernel
theorem en_153 (a0 : Nat) (x1 : Int) (x2 : Int) : entOk 153 [vR a0, vI x1, vI x2] = true := rfl
theorem eq_153 (a0 : Nat) (x1 : Int) (x2 : Int) : ent (mxl 153) [vR a0, vI x1, vI x2] = [some (vR a0), some (vI x1), some (vI x2)] := rfl
theorem on_153 : oNum 153 = 12 := by decide +kernel
theorem gk_158_13_56 : getOk 158 13 56 12 1 2 = true := by decide +kernel
theorem mk_161_48 : mthR 161 48 = some (0, 151) := by decide +kernel
theorem rt_161 (x : Int) : retOk (rty 161) x = true := rfl
theorem mk_161_51 : mthR 161 51 = some (0, 153) := by decide +kernel
theorem mk_161_59 : mthR 161 59 = some (1, 160) := by decide +kernel
theorem np_160 : npr 160 = 2 := by decide +kernel
theorem en_160 (x0 : Int) (x1 : Int) : entOk 160 [vI x0, vI x1] = true := rfl
theorem eq_160 (x0 : Int) (x1 : Int) : ent (mxl 160) [vI x0, vI x1] = [some (vI x0), some (vI x1), none, none, none, none, none, none, none] := rfl
theorem mk_162_40 : mthR 162 40 = some (1, 150) := by decide +kernel
theorem rt_162 (x : Int) : retOk (rty 162) x = true := rfl
theorem gk_162_13_56 : getOk 162 13 56 12 1 2 = true := by decide +kernel
theorem mk_162_51 : mthR 162 51 = some (0, 153) := by decide +kernel
theorem mk_162_59 : mthR 162 59 = some (1, 160) := by decide +kernel
theorem gk_164_13_56 : getOk 164 13 56 12 1 2 = true := by decide +kernel
theorem mk_164_40 : mthR 164 40 = some (1, 150) := by decide +kernel
theorem rt_164 (x : Int) : retOk (rty 164) x = true := rfl
theorem mk_164_36 : mthR 164 36 = some (1, 148) := by decide +kernel
theorem mk_164_51 : mthR 164 51 = some (0, 153) := by decide +kernel
theorem gk_164_62_56 : getOk 164 62 56 12 4 0 = true := by decide +kernel
theorem fn_164_12_4 : finOk 164 12 4 = true := by decide +kernel
theorem gk_164_65_56 : getOk 164 65 56 12 5 0 = true := by decide +kernel
theorem fn_164_12_5 : finOk 164 12 5 = true := by decide +kernel
theorem mk_164_68 : mthR 164 68 = some (0, 163) := by decide +kernel
theorem np_163 : npr 163 = 5 := by decide +kernel
theorem en_163 (a0 : Nat) (x1 : Int) (x2 : Int) (x3 : Int) (x4 : Int) (x5 : Int) : entOk 163 [vR a0, vI x1, vI x2, vI x3, vI x4, vI x5] = true := rfl
theorem eq_163 (a0 : Nat) (x1 : Int) (x2 : Int) (x3 : Int) (x4 : Int) (x5 : Int) : ent (mxl 163) [vR a0, vI x1, vI x2, vI x3, vI x4, vI x5] = [some (vR a0), some (vI x1), some (vI x2), some (vI x3), some (vI x4), some (vI x5), none, none, none, none, none, none] := rfl
theorem on_163 : oNum 163 = 12 := by decide +kernel
theorem gk_164_20_56 : getOk 164 20 56 12 3 2 = true := by decide +kernel
theorem sp_59 : SH 59 = (1, 7) := by decide +kernel
theorem mk_177_36 : mthR 177 36 = some (1, 148) := by decide +kernel
theorem gk_177_13_56 : getOk 177 13 56 12 1 2 = true := by decide +kernel
theorem rt_177 (x : Int) : retOk (rty 177) x = true := rfl
theorem cl_177_138 : cslL.lookup (oNum 177, 138) = some 255 := by decide +kernel
theorem mk_178_140 : mthR 178 140 = some (1, 156) := by decide +kernel
theorem np_156 : npr 156 = 1 := by decide +kernel
theorem en_156 (x0 : Int) : entOk 156 [vI x0] = true := rfl
theorem eq_156 (x0 : Int) : ent (mxl 156) [vI x0] = [some (vI x0)] := rfl
theorem gk_178_13_56 : getOk 178 13 56 12 1 2 = true := by decide +kernel
theorem rt_178 (x : Int) : retOk (rty 178) x = true := rfl
theorem mk_178_143 : mthR 178 143 = some (0, 176) := by decide +kernel
theorem np_176 : npr 176 = 4 := by decide +kernel
theorem en_176 (a0 : Nat) (x1 : Int) (x2 : Int) (x3 : Int) (x4 : Int) : entOk 176 [vR a0, vI x1, vI x2, vI x3, vI x4] = true := rfl
theorem eq_176 (a0 : Nat) (x1 : Int) (x2 : Int) (x3 : Int) (x4 : Int) : ent (mxl 176) [vR a0, vI x1, vI x2, vI x3, vI x4] = [some (vR a0), some (vI x1), some (vI x2), some (vI x3), some (vI x4), none, none, none, none, none] := rfl
theorem on_176 : oNum 176 = 12 := by decide +kernel
theorem gk_178_81_56 : getOk 178 81 56 12 10 3 = true := by decide +kernel
theorem gk_178_72_56 : getOk 178 72 56 12 8 0 = true := by decide +kernel
theorem mk_184_160 : mthR 184 160 = some (0, 183) := by decide +kernel
theorem np_183 : npr 183 = 2 := by decide +kernel
theorem en_183 (a0 : Nat) (x1 : Int) (x2 : Int) : entOk 183 [vR a0, vI x1, vI x2] = true := rfl
theorem eq_183 (a0 : Nat) (x1 : Int) (x2 : Int) : ent (mxl 183) [vR a0, vI x1, vI x2] = [some (vR a0), some (vI x1), some (vI x2)] := rfl
theorem on_183 : oNum 183 = 12 := by decide +kernel
theorem mk_184_140 : mthR 184 140 = some (1, 156) := by decide +kernel
theorem rt_184 (x : Int) : retOk (rty 184) x = true := rfl
theorem mk_184_164 : mthR 184 164 = some (0, 182) := by decide +kernel
theorem np_182 : npr 182 = 3 := by decide +kernel
theorem en_182 (a0 : Nat) (x1 : Int) (x2 : Int) (x3 : Int) : entOk 182 [vR a0, vI x1, vI x2, vI x3] = true := rfl
theorem eq_182 (a0 : Nat) (x1 : Int) (x2 : Int) (x3 : Int) : ent (mxl 182) [vR a0, vI x1, vI x2, vI x3] = [some (vR a0), some (vI x1), some (vI x2), some (vI x3), none] := rfl
theorem on_182 : oNum 182 = 12 := by decide +kernel
theorem mk_185_160 : mthR 185 160 = some (0, 183) := by decide +kernel
theorem mk_185_140 : mthR 185 140 = some (1, 156) := by decide +kernel
theorem rt_185 (x : Int) : retOk (rty 185) x = true := rfl
theorem mk_185_153 : mthR 185 153 = some (0, 181) := by decide +kernel
theorem np_181 : npr 181 = 3 := by decide +kernel
theorem en_181 (a0 : Nat) (x1 : Int) (x2 : Int) (x3 : Int) : entOk 181 [vR a0, vI x1, vI x2, vI x3] = true := rfl
theorem eq_181 (a0 : Nat) (x1 : Int) (x2 : Int) (x3 : Int) : ent (mxl 181) [vR a0, vI x1, vI x2, vI x3] = [some (vR a0), some (vI x1), some (vI x2), some (vI x3), none] := rfl
theorem on_181 : oNum 181 = 12 := by decide +kernel
theorem gk_185_135_56 : getOk 185 135 56 12 14 0 = true := by decide +kernel
theorem mk_187_48 : mthR 187 48 = some (0, 151) := by decide +kernel
theorem rt_187 (x : Int) : retOk (rty 187) x = true := rfl
theorem mk_187_51 : mthR 187 51 = some (0, 153) := by decide +kernel
theorem mk_187_167 : mthR 187 167 = some (0, 186) := by decide +kernel
theorem np_186 : npr 186 = 4 := by decide +kernel
theorem en_186 (a0 : Nat) (x1 : Int) (x2 : Int) (x3 : Int) (x4 : Int) : entOk 186 [vR a0, vI x1, vI x2, vI x3, vI x4] = true := rfl
theorem eq_186 (a0 : Nat) (x1 : Int) (x2 : Int) (x3 : Int) (x4 : Int) : ent (mxl 186) [vR a0, vI x1, vI x2, vI x3, vI x4] = [some (vR a0), some (vI x1), some (vI x2), some (vI x3), some (vI x4), none] := rfl
theorem on_186 : oNum 186 = 12 := by decide +kernel
theorem mk_188_48 : mthR 188 48 = some (0, 151) := by decide +kernel
theorem rt_188 (x : Int) : retOk (rty 188) x = true := rfl
theorem mk_188_36 : mthR 188 36 = some (1, 148) := by decide +kernel
theorem mk_188_167 : mthR 188 167 = some (0, 186) := by decide +kernel
theorem mk_198_157 : mthR 198 157 = some (0, 152) := by decide +kernel
theorem np_152 : npr 152 = 1 := by decide +kernel
theorem en_152 (a0 : Nat) (x1 : Int) : entOk 152 [vR a0, vI x1] = true := rfl
theorem eq_152 (a0 : Nat) (x1 : Int) : ent (mxl 152) [vR a0, vI x1] = [some (vR a0), some (vI x1)] := rfl
theorem on_152 : oNum 152 = 12 := by decide +kernel
theorem rt_198 (x : Int) : retOk (rty 198) x = true := rfl
theorem mk_198_104 : mthR 198 104 = some (0, 154) := by decide +kernel
theorem np_154 : npr 154 = 2 := by decide +kernel
theorem en_154 (a0 : Nat) (x1 : Int) (x2 : Int) : entOk 154 [vR a0, vI x1, vI x2] = true := rfl
theorem eq_154 (a0 : Nat) (x1 : Int) (x2 : Int) : ent (mxl 154) [vR a0, vI x1, vI x2] = [some (vR a0), some (vI x1), some (vI x2)] := rfl
theorem on_154 : oNum 154 = 12 := by decide +kernel
theorem mk_198_180 : mthR 198 180 = some (0, 190) := by decide +kernel
theorem np_190 : npr 190 = 1 := by decide +kernel
theorem en_190 (a0 : Nat) (x1 : Int) : entOk 190 [vR a0, vI x1] = true := rfl
theorem eq_190 (a0 : Nat) (x1 : Int) : ent (mxl 190) [vR a0, vI x1] = [some (vR a0), some (vI x1)] := rfl
theorem on_190 : oNum 190 = 12 := by decide +kernel
theorem mk_198_183 : mthR 198 183 = some (0, 191) := by decide +kernel
theorem np_191 : npr 191 = 1 := by decide +kernel
theorem en_191 (a0 : Nat) (x1 : Int) : entOk 191 [vR a0, vI x1] = true := rfl
theorem eq_191 (a0 : Nat) (x1 : Int) : ent (mxl 191) [vR a0, vI x1] = [some (vR a0), some (vI x1), none] := rfl
theorem on_191 : oNum 191 = 12 := by decide +kernel
theorem mk_198_192 : mthR 198 192 = some (0, 197) := by decide +kernel
theorem np_197 : npr 197 = 1 := by decide +kernel
theorem en_197 (a0 : Nat) (x1 : Int) : entOk 197 [vR a0, vI x1] = true := rfl
theorem eq_197 (a0 : Nat) (x1 : Int) : ent (mxl 197) [vR a0, vI x1] = [some (vR a0), some (vI x1), none, none, none, none, none, none] := rfl
theorem on_197 : oNum 197 = 12 := by decide +kernel
theorem mk_198_189 : mthR 198 189 = some (0, 194) := by decide +kernel
theorem np_194 : npr 194 = 1 := by decide +kernel
theorem en_194 (a0 : Nat) (x1 : Int) : entOk 194 [vR a0, vI x1] = true := rfl
theorem eq_194 (a0 : Nat) (x1 : Int) : ent (mxl 194) [vR a0, vI x1] = [some (vR a0), some (vI x1)] := rfl
theorem on_194 : oNum 194 = 12 := by decide +kernel
theorem mk_198_174 : mthR 198 174 = some (0, 192) := by decide +kernel
theorem np_192 : npr 192 = 1 := by decide +kernel
theorem en_192 (a0 : Nat) (x1 : Int) : entOk 192 [vR a0, vI x1] = true := rfl
theorem eq_192 (a0 : Nat) (x1 : Int) : ent (mxl 192) [vR a0, vI x1] = [some (vR a0), some (vI x1)] := rfl
theorem on_192 : oNum 192 = 12 := by decide +kernel
theorem gk_198_13_56 : getOk 198 13 56 12 1 2 = true := by decide +kernel
theorem mk_198_164 : mthR 198 164 = some (0, 182) := by decide +kernel
theorem mk_198_186 : mthR 198 186 = some (0, 195) := by decide +kernel
theorem np_195 : npr 195 = 1 := by decide +kernel
theorem en_195 (a0 : Nat) (x1 : Int) : entOk 195 [vR a0, vI x1] = true := rfl
theorem eq_195 (a0 : Nat) (x1 : Int) : ent (mxl 195) [vR a0, vI x1] = [some (vR a0), some (vI x1), none, none] := rfl
theorem on_195 : oNum 195 = 12 := by decide +kernel
theorem mk_198_55 : mthR 198 55 = some (1, 159) := by decide +kernel
theorem np_159 : npr 159 = 1 := by decide +kernel
theorem en_159 (x0 : Int) : entOk 159 [vI x0] = true := rfl
theorem eq_159 (x0 : Int) : ent (mxl 159) [vI x0] = [some (vI x0), none, none] := rfl
theorem mk_200_157 : mthR 200 157 = some (0, 152) := by decide +kernel
theorem rt_200 (x : Int) : retOk (rty 200) x = true := rfl
theorem mk_200_36 : mthR 200 36 = some (1, 148) := by decide +kernel
theorem mk_200_104 : mthR 200 104 = some (0, 154) := by decide +kernel
theorem mk_200_195 : mthR 200 195 = some (1, 199) := by decide +kernel
theorem np_199 : npr 199 = 1 := by decide +kernel
theorem en_199 (x0 : Int) : entOk 199 [vI x0] = true := rfl
theorem eq_199 (x0 : Int) : ent (mxl 199) [vI x0] = [some (vI x0)] := rfl
theorem mk_209_36 : mthR 209 36 = some (1, 148) := by decide +kernel
theorem rt_209 (x : Int) : retOk (rty 209) x = true := rfl
theorem gk_209_13_56 : getOk 209 13 56 12 1 2 = true := by decide +kernel
theorem ck_209_223 : cstL.lookup (oNum 209, 223) = some (.inl 40099) := by decide +kernel
theorem mk_209_224 : mthR 209 224 = some (0, 207) := by decide +kernel
theorem np_207 : npr 207 = 0 := by decide +kernel
theorem en_207 (a0 : Nat) : entOk 207 [vR a0] = true := rfl
theorem eq_207 (a0 : Nat) : ent (mxl 207) [vR a0] = [some (vR a0), none, none] := rfl
theorem on_207 : oNum 207 = 12 := by decide +kernel
theorem mk_210_36 : mthR 210 36 = some (1, 148) := by decide +kernel
theorem rt_210 (x : Int) : retOk (rty 210) x = true := rfl
theorem mk_210_40 : mthR 210 40 = some (1, 150) := by decide +kernel
theorem gk_210_13_56 : getOk 210 13 56 12 1 2 = true := by decide +kernel
theorem mk_210_104 : mthR 210 104 = some (0, 154) := by decide +kernel
theorem mk_210_189 : mthR 210 189 = some (0, 194) := by decide +kernel
theorem mk_210_211 : mthR 210 211 = some (0, 193) := by decide +kernel
theorem np_193 : npr 193 = 2 := by decide +kernel
theorem en_193 (a0 : Nat) (x1 : Int) (x2 : Int) : entOk 193 [vR a0, vI x1, vI x2] = true := rfl
theorem eq_193 (a0 : Nat) (x1 : Int) (x2 : Int) : ent (mxl 193) [vR a0, vI x1, vI x2] = [some (vR a0), some (vI x1), some (vI x2)] := rfl
theorem on_193 : oNum 193 = 12 := by decide +kernel
theorem mk_212_48 : mthR 212 48 = some (0, 151) := by decide +kernel
theorem rt_212 (x : Int) : retOk (rty 212) x = true := rfl
theorem mk_212_157 : mthR 212 157 = some (0, 152) := by decide +kernel
theorem mk_212_104 : mthR 212 104 = some (0, 154) := by decide +kernel
theorem mk_212_227 : mthR 212 227 = some (0, 211) := by decide +kernel
theorem np_211 : npr 211 = 1 := by decide +kernel
theorem en_211 (a0 : Nat) (x1 : Int) : entOk 211 [vR a0, vI x1] = true := rfl
theorem eq_211 (a0 : Nat) (x1 : Int) : ent (mxl 211) [vR a0, vI x1] = [some (vR a0), some (vI x1)] := rfl
theorem on_211 : oNum 211 = 12 := by decide +kernel
theorem mk_212_51 : mthR 212 51 = some (0, 153) := by decide +kernel
theorem mk_212_211 : mthR 212 211 = some (0, 193) := by decide +kernel
theorem gk_212_13_56 : getOk 212 13 56 12 1 2 = true := by decide +kernel
theorem mk_212_55 : mthR 212 55 = some (1, 159) := by decide +kernel
theorem mk_213_157 : mthR 213 157 = some (0, 152) := by decide +kernel
theorem mk_213_104 : mthR 213 104 = some (0, 154) := by decide +kernel
theorem rt_213 (x : Int) : retOk (rty 213) x = true := rfl
theorem mk_213_227 : mthR 213 227 = some (0, 211) := by decide +kernel
theorem mk_215_230 : mthR 215 230 = some (1, 214) := by decide +kernel
theorem np_214 : npr 214 = 2 := by decide +kernel
theorem en_214 (x0 : Int) (x1 : Int) : entOk 214 [vI x0, vI x1] = true := rfl
theorem eq_214 (x0 : Int) (x1 : Int) : ent (mxl 214) [vI x0, vI x1] = [some (vI x0), some (vI x1)] := rfl
theorem gk_215_13_56 : getOk 215 13 56 12 1 2 = true := by decide +kernel
theorem rt_215 (x : Int) : retOk (rty 215) x = true := rfl
theorem mk_217_48 : mthR 217 48 = some (0, 151) := by decide +kernel
theorem rt_217 (x : Int) : retOk (rty 217) x = true := rfl
theorem mk_217_233 : mthR 217 233 = some (0, 216) := by decide +kernel
theorem np_216 : npr 216 = 1 := by decide +kernel
theorem en_216 (a0 : Nat) (x1 : Int) : entOk 216 [vR a0, vI x1] = true := rfl
theorem eq_216 (a0 : Nat) (x1 : Int) : ent (mxl 216) [vR a0, vI x1] = [some (vR a0), some (vI x1)] := rfl
theorem on_216 : oNum 216 = 12 := by decide +kernel
theorem mk_217_217 : mthR 217 217 = some (0, 205) := by decide +kernel
theorem np_205 : npr 205 = 3 := by decide +kernel
theorem en_205 (a0 : Nat) (x1 : Int) (x2 : Int) (x3 : Int) : entOk 205 [vR a0, vI x1, vI x2, vI x3] = true := rfl
theorem eq_205 (a0 : Nat) (x1 : Int) (x2 : Int) (x3 : Int) : ent (mxl 205) [vR a0, vI x1, vI x2, vI x3] = [some (vR a0), some (vI x1), some (vI x2), some (vI x3)] := rfl
theorem on_205 : oNum 205 = 12 := by decide +kernel
theorem mk_218_48 : mthR 218 48 = some (0, 151) := by decide +kernel
theorem rt_218 (x : Int) : retOk (rty 218) x = true := rfl
theorem mk_218_233 : mthR 218 233 = some (0, 216) := by decide +kernel
theorem gk_218_13_56 : getOk 218 13 56 12 1 2 = true := by decide +kernel
theorem mk_219_230 : mthR 219 230 = some (1, 214) := by decide +kernel
theorem rt_219 (x : Int) : retOk (rty 219) x = true := rfl
theorem gk_219_13_56 : getOk 219 13 56 12 1 2 = true := by decide +kernel
theorem mk_221_36 : mthR 221 36 = some (1, 148) := by decide +kernel
theorem rt_221 (x : Int) : retOk (rty 221) x = true := rfl
theorem gk_221_13_56 : getOk 221 13 56 12 1 2 = true := by decide +kernel
theorem mk_221_236 : mthR 221 236 = some (0, 220) := by decide +kernel
theorem np_220 : npr 220 = 1 := by decide +kernel
theorem en_220 (a0 : Nat) (x1 : Int) : entOk 220 [vR a0, vI x1] = true := rfl
theorem eq_220 (a0 : Nat) (x1 : Int) : ent (mxl 220) [vR a0, vI x1] = [some (vR a0), some (vI x1), none, none] := rfl
theorem on_220 : oNum 220 = 12 := by decide +kernel
theorem mk_221_55 : mthR 221 55 = some (1, 159) := by decide +kernel
theorem mk_222_48 : mthR 222 48 = some (0, 151) := by decide +kernel
theorem rt_222 (x : Int) : retOk (rty 222) x = true := rfl
theorem mk_222_36 : mthR 222 36 = some (1, 148) := by decide +kernel
theorem gk_222_13_56 : getOk 222 13 56 12 1 2 = true := by decide +kernel
theorem mk_222_44 : mthR 222 44 = some (0, 155) := by decide +kernel
theorem mk_222_239 : mthR 222 239 = some (0, 223) := by decide +kernel
theorem np_223 : npr 223 = 3 := by decide +kernel
theorem en_223 (a0 : Nat) (x1 : Int) (x2 : Int) (x3 : Int) : entOk 223 [vR a0, vI x1, vI x2, vI x3] = true := rfl
theorem eq_223 (a0 : Nat) (x1 : Int) (x2 : Int) (x3 : Int) : ent (mxl 223) [vR a0, vI x1, vI x2, vI x3] = [some (vR a0), some (vI x1), some (vI x2), some (vI x3), none, none, none] := rfl
theorem on_223 : oNum 223 = 12 := by decide +kernel
theorem mk_225_48 : mthR 225 48 = some (0, 151) := by decide +kernel
theorem mk_225_44 : mthR 225 44 = some (0, 155) := by decide +kernel
theorem rt_225 (x : Int) : retOk (rty 225) x = true := rfl
theorem mk_225_36 : mthR 225 36 = some (1, 148) := by decide +kernel
theorem mk_225_51 : mthR 225 51 = some (0, 153) := by decide +kernel
theorem mk_225_242 : mthR 225 242 = some (0, 224) := by decide +kernel
theorem np_224 : npr 224 = 2 := by decide +kernel
theorem en_224 (a0 : Nat) (x1 : Int) (x2 : Int) : entOk 224 [vR a0, vI x1, vI x2] = true := rfl
theorem eq_224 (a0 : Nat) (x1 : Int) (x2 : Int) : ent (mxl 224) [vR a0, vI x1, vI x2] = [some (vR a0), some (vI x1), some (vI x2), none, none] := rfl
theorem on_224 : oNum 224 = 12 := by decide +kernel
theorem mk_226_48 : mthR 226 48 = some (0, 151) := by decide +kernel
theorem mk_226_44 : mthR 226 44 = some (0, 155) := by decide +kernel
theorem rt_226 (x : Int) : retOk (rty 226) x = true := rfl
theorem mk_226_51 : mthR 226 51 = some (0, 153) := by decide +kernel
theorem mk_226_242 : mthR 226 242 = some (0, 224) := by decide +kernel
theorem mk_227_48 : mthR 227 48 = some (0, 151) := by decide +kernel
theorem mk_227_140 : mthR 227 140 = some (1, 156) := by decide +kernel
theorem rt_227 (x : Int) : retOk (rty 227) x = true := rfl
theorem gk_227_13_56 : getOk 227 13 56 12 1 2 = true := by decide +kernel
theorem mk_227_104 : mthR 227 104 = some (0, 154) := by decide +kernel
theorem mk_227_36 : mthR 227 36 = some (1, 148) := by decide +kernel
theorem mk_228_48 : mthR 228 48 = some (0, 151) := by decide +kernel
theorem rt_228 (x : Int) : retOk (rty 228) x = true := rfl
theorem gk_228_13_56 : getOk 228 13 56 12 1 2 = true := by decide +kernel
theorem mk_231_36 : mthR 231 36 = some (1, 148) := by decide +kernel
theorem rt_231 (x : Int) : retOk (rty 231) x = true := rfl
theorem gk_231_13_56 : getOk 231 13 56 12 1 2 = true := by decide +kernel
theorem ck_231_251 : cstL.lookup (oNum 231, 251) = some (.inl 100000) := by decide +kernel
theorem gk_231_62_56 : getOk 231 62 56 12 4 0 = true := by decide +kernel
theorem fn_231_12_4 : finOk 231 12 4 = true := by decide +kernel
theorem mk_231_245 : mthR 231 245 = some (0, 230) := by decide +kernel
theorem np_230 : npr 230 = 4 := by decide +kernel
theorem en_230 (a0 : Nat) (x1 : Int) (x2 : Int) (x3 : Int) (x4 : Int) : entOk 230 [vR a0, vI x1, vI x2, vI x3, vI x4] = true := rfl
theorem eq_230 (a0 : Nat) (x1 : Int) (x2 : Int) (x3 : Int) (x4 : Int) : ent (mxl 230) [vR a0, vI x1, vI x2, vI x3, vI x4] = [some (vR a0), some (vI x1), some (vI x2), some (vI x3), some (vI x4), none, none, none, none] := rfl
theorem on_230 : oNum 230 = 12 := by decide +kernel
theorem gk_231_30_56 : getOk 231 30 56 12 17 2 = true := by decide +kernel
theorem mk_231_248 : mthR 231 248 = some (0, 229) := by decide +kernel
theorem np_229 : npr 229 = 2 := by decide +kernel
theorem en_229 (a0 : Nat) (x1 : Int) (x2 : Int) : entOk 229 [vR a0, vI x1, vI x2] = true := rfl
theorem eq_229 (a0 : Nat) (x1 : Int) (x2 : Int) : ent (mxl 229) [vR a0, vI x1, vI x2] = [some (vR a0), some (vI x1), some (vI x2), none, none, none] := rfl
theorem on_229 : oNum 229 = 12 := by decide +kernel
theorem gk_231_20_56 : getOk 231 20 56 12 3 2 = true := by decide +kernel
theorem sp_62 : SH 62 = (1, 144) := by decide +kernel
theorem gk_232_13_56 : getOk 232 13 56 12 1 2 = true := by decide +kernel
theorem mk_232_36 : mthR 232 36 = some (1, 148) := by decide +kernel
theorem rt_232 (x : Int) : retOk (rty 232) x = true := rfl
theorem mk_232_55 : mthR 232 55 = some (1, 159) := by decide +kernel
theorem gk_233_13_56 : getOk 233 13 56 12 1 2 = true := by decide +kernel
theorem mk_233_36 : mthR 233 36 = some (1, 148) := by decide +kernel
theorem rt_233 (x : Int) : retOk (rty 233) x = true := rfl
theorem gk_234_13_56 : getOk 234 13 56 12 1 2 = true := by decide +kernel
theorem rt_234 (x : Int) : retOk (rty 234) x = true := rfl
theorem mk_236_36 : mthR 236 36 = some (1, 148) := by decide +kernel
theorem rt_236 (x : Int) : retOk (rty 236) x = true := rfl
theorem gk_236_13_56 : getOk 236 13 56 12 1 2 = true := by decide +kernel
theorem mk_236_143 : mthR 236 143 = some (0, 176) := by decide +kernel
theorem mk_236_157 : mthR 236 157 = some (0, 152) := by decide +kernel
theorem gk_236_81_56 : getOk 236 81 56 12 10 3 = true := by decide +kernel
theorem gk_236_72_56 : getOk 236 72 56 12 8 0 = true := by decide +kernel
theorem mk_236_252 : mthR 236 252 = some (0, 235) := by decide +kernel
theorem np_235 : npr 235 = 3 := by decide +kernel
theorem en_235 (a0 : Nat) (x1 : Int) (x2 : Int) (x3 : Int) : entOk 235 [vR a0, vI x1, vI x2, vI x3] = true := rfl
theorem eq_235 (a0 : Nat) (x1 : Int) (x2 : Int) (x3 : Int) : ent (mxl 235) [vR a0, vI x1, vI x2, vI x3] = [some (vR a0), some (vI x1), some (vI x2), some (vI x3)] := rfl
theorem on_235 : oNum 235 = 12 := by decide +kernel
theorem mk_236_171 : mthR 236 171 = some (0, 189) := by decide +kernel
theorem np_189 : npr 189 = 2 := by decide +kernel
theorem en_189 (a0 : Nat) (x1 : Int) (x2 : Int) : entOk 189 [vR a0, vI x1, vI x2] = true := rfl
theorem eq_189 (a0 : Nat) (x1 : Int) (x2 : Int) : ent (mxl 189) [vR a0, vI x1, vI x2] = [some (vR a0), some (vI x1), some (vI x2)] := rfl
theorem on_189 : oNum 189 = 12 := by decide +kernel
theorem gk_237_255_56 : getOk 237 255 56 12 19 3 = true := by decide +kernel
theorem fn_237_12_19 : finOk 237 12 19 = true := by decide +kernel
theorem gk_237_13_56 : getOk 237 13 56 12 1 2 = true := by decide +kernel
theorem rt_237 (x : Int) : retOk (rty 237) x = true := rfl
theorem gk_237_33_56 : getOk 237 33 56 12 18 2 = true := by decide +kernel
theorem sp_63 : SH 63 = (1, 2456) := by decide +kernel
theorem gk_238_255_56 : getOk 238 255 56 12 19 3 = true := by decide +kernel
theorem rt_238 (x : Int) : retOk (rty 238) x = true := rfl
theorem gk_238_13_56 : getOk 238 13 56 12 1 2 = true := by decide +kernel
theorem gk_238_33_56 : getOk 238 33 56 12 18 2 = true := by decide +kernel
theorem rt_240 (x : Int) : retOk (rty 240) x = true := rfl
theorem gk_240_13_56 : getOk 240 13 56 12 1 2 = true := by decide +kernel
theorem mk_240_258 : mthR 240 258 = some (0, 239) := by decide +kernel
theorem np_239 : npr 239 = 1 := by decide +kernel
theorem en_239 (a0 : Nat) (x1 : Int) : entOk 239 [vR a0, vI x1] = true := rfl
theorem eq_239 (a0 : Nat) (x1 : Int) : ent (mxl 239) [vR a0, vI x1] = [some (vR a0), some (vI x1), none, none] := rfl
theorem on_239 : oNum 239 = 12 := by decide +kernel
theorem rt_144_0 : retOk (rty 144) 0 = true := by decide +kernel
theorem rt_144_1 : retOk (rty 144) 1 = true := by decide +kernel
theorem gk_98_9_1 : getOk 98 9 1 10 0 0 = true := by decide +kernel
theorem rt_98 (x : Int) : retOk (rty 98) x = true := rfl
theorem gk_41_9_2 : getOk 41 9 2 4 0 0 = true := by decide +kernel
theorem gk_41_15_2 : getOk 41 15 2 4 1 2 = true := by decide +kernel
theorem gk_41_19_2 : getOk 41 19 2 4 2 2 = true := by decide +kernel
theorem sp_4 : SH 4 = (1, 12) := by decide +kernel
theorem gk_41_22_2 : getOk 41 22 2 4 3 2 = true := by decide +kernel
theorem sp_5 : SH 5 = (1, 12) := by decide +kernel
theorem gk_41_28_2 : getOk 41 28 2 4 5 2 = true := by decide +kernel
theorem sp_7 : SH 7 = (1, 12) := by decide +kernel
theorem fn_41_4_0 : finOk 41 4 0 = true := by decide +kernel
theorem rt_41 (x : Int) : retOk (rty 41) x = true := rfl
theorem rt_39_0 : retOk (rty 39) 0 = true := by decide +kernel
theorem gk_39_9_2 : getOk 39 9 2 4 0 0 = true := by decide +kernel
theorem rt_39_1 : retOk (rty 39) 1 = true := by decide +kernel
theorem rt_20 (x : Int) : retOk (rty 20) x = true := rfl
theorem mk_20_31 : mthR 20 31 = some (1, 241) := by decide +kernel
theorem mk_20_43 : mthR 20 43 = some (1, 21) := by decide +kernel
theorem np_21 : npr 21 = 2 := by decide +kernel
theorem en_21 (x0 : Int) (x1 : Int) : entOk 21 [vI x0, vI x1] = true := rfl
theorem eq_21 (x0 : Int) (x1 : Int) : ent (mxl 21) [vI x0, vI x1] = [some (vI x0), some (vI x1), none, none, none, none] := rfl
theorem mk_20_37 : mthR 20 37 = some (7, 0) := by decide +kernel
theorem gk_22_47_2 : getOk 22 47 2 4 0 0 = true := by decide +kernel
theorem rt_22 (x : Int) : retOk (rty 22) x = true := rfl
theorem gk_22_52_2 : getOk 22 52 2 4 1 2 = true := by decide +kernel
theorem gk_22_55_2 : getOk 22 55 2 4 4 2 = true := by decide +kernel
theorem mk_22_58 : mthR 22 58 = some (1, 20) := by decide +kernel
theorem gk_45_9_2 : getOk 45 9 2 4 0 0 = true := by decide +kernel
theorem rt_45 (x : Int) : retOk (rty 45) x = true := rfl
theorem gk_45_15_2 : getOk 45 15 2 4 1 2 = true := by decide +kernel
theorem ck_241_265 : cstL.lookup (oNum 241, 265) = some (.inl 1431655765) := by decide +kernel
theorem ck_241_266 : cstL.lookup (oNum 241, 266) = some (.inl 858993459) := by decide +kernel
theorem ck_241_267 : cstL.lookup (oNum 241, 267) = some (.inl 252645135) := by decide +kernel
theorem rt_241 (x : Int) : retOk (rty 241) x = true := rfl
theorem gk_23_22_48 : getOk 23 22 48 1 3 0 = true := by decide +kernel
theorem rt_23_0 : retOk (rty 23) 0 = true := by decide +kernel
theorem fn_23_1_3 : finOk 23 1 3 = true := by decide +kernel
theorem gk_23_25_48 : getOk 23 25 48 1 4 0 = true := by decide +kernel
theorem fn_23_1_4 : finOk 23 1 4 = true := by decide +kernel
theorem ck_23_61 : cstL.lookup (oNum 23, 61) = some (.inl 1000000) := by decide +kernel
theorem gk_23_9_48 : getOk 23 9 48 1 0 0 = true := by decide +kernel
theorem fn_23_1_0 : finOk 23 1 0 = true := by decide +kernel
theorem gk_23_19_48 : getOk 23 19 48 1 2 0 = true := by decide +kernel
theorem fn_23_1_2 : finOk 23 1 2 = true := by decide +kernel
theorem mk_23_62 : mthR 23 62 = some (0, 24) := by decide +kernel
theorem np_24 : npr 24 = 4 := by decide +kernel
theorem en_24 (a0 : Nat) (x1 : Int) (x2 : Int) (x3 : Int) (x4 : Int) : entOk 24 [vR a0, vI x1, vI x2, vI x3, vI x4] = true := rfl
theorem eq_24 (a0 : Nat) (x1 : Int) (x2 : Int) (x3 : Int) (x4 : Int) : ent (mxl 24) [vR a0, vI x1, vI x2, vI x3, vI x4] = [some (vR a0), some (vI x1), some (vI x2), some (vI x3), some (vI x4), none] := rfl
theorem on_24 : oNum 24 = 1 := by decide +kernel
theorem rt_23_1 : retOk (rty 23) 1 = true := by decide +kernel
theorem gk_75_9_10 : getOk 75 9 10 8 0 0 = true := by decide +kernel
theorem rt_75 (x : Int) : retOk (rty 75) x = true := rfl
theorem gk_75_29_10 : getOk 75 29 10 8 5 2 = true := by decide +kernel
theorem sp_12 : SH 12 = (3, 120) := by decide +kernel
theorem fn_75_8_0 : finOk 75 8 0 = true := by decide +kernel
theorem gk_65_9_9 : getOk 65 9 9 7 0 0 = true := by decide +kernel
theorem gk_65_29_9 : getOk 65 29 9 7 4 2 = true := by decide +kernel
theorem sp_15 : SH 15 = (1, 11) := by decide +kernel
theorem gk_65_18_9 : getOk 65 18 9 7 1 2 = true := by decide +kernel
theorem mk_65_57 : mthR 65 57 = some (0, 76) := by decide +kernel
theorem np_76 : npr 76 = 1 := by decide +kernel
theorem en_76 (a0 : Nat) (x1 : Int) : entOk 76 [vR a0, vI x1] = true := rfl
theorem eq_76 (a0 : Nat) (x1 : Int) : ent (mxl 76) [vR a0, vI x1] = [some (vR a0), some (vI x1)] := rfl
theorem on_76 : oNum 76 = 8 := by decide +kernel
theorem rt_65 (x : Int) : retOk (rty 65) x = true := rfl
theorem mk_65_64 : mthR 65 64 = some (0, 77) := by decide +kernel
theorem np_77 : npr 77 = 0 := by decide +kernel
theorem en_77 (a0 : Nat) : entOk 77 [vR a0] = true := rfl
theorem eq_77 (a0 : Nat) : ent (mxl 77) [vR a0] = [some (vR a0)] := rfl
theorem on_77 : oNum 77 = 8 := by decide +kernel
theorem mk_65_61 : mthR 65 61 = some (0, 66) := by decide +kernel
theorem np_66 : npr 66 = 1 := by decide +kernel
theorem en_66 (a0 : Nat) (x1 : Int) : entOk 66 [vR a0, vI x1] = true := rfl
theorem eq_66 (a0 : Nat) (x1 : Int) : ent (mxl 66) [vR a0, vI x1] = [some (vR a0), some (vI x1), none] := rfl
theorem on_66 : oNum 66 = 7 := by decide +kernel
theorem gk_65_75_10 : getOk 65 75 10 8 1 0 = true := by decide +kernel
theorem gk_65_78_10 : getOk 65 78 10 8 0 0 = true := by decide +kernel
theorem fn_65_8_0 : finOk 65 8 0 = true := by decide +kernel
theorem gk_65_68_10 : getOk 65 68 10 8 3 3 = true := by decide +kernel
theorem mk_65_72 : mthR 65 72 = some (0, 79) := by decide +kernel
theorem np_79 : npr 79 = 1 := by decide +kernel
theorem en_79 (a0 : Nat) (x1 : Int) : entOk 79 [vR a0, vI x1] = true := rfl
theorem eq_79 (a0 : Nat) (x1 : Int) : ent (mxl 79) [vR a0, vI x1] = [some (vR a0), some (vI x1)] := rfl
theorem on_79 : oNum 79 = 8 := by decide +kernel
theorem gk_67_9_9 : getOk 67 9 9 7 0 0 = true := by decide +kernel
theorem gk_67_26_9 : getOk 67 26 9 7 3 2 = true := by decide +kernel
theorem sp_14 : SH 14 = (1, 11) := by decide +kernel
theorem fn_67_7_0 : finOk 67 7 0 = true := by decide +kernel
theorem rt_67 (x : Int) : retOk (rty 67) x = true := rfl
theorem mk_146_40 : mthR 146 40 = some (1, 144) := by decide +kernel
theorem rt_146_0 : retOk (rty 146) 0 = true := by decide +kernel
theorem mk_146_321 : mthR 146 321 = some (1, 63) := by decide +kernel
theorem np_63 : npr 63 = 1 := by decide +kernel
theorem en_63 (x0 : Int) : entOk 63 [vI x0] = true := rfl
theorem eq_63 (x0 : Int) : ent (mxl 63) [vI x0] = [some (vI x0)] := rfl
theorem rt_146_1 : retOk (rty 146) 1 = true := by decide +kernel
theorem gk_146_12_0 : getOk 146 12 0 11 0 2 = true := by decide +kernel
theorem gk_146_143_1 : getOk 146 143 1 10 3 2 = true := by decide +kernel
theorem mk_146_159 : mthR 146 159 = some (0, 3) := by decide +kernel
theorem mk_101_101 : mthR 101 101 = some (0, 100) := by decide +kernel
theorem gk_101_25_1 : getOk 101 25 1 10 2 2 = true := by decide +kernel
theorem mk_101_104 : mthR 101 104 = some (0, 70) := by decide +kernel
theorem mk_101_108 : mthR 101 108 = some (1, 64) := by decide +kernel
theorem np_64 : npr 64 = 1 := by decide +kernel
theorem en_64 (x0 : Int) : entOk 64 [vI x0] = true := rfl
theorem eq_64 (x0 : Int) : ent (mxl 64) [vI x0] = [some (vI x0)] := rfl
theorem gk_101_114_9 : getOk 101 114 9 7 2 2 = true := by decide +kernel
theorem sp_13 : SH 13 = (1, 88) := by decide +kernel
theorem rt_101 (x : Int) : retOk (rty 101) x = true := rfl
theorem mk_101_111 : mthR 101 111 = some (0, 71) := by decide +kernel
theorem np_71 : npr 71 = 1 := by decide +kernel
theorem en_71 (a0 : Nat) (x1 : Int) : entOk 71 [vR a0, vI x1] = true := rfl
theorem eq_71 (a0 : Nat) (x1 : Int) : ent (mxl 71) [vR a0, vI x1] = [some (vR a0), some (vI x1), none, none, none] := rfl
theorem on_71 : oNum 71 = 7 := by decide +kernel
theorem gk_100_32_1 : getOk 100 32 1 10 3 2 = true := by decide +kernel
theorem mk_100_76 : mthR 100 76 = some (0, 3) := by decide +kernel
theorem gk_100_80_20 : getOk 100 80 20 0 2 2 = true := by decide +kernel
theorem sp_22 : SH 22 = (1, 60) := by decide +kernel
theorem gk_100_25_1 : getOk 100 25 1 10 2 2 = true := by decide +kernel
theorem gk_100_84_20 : getOk 100 84 20 0 1 2 = true := by decide +kernel
theorem gk_100_18_1 : getOk 100 18 1 10 1 2 = true := by decide +kernel
theorem mk_100_87 : mthR 100 87 = some (0, 42) := by decide +kernel
theorem np_42 : npr 42 = 1 := by decide +kernel
theorem en_42 (a0 : Nat) (x1 : Int) : entOk 42 [vR a0, vI x1] = true := rfl
theorem eq_42 (a0 : Nat) (x1 : Int) : ent (mxl 42) [vR a0, vI x1] = [some (vR a0), some (vI x1)] := rfl
theorem on_42 : oNum 42 = 4 := by decide +kernel
theorem rv_100 : rty 100 = none := by rfl
theorem gk_100_91_20 : getOk 100 91 20 0 3 2 = true := by decide +kernel
theorem sp_23 : SH 23 = (1, 60) := by decide +kernel
theorem gk_100_94_20 : getOk 100 94 20 0 7 2 = true := by decide +kernel
theorem mk_100_97 : mthR 100 97 = some (0, 69) := by decide +kernel
theorem np_69 : npr 69 = 5 := by decide +kernel
theorem en_69 (a0 : Nat) (x1 : Int) (x2 : Int) (x3 : Int) (x4 : Int) (x5 : Int) : entOk 69 [vR a0, vI x1, vI x2, vI x3, vI x4, vI x5] = true := rfl
theorem eq_69 (a0 : Nat) (x1 : Int) (x2 : Int) (x3 : Int) (x4 : Int) (x5 : Int) : ent (mxl 69) [vR a0, vI x1, vI x2, vI x3, vI x4, vI x5] = [some (vR a0), some (vI x1), some (vI x2), some (vI x3), some (vI x4), some (vI x5)] := rfl
theorem on_69 : oNum 69 = 7 := by decide +kernel
theorem gk_70_9_9 : getOk 70 9 9 7 0 0 = true := by decide +kernel
theorem rt_70 (x : Int) : retOk (rty 70) x = true := rfl
theorem gk_70_26_9 : getOk 70 26 9 7 3 2 = true := by decide +kernel
theorem gk_70_29_9 : getOk 70 29 9 7 4 2 = true := by decide +kernel
theorem gk_70_32_9 : getOk 70 32 9 7 5 2 = true := by decide +kernel
theorem sp_16 : SH 16 = (1, 88) := by decide +kernel
theorem mk_70_95 : mthR 70 95 = some (0, 71) := by decide +kernel
theorem gk_147_12_0 : getOk 147 12 0 11 0 2 = true := by decide +kernel
theorem mk_147_54 : mthR 147 54 = some (0, 98) := by decide +kernel
theorem mk_147_129 : mthR 147 129 = some (0, 101) := by decide +kernel
theorem mk_147_87 : mthR 147 87 = some (8, 0) := by decide +kernel
theorem mk_147_40 : mthR 147 40 = some (1, 144) := by decide +kernel
theorem rz_147 : rty 147 = some .boolean := by rfl
theorem gk_4_9_20 : getOk 4 9 20 0 0 0 = true := by decide +kernel
theorem gk_4_15_20 : getOk 4 15 20 0 1 2 = true := by decide +kernel
theorem gk_4_19_20 : getOk 4 19 20 0 2 2 = true := by decide +kernel
theorem gk_4_22_20 : getOk 4 22 20 0 3 2 = true := by decide +kernel
theorem gk_4_25_20 : getOk 4 25 20 0 4 2 = true := by decide +kernel
theorem mk_4_53 : mthR 4 53 = some (0, 43) := by decide +kernel
theorem np_43 : npr 43 = 1 := by decide +kernel
theorem en_43 (a0 : Nat) (x1 : Int) : entOk 43 [vR a0, vI x1] = true := rfl
theorem eq_43 (a0 : Nat) (x1 : Int) : ent (mxl 43) [vR a0, vI x1] = [some (vR a0), some (vI x1)] := rfl
theorem on_43 : oNum 43 = 4 := by decide +kernel
theorem rt_4 (x : Int) : retOk (rty 4) x = true := rfl
theorem sp_24 : SH 24 = (1, 60) := by decide +kernel
theorem gk_4_28_20 : getOk 4 28 20 0 5 2 = true := by decide +kernel
theorem mk_4_59 : mthR 4 59 = some (0, 46) := by decide +kernel
theorem sp_25 : SH 25 = (2, 60) := by decide +kernel
theorem gk_4_32_20 : getOk 4 32 20 0 6 2 = true := by decide +kernel
theorem gk_4_35_20 : getOk 4 35 20 0 7 2 = true := by decide +kernel
theorem gk_4_38_20 : getOk 4 38 20 0 8 2 = true := by decide +kernel
theorem sp_28 : SH 28 = (1, 60) := by decide +kernel
theorem gk_4_41_20 : getOk 4 41 20 0 9 2 = true := by decide +kernel
theorem fn_4_0_0 : finOk 4 0 0 = true := by decide +kernel
theorem rt_3_0 : retOk (rty 3) 0 = true := by decide +kernel
theorem gk_3_9_20 : getOk 3 9 20 0 0 0 = true := by decide +kernel
theorem rt_3_1 : retOk (rty 3) 1 = true := by decide +kernel
theorem mk_102_117 : mthR 102 117 = some (0, 101) := by decide +kernel
theorem gk_102_32_1 : getOk 102 32 1 10 3 2 = true := by decide +kernel
theorem gk_102_84_20 : getOk 102 84 20 0 1 2 = true := by decide +kernel
theorem rt_102 (x : Int) : retOk (rty 102) x = true := rfl
theorem gk_6_15_20 : getOk 6 15 20 0 1 2 = true := by decide +kernel
theorem gk_6_32_20 : getOk 6 32 20 0 6 2 = true := by decide +kernel
theorem rt_6 (x : Int) : retOk (rty 6) x = true := rfl
theorem gk_7_15_20 : getOk 7 15 20 0 1 2 = true := by decide +kernel
theorem mk_7_74 : mthR 7 74 = some (1, 5) := by decide +kernel
theorem mk_7_65 : mthR 7 65 = some (0, 14) := by decide +kernel
theorem np_14 : npr 14 = 2 := by decide +kernel
theorem en_14 (a0 : Nat) (x1 : Int) (a2 : Nat) : entOk 14 [vR a0, vI x1, vR a2] = true := rfl
theorem eq_14 (a0 : Nat) (x1 : Int) (a2 : Nat) : ent (mxl 14) [vR a0, vI x1, vR a2] = [some (vR a0), some (vI x1), some (vR a2)] := rfl
theorem on_14 : oNum 14 = 0 := by decide +kernel
theorem mk_7_69 : mthR 7 69 = some (1, 241) := by decide +kernel
theorem rt_7 (x : Int) : retOk (rty 7) x = true := rfl
theorem gk_8_38_20 : getOk 8 38 20 0 8 2 = true := by decide +kernel
theorem gk_8_35_20 : getOk 8 35 20 0 7 2 = true := by decide +kernel
theorem rt_8 (x : Int) : retOk (rty 8) x = true := rfl
theorem gk_9_15_20 : getOk 9 15 20 0 1 2 = true := by decide +kernel
theorem gk_9_28_20 : getOk 9 28 20 0 5 2 = true := by decide +kernel
theorem mk_9_81 : mthR 9 81 = some (1, 242) := by decide +kernel
theorem np_242 : npr 242 = 1 := by decide +kernel
theorem en_242 (y0 : Int) : entOk 242 [vL y0] = true := rfl
theorem eq_242 (y0 : Int) : ent (mxl 242) [vL y0] = [some (vL y0), none] := rfl
theorem gk_9_19_20 : getOk 9 19 20 0 2 2 = true := by decide +kernel
theorem mk_9_78 : mthR 9 78 = some (0, 47) := by decide +kernel
theorem np_47 : npr 47 = 1 := by decide +kernel
theorem en_47 (a0 : Nat) (x1 : Int) : entOk 47 [vR a0, vI x1] = true := rfl
theorem eq_47 (a0 : Nat) (x1 : Int) : ent (mxl 47) [vR a0, vI x1] = [some (vR a0), some (vI x1), none, none] := rfl
theorem on_47 : oNum 47 = 4 := by decide +kernel
theorem gk_9_44_20 : getOk 9 44 20 0 10 2 = true := by decide +kernel
theorem mk_9_69 : mthR 9 69 = some (1, 241) := by decide +kernel
theorem gk_9_22_20 : getOk 9 22 20 0 3 2 = true := by decide +kernel
theorem mk_9_86 : mthR 9 86 = some (0, 44) := by decide +kernel
theorem np_44 : npr 44 = 1 := by decide +kernel
theorem en_44 (a0 : Nat) (x1 : Int) : entOk 44 [vR a0, vI x1] = true := rfl
theorem eq_44 (a0 : Nat) (x1 : Int) : ent (mxl 44) [vR a0, vI x1] = [some (vR a0), some (vI x1)] := rfl
theorem on_44 : oNum 44 = 4 := by decide +kernel
theorem mk_9_89 : mthR 9 89 = some (7, 0) := by decide +kernel
theorem rt_9 (x : Int) : retOk (rty 9) x = true := rfl
theorem gk_103_32_1 : getOk 103 32 1 10 3 2 = true := by decide +kernel
theorem gk_103_18_1 : getOk 103 18 1 10 1 2 = true := by decide +kernel
theorem mk_103_121 : mthR 103 121 = some (0, 9) := by decide +kernel
theorem gk_103_94_20 : getOk 103 94 20 0 7 2 = true := by decide +kernel
theorem mk_103_117 : mthR 103 117 = some (0, 101) := by decide +kernel
theorem rt_103_0 : retOk (rty 103) 0 = true := by decide +kernel
theorem rt_103_1 : retOk (rty 103) 1 = true := by decide +kernel
theorem rt_5_0 : retOk (rty 5) 0 = true := by decide +kernel
theorem st_5_62 : sttR 5 62 = some (vR 1001) := by decide +kernel
theorem sp_1001 : SH 1001 = (10, 5) := by decide +kernel
theorem rt_5_1 : retOk (rty 5) 1 = true := by decide +kernel
theorem mk_31_31 : mthR 31 31 = some (0, 32) := by decide +kernel
theorem np_32 : npr 32 = 1 := by decide +kernel
theorem en_32 (a0 : Nat) (a1 : Nat) : entOk 32 [vR a0, vR a1] = true := rfl
theorem eq_32 (a0 : Nat) (a1 : Nat) : ent (mxl 32) [vR a0, vR a1] = [some (vR a0), some (vR a1), none, none, none, none] := rfl
theorem on_32 : oNum 32 = 3 := by decide +kernel
theorem rv_31 : rty 31 = none := by rfl
theorem gk_31_41_1 : getOk 31 41 1 10 0 0 = true := by decide +kernel
theorem fn_31_10_0 : finOk 31 10 0 = true := by decide +kernel
theorem gk_31_35_1 : getOk 31 35 1 10 3 2 = true := by decide +kernel
theorem mk_31_44 : mthR 31 44 = some (0, 33) := by decide +kernel
theorem np_33 : npr 33 = 2 := by decide +kernel
theorem en_33 (a0 : Nat) (a1 : Nat) (x2 : Int) : entOk 33 [vR a0, vR a1, vI x2] = true := rfl
theorem eq_33 (a0 : Nat) (a1 : Nat) (x2 : Int) : ent (mxl 33) [vR a0, vR a1, vI x2] = [some (vR a0), some (vR a1), some (vI x2), none] := rfl
theorem on_33 : oNum 33 = 3 := by decide +kernel
theorem mk_31_48 : mthR 31 48 = some (0, 35) := by decide +kernel
theorem np_35 : npr 35 = 1 := by decide +kernel
theorem en_35 (a0 : Nat) (a1 : Nat) : entOk 35 [vR a0, vR a1] = true := rfl
theorem eq_35 (a0 : Nat) (a1 : Nat) : ent (mxl 35) [vR a0, vR a1] = [some (vR a0), some (vR a1), none, none, none, none] := rfl
theorem on_35 : oNum 35 = 3 := by decide +kernel
theorem gk_31_28_45 : getOk 31 28 45 3 5 0 = true := by decide +kernel
theorem gk_31_18_45 : getOk 31 18 45 3 2 0 = true := by decide +kernel
theorem gk_11_9_20 : getOk 11 9 20 0 0 0 = true := by decide +kernel
theorem rt_11 (x : Int) : retOk (rty 11) x = true := rfl
theorem gk_11_41_20 : getOk 11 41 20 0 9 2 = true := by decide +kernel
theorem mk_11_95 : mthR 11 95 = some (0, 10) := by decide +kernel
theorem np_10 : npr 10 = 1 := by decide +kernel
theorem en_10 (a0 : Nat) (x1 : Int) : entOk 10 [vR a0, vI x1] = true := rfl
theorem eq_10 (a0 : Nat) (x1 : Int) : ent (mxl 10) [vR a0, vI x1] = [some (vR a0), some (vI x1)] := rfl
theorem on_10 : oNum 10 = 0 := by decide +kernel
theorem gk_12_9_20 : getOk 12 9 20 0 0 0 = true := by decide +kernel
theorem rt_12 (x : Int) : retOk (rty 12) x = true := rfl
theorem gk_12_41_20 : getOk 12 41 20 0 9 2 = true := by decide +kernel
theorem gk_12_25_20 : getOk 12 25 20 0 4 2 = true := by decide +kernel
theorem gk_13_41_20 : getOk 13 41 20 0 9 2 = true := by decide +kernel
theorem rt_13_0 : retOk (rty 13) 0 = true := by decide +kernel
theorem gk_13_25_20 : getOk 13 25 20 0 4 2 = true := by decide +kernel
theorem mk_13_53 : mthR 13 53 = some (0, 43) := by decide +kernel
theorem mk_13_65 : mthR 13 65 = some (0, 14) := by decide +kernel
theorem gk_13_44_20 : getOk 13 44 20 0 10 2 = true := by decide +kernel
theorem rt_13_1 : retOk (rty 13) 1 = true := by decide +kernel
theorem gk_15_41_20 : getOk 15 41 20 0 9 2 = true := by decide +kernel
theorem rt_15 (x : Int) : retOk (rty 15) x = true := rfl
theorem mk_15_65 : mthR 15 65 = some (0, 14) := by decide +kernel
theorem gk_15_44_20 : getOk 15 44 20 0 10 2 = true := by decide +kernel
theorem mk_145_40 : mthR 145 40 = some (1, 144) := by decide +kernel
theorem rt_145_0 : retOk (rty 145) 0 = true := by decide +kernel
theorem rt_145_1 : retOk (rty 145) 1 = true := by decide +kernel
theorem gk_90_9_31 : getOk 90 9 31 9 0 1 = true := by decide +kernel
theorem cl_90_48 : cslL.lookup (oNum 90, 48) = some (-1) := by decide +kernel
theorem fn_90_9_0 : finOk 90 9 0 = true := by decide +kernel
theorem rz_90 : rty 90 = some .boolean := by rfl
theorem rt_40_1 : retOk (rty 40) 1 = true := by decide +kernel
theorem mk_40_40 : mthR 40 40 = some (0, 39) := by decide +kernel
theorem rt_40_0 : retOk (rty 40) 0 = true := by decide +kernel
theorem mk_46_40 : mthR 46 40 = some (0, 39) := by decide +kernel
theorem rl_46 : rty 46 = some .long := by rfl
theorem gk_46_15_2 : getOk 46 15 2 4 1 2 = true := by decide +kernel
theorem gk_46_19_2 : getOk 46 19 2 4 2 2 = true := by decide +kernel
theorem mk_46_44 : mthR 46 44 = some (1, 48) := by decide +kernel
theorem np_48 : npr 48 = 3 := by decide +kernel
theorem en_48 (x0 : Int) (x1 : Int) (x2 : Int) : entOk 48 [vI x0, vI x1, vI x2] = true := rfl
theorem eq_48 (x0 : Int) (x1 : Int) (x2 : Int) : ent (mxl 48) [vI x0, vI x1, vI x2] = [some (vI x0), some (vI x1), some (vI x2)] := rfl
theorem mk_46_48 : mthR 46 48 = some (8, 0) := by decide +kernel
theorem mk_46_54 : mthR 46 54 = some (7, 0) := by decide +kernel
theorem gk_91_15_31 : getOk 91 15 31 9 1 0 = true := by decide +kernel
theorem gk_91_31_31 : getOk 91 31 31 9 6 2 = true := by decide +kernel
theorem sp_32 : SH 32 = (2, 20) := by decide +kernel
theorem rt_91 (x : Int) : retOk (rty 91) x = true := rfl
theorem fn_91_9_1 : finOk 91 9 1 = true := by decide +kernel
theorem gk_91_28_31 : getOk 91 28 31 9 5 0 = true := by decide +kernel
theorem fn_91_9_5 : finOk 91 9 5 = true := by decide +kernel
theorem gk_92_19_31 : getOk 92 19 31 9 2 0 = true := by decide +kernel
theorem rt_92_0 : retOk (rty 92) 0 = true := by decide +kernel
theorem gk_92_35_31 : getOk 92 35 31 9 7 2 = true := by decide +kernel
theorem sp_33 : SH 33 = (1, 10) := by decide +kernel
theorem rt_92_1 : retOk (rty 92) 1 = true := by decide +kernel
theorem gk_93_19_31 : getOk 93 19 31 9 2 0 = true := by decide +kernel
theorem gk_93_35_31 : getOk 93 35 31 9 7 2 = true := by decide +kernel
theorem fn_93_9_2 : finOk 93 9 2 = true := by decide +kernel
theorem rt_93 (x : Int) : retOk (rty 93) x = true := rfl
theorem gk_94_15_31 : getOk 94 15 31 9 1 0 = true := by decide +kernel
theorem gk_94_22_31 : getOk 94 22 31 9 3 0 = true := by decide +kernel
theorem fn_94_9_3 : finOk 94 9 3 = true := by decide +kernel
theorem gk_94_25_31 : getOk 94 25 31 9 4 0 = true := by decide +kernel
theorem fn_94_9_4 : finOk 94 9 4 = true := by decide +kernel
theorem gk_94_39_31 : getOk 94 39 31 9 8 2 = true := by decide +kernel
theorem mk_94_50 : mthR 94 50 = some (0, 95) := by decide +kernel
theorem np_95 : npr 95 = 1 := by decide +kernel
theorem en_95 (a0 : Nat) (x1 : Int) : entOk 95 [vR a0, vI x1] = true := rfl
theorem eq_95 (a0 : Nat) (x1 : Int) : ent (mxl 95) [vR a0, vI x1] = [some (vR a0), some (vI x1), none, none] := rfl
theorem on_95 : oNum 95 = 9 := by decide +kernel
theorem gk_94_19_31 : getOk 94 19 31 9 2 0 = true := by decide +kernel
theorem sp_34 : SH 34 = (1, 20) := by decide +kernel
theorem rv_94 : rty 94 = none := by rfl
theorem mk_94_54 : mthR 94 54 = some (1, 241) := by decide +kernel
theorem mk_94_59 : mthR 94 59 = some (0, 96) := by decide +kernel
theorem np_96 : npr 96 = 1 := by decide +kernel
theorem en_96 (a0 : Nat) (x1 : Int) : entOk 96 [vR a0, vI x1] = true := rfl
theorem eq_96 (a0 : Nat) (x1 : Int) : ent (mxl 96) [vR a0, vI x1] = [some (vR a0), some (vI x1), none, none] := rfl
theorem on_96 : oNum 96 = 9 := by decide +kernel
theorem gk_53_9_35 : getOk 53 9 35 5 0 0 = true := by decide +kernel
theorem gk_53_15_35 : getOk 53 15 35 5 1 2 = true := by decide +kernel
theorem sp_36 : SH 36 = (1, 60) := by decide +kernel
theorem gk_53_19_35 : getOk 53 19 35 5 2 2 = true := by decide +kernel
theorem sp_37 : SH 37 = (1, 60) := by decide +kernel
theorem gk_53_22_35 : getOk 53 22 35 5 3 2 = true := by decide +kernel
theorem sp_38 : SH 38 = (1, 60) := by decide +kernel
theorem gk_53_25_35 : getOk 53 25 35 5 4 2 = true := by decide +kernel
theorem sp_39 : SH 39 = (1, 60) := by decide +kernel
theorem fn_53_5_0 : finOk 53 5 0 = true := by decide +kernel
theorem rv_53 : rty 53 = none := by rfl
theorem gk_54_9_35 : getOk 54 9 35 5 0 0 = true := by decide +kernel
theorem rt_54 (x : Int) : retOk (rty 54) x = true := rfl
theorem gk_54_15_35 : getOk 54 15 35 5 1 2 = true := by decide +kernel
theorem gk_54_19_35 : getOk 54 19 35 5 2 2 = true := by decide +kernel
theorem gk_54_22_35 : getOk 54 22 35 5 3 2 = true := by decide +kernel
theorem gk_106_18_1 : getOk 106 18 1 10 1 2 = true := by decide +kernel
theorem gk_106_128_2 : getOk 106 128 2 4 5 2 = true := by decide +kernel
theorem gk_106_46_1 : getOk 106 46 1 10 5 2 = true := by decide +kernel
theorem mk_106_134 : mthR 106 134 = some (0, 55) := by decide +kernel
theorem np_55 : npr 55 = 3 := by decide +kernel
theorem en_55 (a0 : Nat) (x1 : Int) (x2 : Int) (x3 : Int) : entOk 55 [vR a0, vI x1, vI x2, vI x3] = true := rfl
theorem eq_55 (a0 : Nat) (x1 : Int) (x2 : Int) (x3 : Int) : ent (mxl 55) [vR a0, vI x1, vI x2, vI x3] = [some (vR a0), some (vI x1), some (vI x2), some (vI x3), none, none] := rfl
theorem on_55 : oNum 55 = 5 := by decide +kernel
theorem mk_106_131 : mthR 106 131 = some (0, 105) := by decide +kernel
theorem np_105 : npr 105 = 2 := by decide +kernel
theorem en_105 (a0 : Nat) (x1 : Int) (x2 : Int) : entOk 105 [vR a0, vI x1, vI x2] = true := rfl
theorem eq_105 (a0 : Nat) (x1 : Int) (x2 : Int) : ent (mxl 105) [vR a0, vI x1, vI x2] = [some (vR a0), some (vI x1), some (vI x2), none] := rfl
theorem on_105 : oNum 105 = 10 := by decide +kernel
theorem rt_106 (x : Int) : retOk (rty 106) x = true := rfl
theorem mk_107_137 : mthR 107 137 = some (0, 98) := by decide +kernel
theorem mk_107_141 : mthR 107 141 = some (0, 106) := by decide +kernel
theorem rt_107 (x : Int) : retOk (rty 107) x = true := rfl
theorem gk_107_46_1 : getOk 107 46 1 10 5 2 = true := by decide +kernel
theorem mk_107_134 : mthR 107 134 = some (0, 55) := by decide +kernel
theorem mk_107_131 : mthR 107 131 = some (0, 105) := by decide +kernel
theorem gk_17_9_20 : getOk 17 9 20 0 0 0 = true := by decide +kernel
theorem rt_17 (x : Int) : retOk (rty 17) x = true := rfl
theorem gk_17_35_20 : getOk 17 35 20 0 7 2 = true := by decide +kernel
theorem gk_17_41_20 : getOk 17 41 20 0 9 2 = true := by decide +kernel
theorem gk_17_15_20 : getOk 17 15 20 0 1 2 = true := by decide +kernel
theorem gk_17_19_20 : getOk 17 19 20 0 2 2 = true := by decide +kernel
theorem gk_17_32_20 : getOk 17 32 20 0 6 2 = true := by decide +kernel
theorem mk_49_40 : mthR 49 40 = some (0, 39) := by decide +kernel
theorem rt_49_0 : retOk (rty 49) 0 = true := by decide +kernel
theorem mk_49_71 : mthR 49 71 = some (0, 50) := by decide +kernel
theorem np_50 : npr 50 = 2 := by decide +kernel
theorem en_50 (a0 : Nat) (x1 : Int) (x2 : Int) : entOk 50 [vR a0, vI x1, vI x2] = true := rfl
theorem eq_50 (a0 : Nat) (x1 : Int) (x2 : Int) : ent (mxl 50) [vR a0, vI x1, vI x2] = [some (vR a0), some (vI x1), some (vI x2)] := rfl
theorem on_50 : oNum 50 = 4 := by decide +kernel
theorem gk_49_31_2 : getOk 49 31 2 4 6 2 = true := by decide +kernel
theorem sp_8 : SH 8 = (1, 12) := by decide +kernel
theorem rt_49_1 : retOk (rty 49) 1 = true := by decide +kernel
theorem mk_27_34 : mthR 27 34 = some (8, 0) := by decide +kernel
theorem gk_27_19_51 : getOk 27 19 51 2 2 0 = true := by decide +kernel
theorem fn_27_2_2 : finOk 27 2 2 = true := by decide +kernel
theorem gk_27_22_51 : getOk 27 22 51 2 3 0 = true := by decide +kernel
theorem fn_27_2_3 : finOk 27 2 3 = true := by decide +kernel
theorem ck_27_56 : cstL.lookup (oNum 27, 56) = some (.inl 1000000) := by decide +kernel
theorem gk_27_9_51 : getOk 27 9 51 2 0 0 = true := by decide +kernel
theorem fn_27_2_0 : finOk 27 2 0 = true := by decide +kernel
theorem mk_27_57 : mthR 27 57 = some (0, 28) := by decide +kernel
theorem np_28 : npr 28 = 2 := by decide +kernel
theorem en_28 (a0 : Nat) (x1 : Int) (x2 : Int) : entOk 28 [vR a0, vI x1, vI x2] = true := rfl
theorem eq_28 (a0 : Nat) (x1 : Int) (x2 : Int) : ent (mxl 28) [vR a0, vI x1, vI x2] = [some (vR a0), some (vI x1), some (vI x2), none] := rfl
theorem on_28 : oNum 28 = 2 := by decide +kernel
theorem gk_27_31_51 : getOk 27 31 51 2 6 2 = true := by decide +kernel
theorem gk_27_40_1 : getOk 27 40 1 10 1 2 = true := by decide +kernel
theorem gk_27_45_2 : getOk 27 45 2 4 6 2 = true := by decide +kernel
theorem sp_55 : SH 55 = (1, 7) := by decide +kernel
theorem rt_27_0 : retOk (rty 27) 0 = true := by decide +kernel
theorem rt_27_1 : retOk (rty 27) 1 = true := by decide +kernel
theorem gk_27_28_51 : getOk 27 28 51 2 5 2 = true := by decide +kernel
theorem gk_27_48_1 : getOk 27 48 1 10 3 2 = true := by decide +kernel
theorem mk_27_51 : mthR 27 51 = some (0, 18) := by decide +kernel
theorem np_18 : npr 18 = 2 := by decide +kernel
theorem en_18 (a0 : Nat) (x1 : Int) (x2 : Int) : entOk 18 [vR a0, vI x1, vI x2] = true := rfl
theorem eq_18 (a0 : Nat) (x1 : Int) (x2 : Int) : ent (mxl 18) [vR a0, vI x1, vI x2] = [some (vR a0), some (vI x1), some (vI x2), none, none] := rfl
theorem on_18 : oNum 18 = 0 := by decide +kernel
theorem sp_54 : SH 54 = (1, 49) := by decide +kernel
theorem gk_58_9_40 : getOk 58 9 40 6 0 0 = true := by decide +kernel
theorem gk_58_18_40 : getOk 58 18 40 6 2 2 = true := by decide +kernel
theorem sp_41 : SH 41 = (1, 10) := by decide +kernel
theorem gk_58_22_40 : getOk 58 22 40 6 3 2 = true := by decide +kernel
theorem sp_42 : SH 42 = (1, 10) := by decide +kernel
theorem gk_58_25_40 : getOk 58 25 40 6 4 2 = true := by decide +kernel
theorem sp_43 : SH 43 = (1, 10) := by decide +kernel
theorem gk_58_28_40 : getOk 58 28 40 6 5 2 = true := by decide +kernel
theorem sp_44 : SH 44 = (1, 10) := by decide +kernel
theorem fn_58_6_0 : finOk 58 6 0 = true := by decide +kernel
theorem rt_58 (x : Int) : retOk (rty 58) x = true := rfl
theorem gk_59_15_40 : getOk 59 15 40 6 1 0 = true := by decide +kernel
theorem fn_59_6_1 : finOk 59 6 1 = true := by decide +kernel
theorem rt_59_1 : retOk (rty 59) 1 = true := by decide +kernel
theorem rt_59_0 : retOk (rty 59) 0 = true := by decide +kernel
theorem gk_60_9_40 : getOk 60 9 40 6 0 0 = true := by decide +kernel
theorem rt_60 (x : Int) : retOk (rty 60) x = true := rfl
theorem gk_60_18_40 : getOk 60 18 40 6 2 2 = true := by decide +kernel
theorem gk_60_28_40 : getOk 60 28 40 6 5 2 = true := by decide +kernel
theorem gk_60_25_40 : getOk 60 25 40 6 4 2 = true := by decide +kernel
theorem gk_60_22_40 : getOk 60 22 40 6 3 2 = true := by decide +kernel
theorem gk_60_15_40 : getOk 60 15 40 6 1 0 = true := by decide +kernel
theorem gk_104_32_1 : getOk 104 32 1 10 3 2 = true := by decide +kernel
theorem gk_104_125_20 : getOk 104 125 20 0 0 0 = true := by decide +kernel
theorem rt_104 (x : Int) : retOk (rty 104) x = true := rfl
theorem mk_104_117 : mthR 104 117 = some (0, 101) := by decide +kernel
theorem gk_68_9_9 : getOk 68 9 9 7 0 0 = true := by decide +kernel
theorem rv_68 : rty 68 = none := by rfl
theorem fn_68_7_0 : finOk 68 7 0 = true := by decide +kernel
theorem gk_16_9_20 : getOk 16 9 20 0 0 0 = true := by decide +kernel
theorem rt_16 (x : Int) : retOk (rty 16) x = true := rfl
theorem gk_16_41_20 : getOk 16 41 20 0 9 2 = true := by decide +kernel
theorem mk_150_36 : mthR 150 36 = some (1, 148) := by decide +kernel
theorem rz_150 : rty 150 = some .boolean := by rfl
theorem rt_148_0 : retOk (rty 148) 0 = true := by decide +kernel
theorem rt_148_1 : retOk (rty 148) 1 = true := by decide +kernel
theorem gk_155_13_56 : getOk 155 13 56 12 1 2 = true := by decide +kernel
theorem rt_155 (x : Int) : retOk (rty 155) x = true := rfl
theorem gk_151_13_56 : getOk 151 13 56 12 1 2 = true := by decide +kernel
theorem mk_151_36 : mthR 151 36 = some (1, 148) := by decide +kernel
theorem rz_151 : rty 151 = some .boolean := by rfl
theorem gk_153_13_56 : getOk 153 13 56 12 1 2 = true := by decide +kernel
theorem rt_153 (x : Int) : retOk (rty 153) x = true := rfl
theorem rt_160 (x : Int) : retOk (rty 160) x = true := rfl
theorem mk_160_55 : mthR 160 55 = some (1, 159) := by decide +kernel
theorem gk_163_62_56 : getOk 163 62 56 12 4 0 = true := by decide +kernel
theorem rv_163 : rty 163 = none := by rfl
theorem gk_163_65_56 : getOk 163 65 56 12 5 0 = true := by decide +kernel
theorem fn_163_12_4 : finOk 163 12 4 = true := by decide +kernel
theorem fn_163_12_5 : finOk 163 12 5 = true := by decide +kernel
theorem gk_163_20_56 : getOk 163 20 56 12 3 2 = true := by decide +kernel
theorem gk_163_17_56 : getOk 163 17 56 12 2 2 = true := by decide +kernel
theorem sp_58 : SH 58 = (1, 7) := by decide +kernel
theorem mk_163_68 : mthR 163 68 = some (0, 163) := by decide +kernel
theorem mk_163_59 : mthR 163 59 = some (1, 160) := by decide +kernel
theorem mk_156_36 : mthR 156 36 = some (1, 148) := by decide +kernel
theorem rz_156 : rty 156 = some .boolean := by rfl
theorem gk_176_78_56 : getOk 176 78 56 12 6 0 = true := by decide +kernel
theorem fn_176_12_6 : finOk 176 12 6 = true := by decide +kernel
theorem gk_176_75_56 : getOk 176 75 56 12 7 0 = true := by decide +kernel
theorem fn_176_12_7 : finOk 176 12 7 = true := by decide +kernel
theorem gk_176_72_56 : getOk 176 72 56 12 8 0 = true := by decide +kernel
theorem fn_176_12_8 : finOk 176 12 8 = true := by decide +kernel
theorem gk_176_98_56 : getOk 176 98 56 12 9 0 = true := by decide +kernel
theorem fn_176_12_9 : finOk 176 12 9 = true := by decide +kernel
theorem gk_176_81_56 : getOk 176 81 56 12 10 3 = true := by decide +kernel
theorem fn_176_12_10 : finOk 176 12 10 = true := by decide +kernel
theorem gk_176_101_56 : getOk 176 101 56 12 11 0 = true := by decide +kernel
theorem fn_176_12_11 : finOk 176 12 11 = true := by decide +kernel
theorem gk_176_126_56 : getOk 176 126 56 12 12 3 = true := by decide +kernel
theorem fn_176_12_12 : finOk 176 12 12 = true := by decide +kernel
theorem rv_176 : rty 176 = none := by rfl
theorem mk_176_129 : mthR 176 129 = some (0, 168) := by decide +kernel
theorem np_168 : npr 168 = 0 := by decide +kernel
theorem en_168 (a0 : Nat) : entOk 168 [vR a0] = true := rfl
theorem eq_168 (a0 : Nat) : ent (mxl 168) [vR a0] = [some (vR a0)] := rfl
theorem on_168 : oNum 168 = 12 := by decide +kernel
theorem mk_176_88 : mthR 176 88 = some (0, 166) := by decide +kernel
theorem np_166 : npr 166 = 1 := by decide +kernel
theorem en_166 (a0 : Nat) (x1 : Int) : entOk 166 [vR a0, vI x1] = true := rfl
theorem eq_166 (a0 : Nat) (x1 : Int) : ent (mxl 166) [vR a0, vI x1] = [some (vR a0), some (vI x1)] := rfl
theorem on_166 : oNum 166 = 12 := by decide +kernel
theorem mk_176_117 : mthR 176 117 = some (0, 170) := by decide +kernel
theorem np_170 : npr 170 = 0 := by decide +kernel
theorem en_170 (a0 : Nat) : entOk 170 [vR a0] = true := rfl
theorem eq_170 (a0 : Nat) : ent (mxl 170) [vR a0] = [some (vR a0), none, none] := rfl
theorem on_170 : oNum 170 = 12 := by decide +kernel
theorem mk_176_114 : mthR 176 114 = some (0, 175) := by decide +kernel
theorem np_175 : npr 175 = 0 := by decide +kernel
theorem en_175 (a0 : Nat) : entOk 175 [vR a0] = true := rfl
theorem eq_175 (a0 : Nat) : ent (mxl 175) [vR a0] = [some (vR a0), none, none] := rfl
theorem on_175 : oNum 175 = 12 := by decide +kernel
theorem gk_176_132_56 : getOk 176 132 56 12 13 0 = true := by decide +kernel
theorem fn_176_12_13 : finOk 176 12 13 = true := by decide +kernel
theorem gk_176_135_56 : getOk 176 135 56 12 14 0 = true := by decide +kernel
theorem fn_176_12_14 : finOk 176 12 14 = true := by decide +kernel
theorem mk_176_85 : mthR 176 85 = some (0, 165) := by decide +kernel
theorem np_165 : npr 165 = 0 := by decide +kernel
theorem en_165 (a0 : Nat) : entOk 165 [vR a0] = true := rfl
theorem eq_165 (a0 : Nat) : ent (mxl 165) [vR a0] = [some (vR a0)] := rfl
theorem on_165 : oNum 165 = 12 := by decide +kernel
theorem mk_183_36 : mthR 183 36 = some (1, 148) := by decide +kernel
theorem rt_183_0 : retOk (rty 183) 0 = true := by decide +kernel
theorem mk_183_157 : mthR 183 157 = some (0, 152) := by decide +kernel
theorem rt_183_1 : retOk (rty 183) 1 = true := by decide +kernel
theorem mk_182_153 : mthR 182 153 = some (0, 181) := by decide +kernel
theorem gk_182_132_56 : getOk 182 132 56 12 13 0 = true := by decide +kernel
theorem rt_182 (x : Int) : retOk (rty 182) x = true := rfl
theorem mk_181_147 : mthR 181 147 = some (0, 180) := by decide +kernel
theorem np_180 : npr 180 = 2 := by decide +kernel
theorem en_180 (a0 : Nat) (x1 : Int) (x2 : Int) : entOk 180 [vR a0, vI x1, vI x2] = true := rfl
theorem eq_180 (a0 : Nat) (x1 : Int) (x2 : Int) : ent (mxl 180) [vR a0, vI x1, vI x2] = [some (vR a0), some (vI x1), some (vI x2), none, none, none, none] := rfl
theorem on_180 : oNum 180 = 12 := by decide +kernel
theorem mk_181_150 : mthR 181 150 = some (1, 179) := by decide +kernel
theorem np_179 : npr 179 = 1 := by decide +kernel
theorem en_179 (x0 : Int) : entOk 179 [vI x0] = true := rfl
theorem eq_179 (x0 : Int) : ent (mxl 179) [vI x0] = [some (vI x0)] := rfl
theorem gk_181_13_56 : getOk 181 13 56 12 1 2 = true := by decide +kernel
theorem mk_181_143 : mthR 181 143 = some (0, 176) := by decide +kernel
theorem gk_181_132_56 : getOk 181 132 56 12 13 0 = true := by decide +kernel
theorem fn_181_12_13 : finOk 181 12 13 = true := by decide +kernel
theorem rt_181 (x : Int) : retOk (rty 181) x = true := rfl
theorem gk_181_126_56 : getOk 181 126 56 12 12 3 = true := by decide +kernel
theorem mk_186_36 : mthR 186 36 = some (1, 148) := by decide +kernel
theorem rt_186 (x : Int) : retOk (rty 186) x = true := rfl
theorem mk_186_44 : mthR 186 44 = some (0, 155) := by decide +kernel
theorem mk_186_164 : mthR 186 164 = some (0, 182) := by decide +kernel
theorem gk_186_13_56 : getOk 186 13 56 12 1 2 = true := by decide +kernel
theorem gk_152_13_56 : getOk 152 13 56 12 1 2 = true := by decide +kernel
theorem mk_152_36 : mthR 152 36 = some (1, 148) := by decide +kernel
theorem rz_152 : rty 152 = some .boolean := by rfl
theorem gk_154_13_56 : getOk 154 13 56 12 1 2 = true := by decide +kernel
theorem rt_154 (x : Int) : retOk (rty 154) x = true := rfl
theorem mk_190_104 : mthR 190 104 = some (0, 154) := by decide +kernel
theorem mk_190_164 : mthR 190 164 = some (0, 182) := by decide +kernel
theorem mk_190_171 : mthR 190 171 = some (0, 189) := by decide +kernel
theorem rt_190 (x : Int) : retOk (rty 190) x = true := rfl
theorem mk_191_104 : mthR 191 104 = some (0, 154) := by decide +kernel
theorem rt_191 (x : Int) : retOk (rty 191) x = true := rfl
theorem mk_197_104 : mthR 197 104 = some (0, 154) := by decide +kernel
theorem mk_197_51 : mthR 197 51 = some (0, 153) := by decide +kernel
theorem gk_197_13_56 : getOk 197 13 56 12 1 2 = true := by decide +kernel
theorem mk_197_177 : mthR 197 177 = some (1, 196) := by decide +kernel
theorem np_196 : npr 196 = 2 := by decide +kernel
theorem en_196 (x0 : Int) (x1 : Int) : entOk 196 [vI x0, vI x1] = true := rfl
theorem eq_196 (x0 : Int) (x1 : Int) : ent (mxl 196) [vI x0, vI x1] = [some (vI x0), some (vI x1)] := rfl
theorem mk_197_55 : mthR 197 55 = some (1, 159) := by decide +kernel
theorem mk_197_174 : mthR 197 174 = some (0, 192) := by decide +kernel
theorem rt_197 (x : Int) : retOk (rty 197) x = true := rfl
theorem mk_194_104 : mthR 194 104 = some (0, 154) := by decide +kernel
theorem rt_194_1 : retOk (rty 194) 1 = true := by decide +kernel
theorem rt_194_0 : retOk (rty 194) 0 = true := by decide +kernel
theorem mk_192_104 : mthR 192 104 = some (0, 154) := by decide +kernel
theorem mk_192_51 : mthR 192 51 = some (0, 153) := by decide +kernel
theorem rt_192 (x : Int) : retOk (rty 192) x = true := rfl
theorem gk_195_13_56 : getOk 195 13 56 12 1 2 = true := by decide +kernel
theorem rt_195 (x : Int) : retOk (rty 195) x = true := rfl
theorem mk_195_51 : mthR 195 51 = some (0, 153) := by decide +kernel
theorem rt_159 (x : Int) : retOk (rty 159) x = true := rfl
theorem rt_199 (x : Int) : retOk (rty 199) x = true := rfl
theorem gk_207_13_56 : getOk 207 13 56 12 1 2 = true := by decide +kernel
theorem mk_207_214 : mthR 207 214 = some (0, 208) := by decide +kernel
theorem np_208 : npr 208 = 0 := by decide +kernel
theorem en_208 (a0 : Nat) : entOk 208 [vR a0] = true := rfl
theorem eq_208 (a0 : Nat) : ent (mxl 208) [vR a0] = [some (vR a0), none, none] := rfl
theorem on_208 : oNum 208 = 12 := by decide +kernel
theorem mk_207_104 : mthR 207 104 = some (0, 154) := by decide +kernel
theorem gk_207_23_56 : getOk 207 23 56 12 15 2 = true := by decide +kernel
theorem sp_60 : SH 60 = (4, 60) := by decide +kernel
theorem gk_207_27_56 : getOk 207 27 56 12 16 2 = true := by decide +kernel
theorem rv_207 : rty 207 = none := by rfl
theorem mk_207_217 : mthR 207 217 = some (0, 205) := by decide +kernel
theorem mk_207_180 : mthR 207 180 = some (0, 190) := by decide +kernel
theorem sp_61 : SH 61 = (1, 60) := by decide +kernel
theorem mk_207_220 : mthR 207 220 = some (0, 206) := by decide +kernel
theorem np_206 : npr 206 = 1 := by decide +kernel
theorem en_206 (a0 : Nat) (x1 : Int) : entOk 206 [vR a0, vI x1] = true := rfl
theorem eq_206 (a0 : Nat) (x1 : Int) : ent (mxl 206) [vR a0, vI x1] = [some (vR a0), some (vI x1), none, none, none] := rfl
theorem on_206 : oNum 206 = 12 := by decide +kernel
theorem mk_193_174 : mthR 193 174 = some (0, 192) := by decide +kernel
theorem rt_193_1 : retOk (rty 193) 1 = true := by decide +kernel
theorem mk_193_104 : mthR 193 104 = some (0, 154) := by decide +kernel
theorem rt_193_0 : retOk (rty 193) 0 = true := by decide +kernel
theorem mk_193_51 : mthR 193 51 = some (0, 153) := by decide +kernel
theorem mk_211_104 : mthR 211 104 = some (0, 154) := by decide +kernel
theorem mk_211_174 : mthR 211 174 = some (0, 192) := by decide +kernel
theorem mk_211_186 : mthR 211 186 = some (0, 195) := by decide +kernel
theorem rt_211 (x : Int) : retOk (rty 211) x = true := rfl
theorem mk_214_40 : mthR 214 40 = some (1, 150) := by decide +kernel
theorem rt_214_0 : retOk (rty 214) 0 = true := by decide +kernel
theorem mk_214_36 : mthR 214 36 = some (1, 148) := by decide +kernel
theorem rt_214_1 : retOk (rty 214) 1 = true := by decide +kernel
theorem mk_216_48 : mthR 216 48 = some (0, 151) := by decide +kernel
theorem rt_216_1 : retOk (rty 216) 1 = true := by decide +kernel
theorem rt_216_0 : retOk (rty 216) 0 = true := by decide +kernel
theorem mk_205_51 : mthR 205 51 = some (0, 153) := by decide +kernel
theorem mk_205_205 : mthR 205 205 = some (0, 203) := by decide +kernel
theorem np_203 : npr 203 = 2 := by decide +kernel
theorem en_203 (a0 : Nat) (x1 : Int) (x2 : Int) : entOk 203 [vR a0, vI x1, vI x2] = true := rfl
theorem eq_203 (a0 : Nat) (x1 : Int) (x2 : Int) : ent (mxl 203) [vR a0, vI x1, vI x2] = [some (vR a0), some (vI x1), some (vI x2)] := rfl
theorem on_203 : oNum 203 = 12 := by decide +kernel
theorem rz_205 : rty 205 = some .boolean := by rfl
theorem mk_205_208 : mthR 205 208 = some (0, 204) := by decide +kernel
theorem np_204 : npr 204 = 3 := by decide +kernel
theorem en_204 (a0 : Nat) (x1 : Int) (x2 : Int) (x3 : Int) : entOk 204 [vR a0, vI x1, vI x2, vI x3] = true := rfl
theorem eq_204 (a0 : Nat) (x1 : Int) (x2 : Int) (x3 : Int) : ent (mxl 204) [vR a0, vI x1, vI x2, vI x3] = [some (vR a0), some (vI x1), some (vI x2), some (vI x3), none, none] := rfl
theorem on_204 : oNum 204 = 12 := by decide +kernel
theorem rt_205_0 : retOk (rty 205) 0 = true := by decide +kernel
theorem rt_205_1 : retOk (rty 205) 1 = true := by decide +kernel
theorem gk_220_13_56 : getOk 220 13 56 12 1 2 = true := by decide +kernel
theorem rt_220_1 : retOk (rty 220) 1 = true := by decide +kernel
theorem mk_220_217 : mthR 220 217 = some (0, 205) := by decide +kernel
theorem rt_220_0 : retOk (rty 220) 0 = true := by decide +kernel
theorem gk_223_13_56 : getOk 223 13 56 12 1 2 = true := by decide +kernel
theorem rt_223 (x : Int) : retOk (rty 223) x = true := rfl
theorem mk_224_51 : mthR 224 51 = some (0, 153) := by decide +kernel
theorem mk_224_239 : mthR 224 239 = some (0, 223) := by decide +kernel
theorem mk_224_164 : mthR 224 164 = some (0, 182) := by decide +kernel
theorem rt_224 (x : Int) : retOk (rty 224) x = true := rfl
theorem gk_230_62_56 : getOk 230 62 56 12 4 0 = true := by decide +kernel
theorem rv_230 : rty 230 = none := by rfl
theorem fn_230_12_4 : finOk 230 12 4 = true := by decide +kernel
theorem gk_230_20_56 : getOk 230 20 56 12 3 2 = true := by decide +kernel
theorem gk_230_17_56 : getOk 230 17 56 12 2 2 = true := by decide +kernel
theorem mk_230_245 : mthR 230 245 = some (0, 230) := by decide +kernel
theorem gk_230_30_56 : getOk 230 30 56 12 17 2 = true := by decide +kernel
theorem gk_230_13_56 : getOk 230 13 56 12 1 2 = true := by decide +kernel
theorem gk_229_13_56 : getOk 229 13 56 12 1 2 = true := by decide +kernel
theorem rt_229 (x : Int) : retOk (rty 229) x = true := rfl
theorem mk_229_104 : mthR 229 104 = some (0, 154) := by decide +kernel
theorem mk_235_143 : mthR 235 143 = some (0, 176) := by decide +kernel
theorem gk_235_126_56 : getOk 235 126 56 12 12 3 = true := by decide +kernel
theorem mk_235_44 : mthR 235 44 = some (0, 155) := by decide +kernel
theorem gk_235_132_56 : getOk 235 132 56 12 13 0 = true := by decide +kernel
theorem rt_235 (x : Int) : retOk (rty 235) x = true := rfl
theorem mk_235_164 : mthR 235 164 = some (0, 182) := by decide +kernel
theorem mk_189_104 : mthR 189 104 = some (0, 154) := by decide +kernel
theorem rt_189 (x : Int) : retOk (rty 189) x = true := rfl
theorem gk_239_13_56 : getOk 239 13 56 12 1 2 = true := by decide +kernel
theorem rt_239 (x : Int) : retOk (rty 239) x = true := rfl
theorem mk_239_104 : mthR 239 104 = some (0, 154) := by decide +kernel
theorem rt_21_0 : retOk (rty 21) 0 = true := by decide +kernel
theorem rt_21_1 : retOk (rty 21) 1 = true := by decide +kernel
theorem gk_24_9_48 : getOk 24 9 48 1 0 0 = true := by decide +kernel
theorem rv_24 : rty 24 = none := by rfl
theorem gk_24_22_48 : getOk 24 22 48 1 3 0 = true := by decide +kernel
theorem gk_24_19_48 : getOk 24 19 48 1 2 0 = true := by decide +kernel
theorem fn_24_1_0 : finOk 24 1 0 = true := by decide +kernel
theorem fn_24_1_2 : finOk 24 1 2 = true := by decide +kernel
theorem gk_24_28_48 : getOk 24 28 48 1 5 2 = true := by decide +kernel
theorem gk_24_15_48 : getOk 24 15 48 1 1 2 = true := by decide +kernel
theorem mk_24_66 : mthR 24 66 = some (6, 0) := by decide +kernel
theorem sp_50 : SH 50 = (1, 5) := by decide +kernel
theorem gk_24_25_48 : getOk 24 25 48 1 4 0 = true := by decide +kernel
theorem mk_24_72 : mthR 24 72 = some (0, 25) := by decide +kernel
theorem np_25 : npr 25 = 4 := by decide +kernel
theorem en_25 (a0 : Nat) (x1 : Int) (x2 : Int) (x3 : Int) (x4 : Int) : entOk 25 [vR a0, vI x1, vI x2, vI x3, vI x4] = true := rfl
theorem eq_25 (a0 : Nat) (x1 : Int) (x2 : Int) (x3 : Int) (x4 : Int) : ent (mxl 25) [vR a0, vI x1, vI x2, vI x3, vI x4] = [some (vR a0), some (vI x1), some (vI x2), some (vI x3), some (vI x4), none, none] := rfl
theorem on_25 : oNum 25 = 1 := by decide +kernel
theorem gk_76_15_10 : getOk 76 15 10 8 1 0 = true := by decide +kernel
theorem fn_76_8_1 : finOk 76 8 1 = true := by decide +kernel
theorem gk_76_18_10 : getOk 76 18 10 8 2 0 = true := by decide +kernel
theorem fn_76_8_2 : finOk 76 8 2 = true := by decide +kernel
theorem gk_76_21_10 : getOk 76 21 10 8 3 3 = true := by decide +kernel
theorem fn_76_8_3 : finOk 76 8 3 = true := by decide +kernel
theorem rv_76 : rty 76 = none := by rfl
theorem gk_77_21_10 : getOk 77 21 10 8 3 3 = true := by decide +kernel
theorem rt_77_0 : retOk (rty 77) 0 = true := by decide +kernel
theorem gk_77_15_10 : getOk 77 15 10 8 1 0 = true := by decide +kernel
theorem gk_77_9_10 : getOk 77 9 10 8 0 0 = true := by decide +kernel
theorem rt_77_1 : retOk (rty 77) 1 = true := by decide +kernel
theorem rv_66 : rty 66 = none := by rfl
theorem gk_66_18_9 : getOk 66 18 9 7 1 2 = true := by decide +kernel
theorem mk_66_79 : mthR 66 79 = some (0, 81) := by decide +kernel
theorem np_81 : npr 81 = 0 := by decide +kernel
theorem en_81 (a0 : Nat) : entOk 81 [vR a0] = true := rfl
theorem eq_81 (a0 : Nat) : ent (mxl 81) [vR a0] = [some (vR a0), none, none, none] := rfl
theorem on_81 : oNum 81 = 8 := by decide +kernel
theorem gk_66_32_9 : getOk 66 32 9 7 5 2 = true := by decide +kernel
theorem mk_66_72 : mthR 66 72 = some (0, 79) := by decide +kernel
theorem gk_66_22_9 : getOk 66 22 9 7 2 2 = true := by decide +kernel
theorem mk_66_82 : mthR 66 82 = some (0, 83) := by decide +kernel
theorem np_83 : npr 83 = 0 := by decide +kernel
theorem en_83 (a0 : Nat) : entOk 83 [vR a0] = true := rfl
theorem eq_83 (a0 : Nat) : ent (mxl 83) [vR a0] = [some (vR a0), none, none, none] := rfl
theorem on_83 : oNum 83 = 8 := by decide +kernel
theorem gk_66_35_9 : getOk 66 35 9 7 6 2 = true := by decide +kernel
theorem gk_66_85_10 : getOk 66 85 10 8 2 0 = true := by decide +kernel
theorem sp_17 : SH 17 = (1, 88) := by decide +kernel
theorem mk_66_88 : mthR 66 88 = some (1, 63) := by decide +kernel
theorem gk_66_38_9 : getOk 66 38 9 7 7 2 = true := by decide +kernel
theorem sp_18 : SH 18 = (1, 88) := by decide +kernel
theorem mk_66_92 : mthR 66 92 = some (4, 84) := by decide +kernel
theorem np_84 : npr 84 = 1 := by decide +kernel
theorem en_84 (a0 : Nat) (x1 : Int) : entOk 84 [vR a0, vI x1] = true := rfl
theorem eq_84 (a0 : Nat) (x1 : Int) : ent (mxl 84) [vR a0, vI x1] = [some (vR a0), some (vI x1), none] := rfl
theorem on_84 : oNum 84 = 8 := by decide +kernel
theorem gk_79_21_10 : getOk 79 21 10 8 3 3 = true := by decide +kernel
theorem fn_79_8_3 : finOk 79 8 3 = true := by decide +kernel
theorem rv_79 : rty 79 = none := by rfl
theorem mk_79_39 : mthR 79 39 = some (0, 78) := by decide +kernel
theorem np_78 : npr 78 = 0 := by decide +kernel
theorem en_78 (a0 : Nat) : entOk 78 [vR a0] = true := rfl
theorem eq_78 (a0 : Nat) : ent (mxl 78) [vR a0] = [some (vR a0)] := rfl
theorem on_78 : oNum 78 = 8 := by decide +kernel
theorem gk_79_15_10 : getOk 79 15 10 8 1 0 = true := by decide +kernel
theorem fn_79_8_1 : finOk 79 8 1 = true := by decide +kernel
theorem rt_63_1 : retOk (rty 63) 1 = true := by decide +kernel
theorem rt_63_0 : retOk (rty 63) 0 = true := by decide +kernel
theorem rt_64 (x : Int) : retOk (rty 64) x = true := rfl
theorem st_64_54 : sttR 64 54 = some (vR 1000) := by decide +kernel
theorem sp_1000 : SH 1000 = (10, 7) := by decide +kernel
theorem rt_71_0 : retOk (rty 71) 0 = true := by decide +kernel
theorem gk_71_35_9 : getOk 71 35 9 7 6 2 = true := by decide +kernel
theorem gk_71_38_9 : getOk 71 38 9 7 7 2 = true := by decide +kernel
theorem rt_71_1 : retOk (rty 71) 1 = true := by decide +kernel
theorem gk_71_18_9 : getOk 71 18 9 7 1 2 = true := by decide +kernel
theorem gk_71_98_10 : getOk 71 98 10 8 4 2 = true := by decide +kernel
theorem sp_11 : SH 11 = (1, 1320) := by decide +kernel
theorem mk_71_101 : mthR 71 101 = some (0, 72) := by decide +kernel
theorem np_72 : npr 72 = 2 := by decide +kernel
theorem en_72 (a0 : Nat) (x1 : Int) (x2 : Int) : entOk 72 [vR a0, vI x1, vI x2] = true := rfl
theorem eq_72 (a0 : Nat) (x1 : Int) (x2 : Int) : ent (mxl 72) [vR a0, vI x1, vI x2] = [some (vR a0), some (vI x1), some (vI x2)] := rfl
theorem on_72 : oNum 72 = 7 := by decide +kernel
theorem mk_42_40 : mthR 42 40 = some (0, 39) := by decide +kernel
theorem rt_42 (x : Int) : retOk (rty 42) x = true := rfl
theorem gk_42_15_2 : getOk 42 15 2 4 1 2 = true := by decide +kernel
theorem gk_69_41_9 : getOk 69 41 9 7 8 2 = true := by decide +kernel
theorem sp_19 : SH 19 = (1, 6) := by decide +kernel
theorem rv_69 : rty 69 = none := by rfl
theorem mk_43_40 : mthR 43 40 = some (0, 39) := by decide +kernel
theorem rt_43 (x : Int) : retOk (rty 43) x = true := rfl
theorem gk_43_15_2 : getOk 43 15 2 4 1 2 = true := by decide +kernel
theorem gk_14_15_20 : getOk 14 15 20 0 1 2 = true := by decide +kernel
theorem gk_14_22_20 : getOk 14 22 20 0 3 2 = true := by decide +kernel
theorem mk_14_104 : mthR 14 104 = some (0, 39) := by decide +kernel
theorem gk_14_19_20 : getOk 14 19 20 0 2 2 = true := by decide +kernel
theorem mk_14_98 : mthR 14 98 = some (0, 42) := by decide +kernel
theorem mk_14_101 : mthR 14 101 = some (0, 45) := by decide +kernel
theorem rt_14 (x : Int) : retOk (rty 14) x = true := rfl
theorem cl_242_314 : cslL.lookup (oNum 242, 314) = some 6148914691236517205 := by decide +kernel
theorem cl_242_316 : cslL.lookup (oNum 242, 316) = some 3689348814741910323 := by decide +kernel
theorem cl_242_318 : cslL.lookup (oNum 242, 318) = some 1085102592571150095 := by decide +kernel
theorem rt_242 (x : Int) : retOk (rty 242) x = true := rfl
theorem gk_47_9_2 : getOk 47 9 2 4 0 0 = true := by decide +kernel
theorem rt_47 (x : Int) : retOk (rty 47) x = true := rfl
theorem gk_47_15_2 : getOk 47 15 2 4 1 2 = true := by decide +kernel
theorem mk_47_57 : mthR 47 57 = some (0, 42) := by decide +kernel
theorem mk_47_61 : mthR 47 61 = some (0, 46) := by decide +kernel
theorem mk_47_65 : mthR 47 65 = some (1, 242) := by decide +kernel
theorem mk_47_54 : mthR 47 54 = some (7, 0) := by decide +kernel
theorem mk_44_40 : mthR 44 40 = some (0, 39) := by decide +kernel
theorem rt_44 (x : Int) : retOk (rty 44) x = true := rfl
theorem gk_44_22_2 : getOk 44 22 2 4 3 2 = true := by decide +kernel
theorem gk_32_35_1 : getOk 32 35 1 10 3 2 = true := by decide +kernel
theorem gk_32_18_45 : getOk 32 18 45 3 2 0 = true := by decide +kernel
theorem fn_32_3_2 : finOk 32 3 2 = true := by decide +kernel
theorem gk_32_51_20 : getOk 32 51 20 0 0 0 = true := by decide +kernel
theorem rv_32 : rty 32 = none := by rfl
theorem gk_32_56_20 : getOk 32 56 20 0 9 2 = true := by decide +kernel
theorem gk_32_59_20 : getOk 32 59 20 0 7 2 = true := by decide +kernel
theorem mk_32_62 : mthR 32 62 = some (0, 102) := by decide +kernel
theorem gk_32_15_45 : getOk 32 15 45 3 1 2 = true := by decide +kernel
theorem sp_47 : SH 47 = (1, 60) := by decide +kernel
theorem gk_32_9_45 : getOk 32 9 45 3 0 2 = true := by decide +kernel
theorem sp_46 : SH 46 = (1, 60) := by decide +kernel
theorem gk_33_22_45 : getOk 33 22 45 3 3 0 = true := by decide +kernel
theorem fn_33_3_3 : finOk 33 3 3 = true := by decide +kernel
theorem gk_33_25_45 : getOk 33 25 45 3 4 0 = true := by decide +kernel
theorem fn_33_3_4 : finOk 33 3 4 = true := by decide +kernel
theorem gk_33_28_45 : getOk 33 28 45 3 5 0 = true := by decide +kernel
theorem fn_33_3_5 : finOk 33 3 5 = true := by decide +kernel
theorem gk_33_51_20 : getOk 33 51 20 0 0 0 = true := by decide +kernel
theorem rv_33 : rty 33 = none := by rfl
theorem gk_33_56_20 : getOk 33 56 20 0 9 2 = true := by decide +kernel
theorem gk_33_66_20 : getOk 33 66 20 0 8 2 = true := by decide +kernel
theorem gk_33_69_20 : getOk 33 69 20 0 6 2 = true := by decide +kernel
theorem mk_33_72 : mthR 33 72 = some (0, 34) := by decide +kernel
theorem np_34 : npr 34 = 2 := by decide +kernel
theorem en_34 (a0 : Nat) (a1 : Nat) (x2 : Int) : entOk 34 [vR a0, vR a1, vI x2] = true := rfl
theorem eq_34 (a0 : Nat) (a1 : Nat) (x2 : Int) : ent (mxl 34) [vR a0, vR a1, vI x2] = [some (vR a0), some (vR a1), some (vI x2)] := rfl
theorem on_34 : oNum 34 = 3 := by decide +kernel
theorem gk_35_18_45 : getOk 35 18 45 3 2 0 = true := by decide +kernel
theorem fn_35_3_2 : finOk 35 3 2 = true := by decide +kernel
theorem mk_35_81 : mthR 35 81 = some (0, 98) := by decide +kernel
theorem mk_35_85 : mthR 35 85 = some (0, 101) := by decide +kernel
theorem rv_35 : rty 35 = none := by rfl
theorem gk_35_9_45 : getOk 35 9 45 3 0 2 = true := by decide +kernel
theorem gk_35_35_1 : getOk 35 35 1 10 3 2 = true := by decide +kernel
theorem mk_35_89 : mthR 35 89 = some (0, 3) := by decide +kernel
theorem mk_35_93 : mthR 35 93 = some (0, 36) := by decide +kernel
theorem np_36 : npr 36 = 3 := by decide +kernel
theorem en_36 (a0 : Nat) (a1 : Nat) (x2 : Int) (x3 : Int) : entOk 36 [vR a0, vR a1, vI x2, vI x3] = true := rfl
theorem eq_36 (a0 : Nat) (a1 : Nat) (x2 : Int) (x3 : Int) : ent (mxl 36) [vR a0, vR a1, vI x2, vI x3] = [some (vR a0), some (vR a1), some (vI x2), some (vI x3), none, none] := rfl
theorem on_36 : oNum 36 = 3 := by decide +kernel
theorem gk_35_56_20 : getOk 35 56 20 0 9 2 = true := by decide +kernel
theorem gk_10_15_20 : getOk 10 15 20 0 1 2 = true := by decide +kernel
theorem mk_10_74 : mthR 10 74 = some (1, 5) := by decide +kernel
theorem rt_10 (x : Int) : retOk (rty 10) x = true := rfl
theorem rl_48 : rty 48 = some .long := by rfl
theorem gk_95_19_31 : getOk 95 19 31 9 2 0 = true := by decide +kernel
theorem rt_95 (x : Int) : retOk (rty 95) x = true := rfl
theorem gk_95_31_31 : getOk 95 31 31 9 6 2 = true := by decide +kernel
theorem gk_95_35_31 : getOk 95 35 31 9 7 2 = true := by decide +kernel
theorem gk_96_15_31 : getOk 96 15 31 9 1 0 = true := by decide +kernel
theorem rt_96_1 : retOk (rty 96) 1 = true := by decide +kernel
theorem gk_96_39_31 : getOk 96 39 31 9 8 2 = true := by decide +kernel
theorem gk_96_28_31 : getOk 96 28 31 9 5 0 = true := by decide +kernel
theorem rt_96_0 : retOk (rty 96) 0 = true := by decide +kernel
theorem gk_55_9_35 : getOk 55 9 35 5 0 0 = true := by decide +kernel
theorem rt_55 (x : Int) : retOk (rty 55) x = true := rfl
theorem gk_55_15_35 : getOk 55 15 35 5 1 2 = true := by decide +kernel
theorem gk_55_25_35 : getOk 55 25 35 5 4 2 = true := by decide +kernel
theorem gk_55_19_35 : getOk 55 19 35 5 2 2 = true := by decide +kernel
theorem gk_55_22_35 : getOk 55 22 35 5 3 2 = true := by decide +kernel
theorem gk_105_18_1 : getOk 105 18 1 10 1 2 = true := by decide +kernel
theorem gk_105_128_2 : getOk 105 128 2 4 5 2 = true := by decide +kernel
theorem rt_105 (x : Int) : retOk (rty 105) x = true := rfl
theorem mk_105_117 : mthR 105 117 = some (0, 101) := by decide +kernel
theorem gk_50_31_2 : getOk 50 31 2 4 6 2 = true := by decide +kernel
theorem rt_50_0 : retOk (rty 50) 0 = true := by decide +kernel
theorem rt_50_1 : retOk (rty 50) 1 = true := by decide +kernel
theorem gk_28_9_51 : getOk 28 9 51 2 0 0 = true := by decide +kernel
theorem gk_28_19_51 : getOk 28 19 51 2 2 0 = true := by decide +kernel
theorem rv_28 : rty 28 = none := by rfl
theorem fn_28_2_0 : finOk 28 2 0 = true := by decide +kernel
theorem gk_28_25_51 : getOk 28 25 51 2 4 2 = true := by decide +kernel
theorem gk_28_15_51 : getOk 28 15 51 2 1 2 = true := by decide +kernel
theorem mk_28_61 : mthR 28 61 = some (6, 0) := by decide +kernel
theorem sp_53 : SH 53 = (1, 7) := by decide +kernel
theorem gk_28_22_51 : getOk 28 22 51 2 3 0 = true := by decide +kernel
theorem mk_28_67 : mthR 28 67 = some (0, 29) := by decide +kernel
theorem np_29 : npr 29 = 3 := by decide +kernel
theorem en_29 (a0 : Nat) (x1 : Int) (x2 : Int) (x3 : Int) : entOk 29 [vR a0, vI x1, vI x2, vI x3] = true := rfl
theorem eq_29 (a0 : Nat) (x1 : Int) (x2 : Int) (x3 : Int) : ent (mxl 29) [vR a0, vI x1, vI x2, vI x3] = [some (vR a0), some (vI x1), some (vI x2), some (vI x3), none, none, none] := rfl
theorem on_29 : oNum 29 = 2 := by decide +kernel
theorem gk_18_9_20 : getOk 18 9 20 0 0 0 = true := by decide +kernel
theorem rt_18 (x : Int) : retOk (rty 18) x = true := rfl
theorem gk_18_19_20 : getOk 18 19 20 0 2 2 = true := by decide +kernel
theorem gk_18_22_20 : getOk 18 22 20 0 3 2 = true := by decide +kernel
theorem mk_168_85 : mthR 168 85 = some (0, 165) := by decide +kernel
theorem mk_168_92 : mthR 168 92 = some (0, 167) := by decide +kernel
theorem np_167 : npr 167 = 5 := by decide +kernel
theorem en_167 (a0 : Nat) (x1 : Int) (x2 : Int) (x3 : Int) (x4 : Int) (x5 : Int) : entOk 167 [vR a0, vI x1, vI x2, vI x3, vI x4, vI x5] = true := rfl
theorem eq_167 (a0 : Nat) (x1 : Int) (x2 : Int) (x3 : Int) (x4 : Int) (x5 : Int) : ent (mxl 167) [vR a0, vI x1, vI x2, vI x3, vI x4, vI x5] = [some (vR a0), some (vI x1), some (vI x2), some (vI x3), some (vI x4), some (vI x5)] := rfl
theorem on_167 : oNum 167 = 12 := by decide +kernel
theorem rt_168 (x : Int) : retOk (rty 168) x = true := rfl
theorem gk_166_81_56 : getOk 166 81 56 12 10 3 = true := by decide +kernel
theorem mk_166_85 : mthR 166 85 = some (0, 165) := by decide +kernel
theorem rv_166 : rty 166 = none := by rfl
theorem fn_166_12_10 : finOk 166 12 10 = true := by decide +kernel
theorem gk_166_72_56 : getOk 166 72 56 12 8 0 = true := by decide +kernel
theorem fn_166_12_8 : finOk 166 12 8 = true := by decide +kernel
theorem gk_170_81_56 : getOk 170 81 56 12 10 3 = true := by decide +kernel
theorem mk_170_85 : mthR 170 85 = some (0, 165) := by decide +kernel
theorem rt_170 (x : Int) : retOk (rty 170) x = true := rfl
theorem mk_170_95 : mthR 170 95 = some (1, 169) := by decide +kernel
theorem np_169 : npr 169 = 1 := by decide +kernel
theorem en_169 (x0 : Int) : entOk 169 [vI x0] = true := rfl
theorem eq_169 (x0 : Int) : ent (mxl 169) [vI x0] = [some (vI x0)] := rfl
theorem fn_170_12_10 : finOk 170 12 10 = true := by decide +kernel
theorem gk_170_72_56 : getOk 170 72 56 12 8 0 = true := by decide +kernel
theorem fn_170_12_8 : finOk 170 12 8 = true := by decide +kernel
theorem mk_175_123 : mthR 175 123 = some (0, 174) := by decide +kernel
theorem np_174 : npr 174 = 0 := by decide +kernel
theorem en_174 (a0 : Nat) : entOk 174 [vR a0] = true := rfl
theorem eq_174 (a0 : Nat) : ent (mxl 174) [vR a0] = [some (vR a0), none, none] := rfl
theorem on_174 : oNum 174 = 12 := by decide +kernel
theorem gk_175_81_56 : getOk 175 81 56 12 10 3 = true := by decide +kernel
theorem rz_175 : rty 175 = some .boolean := by rfl
theorem mk_175_85 : mthR 175 85 = some (0, 165) := by decide +kernel
theorem gk_175_72_56 : getOk 175 72 56 12 8 0 = true := by decide +kernel
theorem fn_175_12_8 : finOk 175 12 8 = true := by decide +kernel
theorem gk_165_72_56 : getOk 165 72 56 12 8 0 = true := by decide +kernel
theorem gk_165_75_56 : getOk 165 75 56 12 7 0 = true := by decide +kernel
theorem rt_165 (x : Int) : retOk (rty 165) x = true := rfl
theorem gk_165_13_56 : getOk 165 13 56 12 1 2 = true := by decide +kernel
theorem gk_165_78_56 : getOk 165 78 56 12 6 0 = true := by decide +kernel
theorem gk_180_13_56 : getOk 180 13 56 12 1 2 = true := by decide +kernel
theorem rt_180 (x : Int) : retOk (rty 180) x = true := rfl
theorem rt_179 (x : Int) : retOk (rty 179) x = true := rfl
theorem rt_196 (x : Int) : retOk (rty 196) x = true := rfl
theorem gk_208_13_56 : getOk 208 13 56 12 1 2 = true := by decide +kernel
theorem rt_208 (x : Int) : retOk (rty 208) x = true := rfl
theorem gk_208_23_56 : getOk 208 23 56 12 15 2 = true := by decide +kernel
theorem gk_208_27_56 : getOk 208 27 56 12 16 2 = true := by decide +kernel
theorem gk_206_13_56 : getOk 206 13 56 12 1 2 = true := by decide +kernel
theorem mk_206_189 : mthR 206 189 = some (0, 194) := by decide +kernel
theorem mk_206_104 : mthR 206 104 = some (0, 154) := by decide +kernel
theorem rt_206_1 : retOk (rty 206) 1 = true := by decide +kernel
theorem mk_206_44 : mthR 206 44 = some (0, 155) := by decide +kernel
theorem mk_206_164 : mthR 206 164 = some (0, 182) := by decide +kernel
theorem mk_206_211 : mthR 206 211 = some (0, 193) := by decide +kernel
theorem rt_206_0 : retOk (rty 206) 0 = true := by decide +kernel
theorem mk_203_51 : mthR 203 51 = some (0, 153) := by decide +kernel
theorem mk_203_201 : mthR 203 201 = some (0, 202) := by decide +kernel
theorem np_202 : npr 202 = 4 := by decide +kernel
theorem en_202 (a0 : Nat) (x1 : Int) (x2 : Int) (x3 : Int) (x4 : Int) : entOk 202 [vR a0, vI x1, vI x2, vI x3, vI x4] = true := rfl
theorem eq_202 (a0 : Nat) (x1 : Int) (x2 : Int) (x3 : Int) (x4 : Int) : ent (mxl 202) [vR a0, vI x1, vI x2, vI x3, vI x4] = [some (vR a0), some (vI x1), some (vI x2), some (vI x3), some (vI x4), none] := rfl
theorem on_202 : oNum 202 = 12 := by decide +kernel
theorem rz_203 : rty 203 = some .boolean := by rfl
theorem mk_204_51 : mthR 204 51 = some (0, 153) := by decide +kernel
theorem mk_204_201 : mthR 204 201 = some (0, 202) := by decide +kernel
theorem rz_204 : rty 204 = some .boolean := by rfl
theorem rv_25 : rty 25 = none := by rfl
theorem gk_25_28_48 : getOk 25 28 48 1 5 2 = true := by decide +kernel
theorem mk_25_62 : mthR 25 62 = some (0, 24) := by decide +kernel
theorem mk_25_58 : mthR 25 58 = some (1, 20) := by decide +kernel
theorem gk_81_21_10 : getOk 81 21 10 8 3 3 = true := by decide +kernel
theorem fn_81_8_3 : finOk 81 8 3 = true := by decide +kernel
theorem rt_81 (x : Int) : retOk (rty 81) x = true := rfl
theorem mk_81_43 : mthR 81 43 = some (1, 82) := by decide +kernel
theorem np_82 : npr 82 = 1 := by decide +kernel
theorem en_82 (x0 : Int) : entOk 82 [vI x0] = true := rfl
theorem eq_82 (x0 : Int) : ent (mxl 82) [vI x0] = [some (vI x0)] := rfl
theorem mk_81_47 : mthR 81 47 = some (0, 244) := by decide +kernel
theorem np_244 : npr 244 = 1 := by decide +kernel
theorem en_244 (a0 : Nat) (x1 : Int) : entOk 244 [vR a0, vI x1] = true := rfl
theorem eq_244 (a0 : Nat) (x1 : Int) : ent (mxl 244) [vR a0, vI x1] = [some (vR a0), some (vI x1)] := rfl
theorem on_244 : oNum 244 = 20 := by decide +kernel
theorem mk_81_39 : mthR 81 39 = some (0, 78) := by decide +kernel
theorem mk_81_53 : mthR 81 53 = some (0, 243) := by decide +kernel
theorem np_243 : npr 243 = 0 := by decide +kernel
theorem en_243 (a0 : Nat) : entOk 243 [vR a0] = true := rfl
theorem eq_243 (a0 : Nat) : ent (mxl 243) [vR a0] = [some (vR a0)] := rfl
theorem on_243 : oNum 243 = 20 := by decide +kernel
theorem mk_81_56 : mthR 81 56 = some (0, 79) := by decide +kernel
theorem mk_83_39 : mthR 83 39 = some (0, 78) := by decide +kernel
theorem gk_83_21_10 : getOk 83 21 10 8 3 3 = true := by decide +kernel
theorem rt_83 (x : Int) : retOk (rty 83) x = true := rfl
theorem fn_83_8_3 : finOk 83 8 3 = true := by decide +kernel
theorem gk_83_15_10 : getOk 83 15 10 8 1 0 = true := by decide +kernel
theorem fn_83_8_1 : finOk 83 8 1 = true := by decide +kernel
theorem mk_84_74 : mthR 84 74 = some (0, 85) := by decide +kernel
theorem np_85 : npr 85 = 1 := by decide +kernel
theorem en_85 (a0 : Nat) (x1 : Int) : entOk 85 [vR a0, vI x1] = true := rfl
theorem eq_85 (a0 : Nat) (x1 : Int) : ent (mxl 85) [vR a0, vI x1] = [some (vR a0), some (vI x1), none] := rfl
theorem on_85 : oNum 85 = 8 := by decide +kernel
theorem gk_84_15_10 : getOk 84 15 10 8 1 0 = true := by decide +kernel
theorem gk_84_9_10 : getOk 84 9 10 8 0 0 = true := by decide +kernel
theorem rv_84 : rty 84 = none := by rfl
theorem gk_84_21_10 : getOk 84 21 10 8 3 3 = true := by decide +kernel
theorem mk_84_39 : mthR 84 39 = some (0, 78) := by decide +kernel
theorem fn_84_8_1 : finOk 84 8 1 = true := by decide +kernel
theorem mk_84_77 : mthR 84 77 = some (0, 80) := by decide +kernel
theorem np_80 : npr 80 = 1 := by decide +kernel
theorem en_80 (a0 : Nat) (x1 : Int) : entOk 80 [vR a0, vI x1] = true := rfl
theorem eq_80 (a0 : Nat) (x1 : Int) : ent (mxl 80) [vR a0, vI x1] = [some (vR a0), some (vI x1)] := rfl
theorem on_80 : oNum 80 = 8 := by decide +kernel
theorem gk_78_15_10 : getOk 78 15 10 8 1 0 = true := by decide +kernel
theorem rt_78 (x : Int) : retOk (rty 78) x = true := rfl
theorem gk_78_9_10 : getOk 78 9 10 8 0 0 = true := by decide +kernel
theorem gk_78_29_10 : getOk 78 29 10 8 5 2 = true := by decide +kernel
theorem rt_72_0 : retOk (rty 72) 0 = true := by decide +kernel
theorem gk_72_41_9 : getOk 72 41 9 7 8 2 = true := by decide +kernel
theorem rt_72_1 : retOk (rty 72) 1 = true := by decide +kernel
theorem gk_34_22_45 : getOk 34 22 45 3 3 0 = true := by decide +kernel
theorem gk_34_75_20 : getOk 34 75 20 0 4 2 = true := by decide +kernel
theorem fn_34_3_3 : finOk 34 3 3 = true := by decide +kernel
theorem gk_34_25_45 : getOk 34 25 45 3 4 0 = true := by decide +kernel
theorem mk_34_78 : mthR 34 78 = some (0, 10) := by decide +kernel
theorem fn_34_3_4 : finOk 34 3 4 = true := by decide +kernel
theorem gk_34_28_45 : getOk 34 28 45 3 5 0 = true := by decide +kernel
theorem fn_34_3_5 : finOk 34 3 5 = true := by decide +kernel
theorem rv_34 : rty 34 = none := by rfl
theorem gk_36_35_1 : getOk 36 35 1 10 3 2 = true := by decide +kernel
theorem mk_36_78 : mthR 36 78 = some (0, 10) := by decide +kernel
theorem gk_36_97_20 : getOk 36 97 20 0 5 2 = true := by decide +kernel
theorem gk_36_101_1 : getOk 36 101 1 10 4 2 = true := by decide +kernel
theorem gk_36_105_31 : getOk 36 105 31 9 0 1 = true := by decide +kernel
theorem gk_36_25_45 : getOk 36 25 45 3 4 0 = true := by decide +kernel
theorem gk_36_56_20 : getOk 36 56 20 0 9 2 = true := by decide +kernel
theorem rv_36 : rty 36 = none := by rfl
theorem gk_36_41_1 : getOk 36 41 1 10 0 0 = true := by decide +kernel
theorem gk_36_59_20 : getOk 36 59 20 0 7 2 = true := by decide +kernel
theorem gk_36_75_20 : getOk 36 75 20 0 4 2 = true := by decide +kernel
theorem gk_36_22_45 : getOk 36 22 45 3 3 0 = true := by decide +kernel
theorem gk_36_66_20 : getOk 36 66 20 0 8 2 = true := by decide +kernel
theorem mk_36_72 : mthR 36 72 = some (0, 34) := by decide +kernel
theorem rv_29 : rty 29 = none := by rfl
theorem gk_29_25_51 : getOk 29 25 51 2 4 2 = true := by decide +kernel
theorem mk_29_57 : mthR 29 57 = some (0, 28) := by decide +kernel
theorem gk_29_28_51 : getOk 29 28 51 2 5 2 = true := by decide +kernel
theorem gk_29_31_51 : getOk 29 31 51 2 6 2 = true := by decide +kernel
theorem mk_167_88 : mthR 167 88 = some (0, 166) := by decide +kernel
theorem rv_167 : rty 167 = none := by rfl
theorem mk_169_36 : mthR 169 36 = some (1, 148) := by decide +kernel
theorem rz_169 : rty 169 = some .boolean := by rfl
theorem mk_174_110 : mthR 174 110 = some (0, 173) := by decide +kernel
theorem np_173 : npr 173 = 0 := by decide +kernel
theorem en_173 (a0 : Nat) : entOk 173 [vR a0] = true := rfl
theorem eq_173 (a0 : Nat) : ent (mxl 173) [vR a0] = [some (vR a0), none, none, none, none] := rfl
theorem on_173 : oNum 173 = 12 := by decide +kernel
theorem gk_174_81_56 : getOk 174 81 56 12 10 3 = true := by decide +kernel
theorem rz_174 : rty 174 = some .boolean := by rfl
theorem mk_174_85 : mthR 174 85 = some (0, 165) := by decide +kernel
theorem gk_174_72_56 : getOk 174 72 56 12 8 0 = true := by decide +kernel
theorem fn_174_12_8 : finOk 174 12 8 = true := by decide +kernel
theorem rt_202_1 : retOk (rty 202) 1 = true := by decide +kernel
theorem mk_202_198 : mthR 202 198 = some (0, 201) := by decide +kernel
theorem np_201 : npr 201 = 3 := by decide +kernel
theorem en_201 (a0 : Nat) (x1 : Int) (x2 : Int) (x3 : Int) : entOk 201 [vR a0, vI x1, vI x2, vI x3] = true := rfl
theorem eq_201 (a0 : Nat) (x1 : Int) (x2 : Int) (x3 : Int) : ent (mxl 201) [vR a0, vI x1, vI x2, vI x3] = [some (vR a0), some (vI x1), some (vI x2), some (vI x3), none] := rfl
theorem on_201 : oNum 201 = 12 := by decide +kernel
theorem rt_202_0 : retOk (rty 202) 0 = true := by decide +kernel
theorem cn_82_72 : cstL.lookup (oNum 82, 72) = none := by decide +kernel
theorem co_82 : oNum 82 = 8 := by decide +kernel
theorem cs_72 : strI.lookup 72 = some 6 := by decide +kernel
theorem ra_82 : isRT (rty 82) = true := by rfl
theorem cn_82_60 : cstL.lookup (oNum 82, 60) = none := by decide +kernel
theorem cs_60 : strI.lookup 60 = some 0 := by decide +kernel
theorem cn_82_62 : cstL.lookup (oNum 82, 62) = none := by decide +kernel
theorem cs_62 : strI.lookup 62 = some 1 := by decide +kernel
theorem cn_82_64 : cstL.lookup (oNum 82, 64) = none := by decide +kernel
theorem cs_64 : strI.lookup 64 = some 2 := by decide +kernel
theorem cn_82_66 : cstL.lookup (oNum 82, 66) = none := by decide +kernel
theorem cs_66 : strI.lookup 66 = some 3 := by decide +kernel
theorem cn_82_68 : cstL.lookup (oNum 82, 68) = none := by decide +kernel
theorem cs_68 : strI.lookup 68 = some 4 := by decide +kernel
theorem cn_82_70 : cstL.lookup (oNum 82, 70) = none := by decide +kernel
theorem cs_70 : strI.lookup 70 = some 5 := by decide +kernel
theorem mk_244_492 : mthR 244 492 = some (0, 246) := by decide +kernel
theorem np_246 : npr 246 = 0 := by decide +kernel
theorem en_246 (a0 : Nat) : entOk 246 [vR a0] = true := rfl
theorem eq_246 (a0 : Nat) : ent (mxl 246) [vR a0] = [some (vR a0)] := rfl
theorem on_246 : oNum 246 = 20 := by decide +kernel
theorem fs_244_9 : fldR 244 9 = some (50, 0) := by decide +kernel
theorem mk_244_495 : mthR 244 495 = some (1, 248) := by decide +kernel
theorem np_248 : npr 248 = 2 := by decide +kernel
theorem en_248 (a0 : Nat) (x1 : Int) : entOk 248 [vR a0, vI x1] = true := rfl
theorem eq_248 (a0 : Nat) (x1 : Int) : ent (mxl 248) [vR a0, vI x1] = [some (vR a0), some (vI x1)] := rfl
theorem rz_244 : rty 244 = some .char := by rfl
theorem fs_243_9 : fldR 243 9 = some (50, 0) := by decide +kernel
theorem mk_243_335 : mthR 243 335 = some (0, 245) := by decide +kernel
theorem np_245 : npr 245 = 0 := by decide +kernel
theorem en_245 (a0 : Nat) : entOk 245 [vR a0] = true := rfl
theorem eq_245 (a0 : Nat) : ent (mxl 245) [vR a0] = [some (vR a0)] := rfl
theorem on_245 : oNum 245 = 20 := by decide +kernel
theorem rt_243 (x : Int) : retOk (rty 243) x = true := rfl
theorem mk_85_80 : mthR 85 80 = some (0, 86) := by decide +kernel
theorem np_86 : npr 86 = 1 := by decide +kernel
theorem en_86 (a0 : Nat) (x1 : Int) : entOk 86 [vR a0, vI x1] = true := rfl
theorem eq_86 (a0 : Nat) (x1 : Int) : ent (mxl 86) [vR a0, vI x1] = [some (vR a0), some (vI x1), none, none] := rfl
theorem on_86 : oNum 86 = 8 := by decide +kernel
theorem gk_85_15_10 : getOk 85 15 10 8 1 0 = true := by decide +kernel
theorem gk_85_9_10 : getOk 85 9 10 8 0 0 = true := by decide +kernel
theorem rv_85 : rty 85 = none := by rfl
theorem gk_85_21_10 : getOk 85 21 10 8 3 3 = true := by decide +kernel
theorem mk_85_39 : mthR 85 39 = some (0, 78) := by decide +kernel
theorem fn_85_8_1 : finOk 85 8 1 = true := by decide +kernel
theorem mk_85_77 : mthR 85 77 = some (0, 80) := by decide +kernel
theorem gk_80_21_10 : getOk 80 21 10 8 3 3 = true := by decide +kernel
theorem rv_80 : rty 80 = none := by rfl
theorem gk_80_18_10 : getOk 80 18 10 8 2 0 = true := by decide +kernel
theorem gk_80_25_10 : getOk 80 25 10 8 4 2 = true := by decide +kernel
theorem fn_80_8_2 : finOk 80 8 2 = true := by decide +kernel
theorem gk_173_81_56 : getOk 173 81 56 12 10 3 = true := by decide +kernel
theorem mk_173_85 : mthR 173 85 = some (0, 165) := by decide +kernel
theorem rt_173_0 : retOk (rty 173) 0 = true := by decide +kernel
theorem mk_173_107 : mthR 173 107 = some (0, 171) := by decide +kernel
theorem np_171 : npr 171 = 0 := by decide +kernel
theorem en_171 (a0 : Nat) : entOk 171 [vR a0] = true := rfl
theorem eq_171 (a0 : Nat) : ent (mxl 171) [vR a0] = [some (vR a0)] := rfl
theorem on_171 : oNum 171 = 12 := by decide +kernel
theorem mk_173_110 : mthR 173 110 = some (0, 173) := by decide +kernel
theorem gk_173_72_56 : getOk 173 72 56 12 8 0 = true := by decide +kernel
theorem fn_173_12_8 : finOk 173 12 8 = true := by decide +kernel
theorem mk_173_114 : mthR 173 114 = some (0, 175) := by decide +kernel
theorem gk_173_98_56 : getOk 173 98 56 12 9 0 = true := by decide +kernel
theorem fn_173_12_9 : finOk 173 12 9 = true := by decide +kernel
theorem mk_173_88 : mthR 173 88 = some (0, 166) := by decide +kernel
theorem rt_173_1 : retOk (rty 173) 1 = true := by decide +kernel
theorem rz_173 : rty 173 = some .boolean := by rfl
theorem mk_173_117 : mthR 173 117 = some (0, 170) := by decide +kernel
theorem fn_173_12_10 : finOk 173 12 10 = true := by decide +kernel
theorem gk_173_101_56 : getOk 173 101 56 12 11 0 = true := by decide +kernel
theorem mk_173_120 : mthR 173 120 = some (0, 172) := by decide +kernel
theorem np_172 : npr 172 = 1 := by decide +kernel
theorem en_172 (a0 : Nat) (x1 : Int) : entOk 172 [vR a0, vI x1] = true := rfl
theorem eq_172 (a0 : Nat) (x1 : Int) : ent (mxl 172) [vR a0, vI x1] = [some (vR a0), some (vI x1)] := rfl
theorem on_172 : oNum 172 = 12 := by decide +kernel
theorem gk_201_13_56 : getOk 201 13 56 12 1 2 = true := by decide +kernel
theorem rt_201_0 : retOk (rty 201) 0 = true := by decide +kernel
theorem rt_201_1 : retOk (rty 201) 1 = true := by decide +kernel
theorem st_246_38 : sttR 246 38 = some (vI 1) := by decide +kernel
theorem fs_246_15 : fldR 246 15 = some (50, 1) := by decide +kernel
theorem rt_246_1 : retOk (rty 246) 1 = true := by decide +kernel
theorem mk_248_9 : mthR 248 9 = some (1, 247) := by decide +kernel
theorem np_247 : npr 247 = 2 := by decide +kernel
theorem en_247 (x0 : Int) (x1 : Int) : entOk 247 [vI x0, vI x1] = true := rfl
theorem eq_247 (x0 : Int) (x1 : Int) : ent (mxl 247) [vI x0, vI x1] = [some (vI x0), some (vI x1)] := rfl
theorem rz_248 : rty 248 = some .char := by rfl
theorem st_245_38 : sttR 245 38 = some (vI 1) := by decide +kernel
theorem fs_245_15 : fldR 245 15 = some (50, 1) := by decide +kernel
theorem rz_245 : rty 245 = some .byte := by rfl
theorem gk_86_21_10 : getOk 86 21 10 8 3 3 = true := by decide +kernel
theorem mk_86_39 : mthR 86 39 = some (0, 78) := by decide +kernel
theorem mk_86_83 : mthR 86 83 = some (1, 87) := by decide +kernel
theorem np_87 : npr 87 = 1 := by decide +kernel
theorem en_87 (x0 : Int) : entOk 87 [vI x0] = true := rfl
theorem eq_87 (x0 : Int) : ent (mxl 87) [vI x0] = [some (vI x0)] := rfl
theorem gk_86_15_10 : getOk 86 15 10 8 1 0 = true := by decide +kernel
theorem fn_86_8_1 : finOk 86 8 1 = true := by decide +kernel
theorem mk_86_80 : mthR 86 80 = some (0, 86) := by decide +kernel
theorem fn_86_8_3 : finOk 86 8 3 = true := by decide +kernel
theorem rv_86 : rty 86 = none := by rfl
theorem mk_86_87 : mthR 86 87 = some (0, 84) := by decide +kernel
theorem mk_86_77 : mthR 86 77 = some (0, 80) := by decide +kernel
theorem mk_86_56 : mthR 86 56 = some (0, 79) := by decide +kernel
theorem mk_86_90 : mthR 86 90 = some (0, 83) := by decide +kernel
theorem gk_171_98_56 : getOk 171 98 56 12 9 0 = true := by decide +kernel
theorem gk_171_81_56 : getOk 171 81 56 12 10 3 = true := by decide +kernel
theorem fn_171_12_10 : finOk 171 12 10 = true := by decide +kernel
theorem rv_171 : rty 171 = none := by rfl
theorem fn_171_12_9 : finOk 171 12 9 = true := by decide +kernel
theorem gk_171_72_56 : getOk 171 72 56 12 8 0 = true := by decide +kernel
theorem fn_171_12_8 : finOk 171 12 8 = true := by decide +kernel
theorem gk_172_101_56 : getOk 172 101 56 12 11 0 = true := by decide +kernel
theorem mk_172_104 : mthR 172 104 = some (0, 154) := by decide +kernel
theorem rt_172 (x : Int) : retOk (rty 172) x = true := rfl
theorem mk_172_51 : mthR 172 51 = some (0, 153) := by decide +kernel
theorem st_247_1053 : sttR 247 1053 = some (vR 1050) := by decide +kernel
theorem mk_247_1059 : mthR 247 1059 = some (1, 249) := by decide +kernel
theorem np_249 : npr 249 = 3 := by decide +kernel
theorem en_249 (x0 : Int) (x1 : Int) (a2 : Nat) : entOk 249 [vI x0, vI x1, vR a2] = true := rfl
theorem eq_249 (x0 : Int) (x1 : Int) (a2 : Nat) : ent (mxl 249) [vI x0, vI x1, vR a2] = [some (vI x0), some (vI x1), some (vR a2)] := rfl
theorem rv_247 : rty 247 = none := by rfl
theorem rt_87 (x : Int) : retOk (rty 87) x = true := rfl
theorem rt_249 (x : Int) : retOk (rty 249) x = true := rfl
