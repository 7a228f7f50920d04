/-! best codes: the other searches of the model, evaluated -/
theorem gN_01 : gN (codN 1) 0 0 0 0 0 (1024 * 1000 + 1000) = 0 := by decide +kernel
theorem gN_11 : gN (codN 1) 1 0 0 0 0 (1024 * 1000 + 1000) = 1048576 * 16 + 1 := by decide +kernel
theorem gN_21 : gN (codN 1) 2 0 0 0 0 (1024 * 1000 + 1000) = 1048576 * (64 * 16 + 17) + (1024 * 2 + 2) := by decide +kernel
theorem gN_02 : gN (codN 2) 0 0 0 0 0 (1024 * 1000 + 1000) = 0 := by decide +kernel
theorem gN_12 : gN (codN 2) 1 0 0 0 0 (1024 * 1000 + 1000) = 1048576 * 16 + 1 := by decide +kernel
theorem gN_22 : gN (codN 2) 2 0 0 0 0 (1024 * 1000 + 1000) = 1048576 * (64 * 16 + 35) + 3 := by decide +kernel
theorem gN_32 : gN (codN 2) 3 0 0 0 0 (1024 * 1000 + 1000) = 1048576 * (64 * (64 * 16 + 32) + 35) + (1024 * 3 + 5) := by decide +kernel
theorem gN_42 : gN (codN 2) 4 0 0 0 0 (1024 * 1000 + 1000) = 1048576 * (64 * (64 * (64 * 16 + 17) + 32) + 35) + (1024 * 7 + 6) := by decide +kernel
theorem gN_52 : gN (codN 2) 5 0 0 0 0 (1024 * 1000 + 1000) = 1048576 * (64 * (64 * (64 * (64 * 16 + 17) + 32) + 33) + 35) + (1024 * 15 + 8) := by decide +kernel
theorem gN_03 : gN (codN 3) 0 0 0 0 0 (1024 * 1000 + 1000) = 0 := by decide +kernel
theorem gN_13 : gN (codN 3) 1 0 0 0 0 (1024 * 1000 + 1000) = 1048576 * 16 + 1 := by decide +kernel
theorem gN_23 : gN (codN 3) 2 0 0 0 0 (1024 * 1000 + 1000) = 1048576 * (64 * 16 + 35) + 3 := by decide +kernel
