/-! best codes: the class's search (only rows that rise) as arithmetic -/
def itS (g : Nat → List Nat → Nat → Nat) : List Nat → Nat → Nat
  | [], s => s
  | c :: cs, s => forc (g c cs s) (itS g cs)
def hN : Nat → List Nat → Nat → Nat → Nat → Nat → Nat → Nat
  | 0, _, _, r, w, q, s => bif Nat.ble (s % 1048576) (1024 * w + q) then s else 1048576 * r + (1024 * w + q)
  | f + 1, cs, k, r, w, q, s => bif Nat.ble (s % 1048576) (1024 * w + q) then s else itS (fun c rest s => forc (64 * r + c) (fun r' => forc (w + sumA c k r) (fun w' => forc (q + c / 16) (fun q' => hN f rest (k + 1) r' w' q' s)))) cs s
theorem hN_01 : hN 0 (codN 1) 0 0 0 0 (1024 * 1000 + 1000) = 1048576 * 0 + (1024 * 0 + 0) := by decide +kernel
theorem hN_11 : hN 1 (codN 1) 0 0 0 0 (1024 * 1000 + 1000) = 1048576 * 16 + (1024 * 0 + 1) := by decide +kernel
theorem hN_21 : hN 2 (codN 1) 0 0 0 0 (1024 * 1000 + 1000) = 1048576 * 1041 + (1024 * 2 + 2) := by decide +kernel
theorem hN_02 : hN 0 (codN 2) 0 0 0 0 (1024 * 1000 + 1000) = 1048576 * 0 + (1024 * 0 + 0) := by decide +kernel
theorem hN_12 : hN 1 (codN 2) 0 0 0 0 (1024 * 1000 + 1000) = 1048576 * 16 + (1024 * 0 + 1) := by decide +kernel
theorem hN_22 : hN 2 (codN 2) 0 0 0 0 (1024 * 1000 + 1000) = 1048576 * 1059 + (1024 * 0 + 3) := by decide +kernel
theorem hN_32 : hN 3 (codN 2) 0 0 0 0 (1024 * 1000 + 1000) = 1048576 * 67619 + (1024 * 3 + 5) := by decide +kernel
theorem hN_42 : hN 4 (codN 2) 0 0 0 0 (1024 * 1000 + 1000) = 1048576 * 4266019 + (1024 * 7 + 6) := by decide +kernel
theorem hN_52 : hN 5 (codN 2) 0 0 0 0 (1024 * 1000 + 1000) = 1048576 * 273025123 + (1024 * 15 + 8) := by decide +kernel
theorem hN_03 : hN 0 (codN 3) 0 0 0 0 (1024 * 1000 + 1000) = 1048576 * 0 + (1024 * 0 + 0) := by decide +kernel
theorem hN_13 : hN 1 (codN 3) 0 0 0 0 (1024 * 1000 + 1000) = 1048576 * 16 + (1024 * 0 + 1) := by decide +kernel
theorem hN_23 : hN 2 (codN 3) 0 0 0 0 (1024 * 1000 + 1000) = 1048576 * 1059 + (1024 * 0 + 3) := by decide +kernel
theorem hN_33 : hN 3 (codN 3) 0 0 0 0 (1024 * 1000 + 1000) = 1048576 * 67824 + (1024 * 0 + 6) := by decide +kernel
theorem hN_43 : hN 4 (codN 3) 0 0 0 0 (1024 * 1000 + 1000) = 1048576 * 4340850 + (1024 * 1 + 9) := by decide +kernel
theorem hN_53 : hN 5 (codN 3) 0 0 0 0 (1024 * 1000 + 1000) = 1048576 * 277814452 + (1024 * 3 + 12) := by decide +kernel
