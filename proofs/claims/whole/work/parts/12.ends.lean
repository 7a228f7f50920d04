/-! ends and calls -/
def retD (m pc : Nat) (v : Option aV) : Prop := match v with
  | none => decode (cod m) pc = .ok (.return_, 1) ∧ rty m = none
  | some (.inl x) => decode (cod m) pc = .ok (.ireturn, 1) ∧ retOk (rty m) x = true
  | some (.inr (.inl _)) => decode (cod m) pc = .ok (.lreturn, 1) ∧ rty m = some .long
  | some (.inr (.inr r)) => decode (cod m) pc = .ok (.areturn, 1) ∧ isRT (rty m) = true ∧ r ≠ some 1050
def calD (m pc kd y : Nat) : Prop := ∃ i, mthR m i = some (kd, y) ∧ ((decode (cod m) pc = .ok (.invokevirtual i, 3) ∧ (kd = 0 ∨ kd = 4)) ∨ (decode (cod m) pc = .ok (.invokestatic i, 3) ∧ kd = 1) ∨ (decode (cod m) pc = .ok (.invokespecial i, 3) ∧ (kd = 2 ∨ kd = 3)))
section OK
variable {m pc : Nat} {L : List (Option aV)} {st : List aV} {G : aG} {I J : aI}
theorem nx_end {pc : Nat} {L : List (Option aV)} {st : List aV} {G : aG} {I J : aI} {q : Option aV ⊕ (Nat × List aV × List aV)} : ¬ nx pc L st G I J = some (.inr q) := by
  intro h
  unfold nx at h
  cases h
set_option maxHeartbeats 4000000 in
theorem r_ex {i : Instr} {n : Nat} {v : Option aV} (hd : decode (cod m) pc = .ok (i, n)) (h : exI m i n pc L st G I J = some (.inr (.inl v))) : retD m pc v ∧ st = v.toList := by
  unfold exI at h
  split at h
  · try unfold psI at h
    repeat' split at h
    all_goals first | exact absurd h nx_end | (simp only [psI] at h; repeat' split at h; all_goals first | exact absurd h nx_end | cases h) | cases h
  · try unfold psI at h
    repeat' split at h
    all_goals first | exact absurd h nx_end | (simp only [psI] at h; repeat' split at h; all_goals first | exact absurd h nx_end | cases h) | cases h
  · try unfold psI at h
    repeat' split at h
    all_goals first | exact absurd h nx_end | (simp only [psI] at h; repeat' split at h; all_goals first | exact absurd h nx_end | cases h) | cases h
  · try unfold psI at h
    repeat' split at h
    all_goals first | exact absurd h nx_end | (simp only [psI] at h; repeat' split at h; all_goals first | exact absurd h nx_end | cases h) | cases h
  · try unfold psI at h
    repeat' split at h
    all_goals first | exact absurd h nx_end | (simp only [psI] at h; repeat' split at h; all_goals first | exact absurd h nx_end | cases h) | cases h
  · try unfold nx at h
    repeat' split at h
    all_goals first | exact absurd h nx_end | cases h
  · try unfold nx at h
    repeat' split at h
    all_goals first | exact absurd h nx_end | cases h
  · try unfold nx at h
    repeat' split at h
    all_goals first | exact absurd h nx_end | cases h
  · try unfold ldI at h
    repeat' split at h
    all_goals first | exact absurd h nx_end | (simp only [ldI] at h; repeat' split at h; all_goals first | exact absurd h nx_end | cases h) | cases h
  · try unfold ldI at h
    repeat' split at h
    all_goals first | exact absurd h nx_end | (simp only [ldI] at h; repeat' split at h; all_goals first | exact absurd h nx_end | cases h) | cases h
  · try unfold ldL at h
    repeat' split at h
    all_goals first | exact absurd h nx_end | (simp only [ldL] at h; repeat' split at h; all_goals first | exact absurd h nx_end | cases h) | cases h
  · try unfold ldA at h
    repeat' split at h
    all_goals first | exact absurd h nx_end | (simp only [ldA] at h; repeat' split at h; all_goals first | exact absurd h nx_end | cases h) | cases h
  · try unfold ldA at h
    repeat' split at h
    all_goals first | exact absurd h nx_end | (simp only [ldA] at h; repeat' split at h; all_goals first | exact absurd h nx_end | cases h) | cases h
  · try unfold stI at h
    repeat' split at h
    all_goals first | exact absurd h nx_end | (simp only [stI] at h; repeat' split at h; all_goals first | exact absurd h nx_end | cases h) | cases h
  · try unfold stI at h
    repeat' split at h
    all_goals first | exact absurd h nx_end | (simp only [stI] at h; repeat' split at h; all_goals first | exact absurd h nx_end | cases h) | cases h
  · try unfold stA at h
    repeat' split at h
    all_goals first | exact absurd h nx_end | (simp only [stA] at h; repeat' split at h; all_goals first | exact absurd h nx_end | cases h) | cases h
  · try unfold stA at h
    repeat' split at h
    all_goals first | exact absurd h nx_end | (simp only [stA] at h; repeat' split at h; all_goals first | exact absurd h nx_end | cases h) | cases h
  · try unfold stL at h
    repeat' split at h
    all_goals first | exact absurd h nx_end | (simp only [stL] at h; repeat' split at h; all_goals first | exact absurd h nx_end | cases h) | cases h
  · try unfold nx at h
    repeat' split at h
    all_goals first | exact absurd h nx_end | cases h
  · try unfold exB at h
    repeat' split at h
    all_goals first | exact absurd h nx_end | (simp only [exB] at h; repeat' split at h; all_goals first | exact absurd h nx_end | cases h) | cases h
  · try unfold exB at h
    repeat' split at h
    all_goals first | exact absurd h nx_end | (simp only [exB] at h; repeat' split at h; all_goals first | exact absurd h nx_end | cases h) | cases h
  · try unfold exB at h
    repeat' split at h
    all_goals first | exact absurd h nx_end | (simp only [exB] at h; repeat' split at h; all_goals first | exact absurd h nx_end | cases h) | cases h
  · try unfold exD at h
    repeat' split at h
    all_goals first | exact absurd h nx_end | (simp only [exD] at h; repeat' split at h; all_goals first | exact absurd h nx_end | cases h) | cases h
  · try unfold exD at h
    repeat' split at h
    all_goals first | exact absurd h nx_end | (simp only [exD] at h; repeat' split at h; all_goals first | exact absurd h nx_end | cases h) | cases h
  · try unfold exBu at h
    repeat' split at h
    all_goals first | exact absurd h nx_end | (simp only [exBu] at h; repeat' split at h; all_goals first | exact absurd h nx_end | cases h) | cases h
  · try unfold exBu at h
    repeat' split at h
    all_goals first | exact absurd h nx_end | (simp only [exBu] at h; repeat' split at h; all_goals first | exact absurd h nx_end | cases h) | cases h
  · try unfold exBu at h
    repeat' split at h
    all_goals first | exact absurd h nx_end | (simp only [exBu] at h; repeat' split at h; all_goals first | exact absurd h nx_end | cases h) | cases h
  · try unfold exBu at h
    repeat' split at h
    all_goals first | exact absurd h nx_end | (simp only [exBu] at h; repeat' split at h; all_goals first | exact absurd h nx_end | cases h) | cases h
  · try unfold exBu at h
    repeat' split at h
    all_goals first | exact absurd h nx_end | (simp only [exBu] at h; repeat' split at h; all_goals first | exact absurd h nx_end | cases h) | cases h
  · try unfold exBu at h
    repeat' split at h
    all_goals first | exact absurd h nx_end | (simp only [exBu] at h; repeat' split at h; all_goals first | exact absurd h nx_end | cases h) | cases h
  · try unfold exL at h
    repeat' split at h
    all_goals first | exact absurd h nx_end | (simp only [exL] at h; repeat' split at h; all_goals first | exact absurd h nx_end | cases h) | cases h
  · try unfold exL at h
    repeat' split at h
    all_goals first | exact absurd h nx_end | (simp only [exL] at h; repeat' split at h; all_goals first | exact absurd h nx_end | cases h) | cases h
  · try unfold exLu at h
    repeat' split at h
    all_goals first | exact absurd h nx_end | (simp only [exLu] at h; repeat' split at h; all_goals first | exact absurd h nx_end | cases h) | cases h
  · try unfold exLu at h
    repeat' split at h
    all_goals first | exact absurd h nx_end | (simp only [exLu] at h; repeat' split at h; all_goals first | exact absurd h nx_end | cases h) | cases h
  · try unfold exLu at h
    repeat' split at h
    all_goals first | exact absurd h nx_end | (simp only [exLu] at h; repeat' split at h; all_goals first | exact absurd h nx_end | cases h) | cases h
  · try unfold exLs at h
    repeat' split at h
    all_goals first | exact absurd h nx_end | (simp only [exLs] at h; repeat' split at h; all_goals first | exact absurd h nx_end | cases h) | cases h
  · try unfold exLs at h
    repeat' split at h
    all_goals first | exact absurd h nx_end | (simp only [exLs] at h; repeat' split at h; all_goals first | exact absurd h nx_end | cases h) | cases h
  · try unfold exLs at h
    repeat' split at h
    all_goals first | exact absurd h nx_end | (simp only [exLs] at h; repeat' split at h; all_goals first | exact absurd h nx_end | cases h) | cases h
  · try unfold nx at h
    repeat' split at h
    all_goals first | exact absurd h nx_end | cases h
  · try unfold nx at h
    repeat' split at h
    all_goals first | exact absurd h nx_end | cases h
  · try unfold nx at h
    repeat' split at h
    all_goals first | exact absurd h nx_end | cases h
  · try unfold exI1 at h
    repeat' split at h
    all_goals first | exact absurd h nx_end | (simp only [exI1] at h; repeat' split at h; all_goals first | exact absurd h nx_end | cases h) | cases h
  · try unfold exI1 at h
    repeat' split at h
    all_goals first | exact absurd h nx_end | (simp only [exI1] at h; repeat' split at h; all_goals first | exact absurd h nx_end | cases h) | cases h
  · try unfold nx at h
    repeat' split at h
    all_goals first | exact absurd h nx_end | cases h
  · try unfold nx at h
    repeat' split at h
    all_goals first | exact absurd h nx_end | cases h
  · try unfold nx at h
    repeat' split at h
    all_goals first | exact absurd h nx_end | cases h
  · try unfold nx at h
    repeat' split at h
    all_goals first | exact absurd h nx_end | cases h
  · try unfold nx at h
    repeat' split at h
    all_goals first | exact absurd h nx_end | cases h
  · try unfold brn at h
    repeat' split at h
    all_goals first | exact absurd h nx_end | (simp only [brn] at h; repeat' split at h; all_goals first | exact absurd h nx_end | cases h) | cases h
  · try unfold brn at h
    repeat' split at h
    all_goals first | exact absurd h nx_end | (simp only [brn] at h; repeat' split at h; all_goals first | exact absurd h nx_end | cases h) | cases h
  · try unfold brn at h
    repeat' split at h
    all_goals first | exact absurd h nx_end | (simp only [brn] at h; repeat' split at h; all_goals first | exact absurd h nx_end | cases h) | cases h
  · try unfold nx at h
    repeat' split at h
    all_goals first | exact absurd h nx_end | cases h
  · try unfold nx at h
    repeat' split at h
    all_goals first | exact absurd h nx_end | cases h
  · try unfold exGet at h
    repeat' split at h
    all_goals first | exact absurd h nx_end | (simp only [exGet] at h; repeat' split at h; all_goals first | exact absurd h nx_end | cases h) | cases h
  · try unfold exPut at h
    repeat' split at h
    all_goals first | exact absurd h nx_end | (simp only [exPut] at h; repeat' split at h; all_goals first | exact absurd h nx_end | cases h) | cases h
  · try unfold nx at h
    repeat' split at h
    all_goals first | exact absurd h nx_end | cases h
  · try unfold exALoad at h
    repeat' split at h
    all_goals first | exact absurd h nx_end | (simp only [exALoad] at h; repeat' split at h; all_goals first | exact absurd h nx_end | cases h) | cases h
  · try unfold exALoad at h
    repeat' split at h
    all_goals first | exact absurd h nx_end | (simp only [exALoad] at h; repeat' split at h; all_goals first | exact absurd h nx_end | cases h) | cases h
  · try unfold exLLoad at h
    repeat' split at h
    all_goals first | exact absurd h nx_end | (simp only [exLLoad] at h; repeat' split at h; all_goals first | exact absurd h nx_end | cases h) | cases h
  · try unfold exIStore at h
    repeat' split at h
    all_goals first | exact absurd h nx_end | (simp only [exIStore] at h; repeat' split at h; all_goals first | exact absurd h nx_end | cases h) | cases h
  · try unfold exBStore at h
    repeat' split at h
    all_goals first | exact absurd h nx_end | (simp only [exBStore] at h; repeat' split at h; all_goals first | exact absurd h nx_end | cases h) | cases h
  · try unfold exLStore at h
    repeat' split at h
    all_goals first | exact absurd h nx_end | (simp only [exLStore] at h; repeat' split at h; all_goals first | exact absurd h nx_end | cases h) | cases h
  · try unfold exLen at h
    repeat' split at h
    all_goals first | exact absurd h nx_end | (simp only [exLen] at h; repeat' split at h; all_goals first | exact absurd h nx_end | cases h) | cases h
  · try unfold exNew at h
    repeat' split at h
    all_goals first | exact absurd h nx_end | (simp only [exNew] at h; repeat' split at h; all_goals first | exact absurd h nx_end | cases h) | cases h
  · try unfold exNewA at h
    repeat' split at h
    all_goals first | exact absurd h nx_end | (simp only [exNewA] at h; repeat' split at h; all_goals first | exact absurd h nx_end | cases h) | cases h
  · try unfold exCall at h
    repeat' split at h
    all_goals first | exact absurd h nx_end | cases h
  · try unfold exCall at h
    try unfold exCopy at h
    try unfold exMx at h
    repeat' split at h
    all_goals first | exact absurd h nx_end | (simp only [exCall, exCopy, exMx] at h; repeat' split at h; all_goals first | exact absurd h nx_end | cases h) | cases h
  · try unfold exCall at h
    repeat' split at h
    all_goals first | exact absurd h nx_end | (simp only [exCall] at h; repeat' split at h; all_goals first | exact absurd h nx_end | cases h) | cases h
  · split at h
    · split at h
      · rename_i hh
        cases h
        exact ⟨⟨hd, hh⟩, rfl⟩
      · cases h
    · cases h
  · split at h
    · split at h
      · rename_i hh
        cases h
        exact ⟨⟨hd, hh⟩, rfl⟩
      · cases h
    · cases h
  · split at h
    · split at h
      · rename_i hh
        cases h
        exact ⟨⟨hd, hh.1, hh.2⟩, rfl⟩
      · cases h
    · cases h
  · split at h
    · split at h
      · rename_i hh
        cases h
        exact ⟨⟨hd, hh⟩, rfl⟩
      · cases h
    · cases h
  · cases h
set_option maxHeartbeats 4000000 in
theorem c_ex {i : Instr} {n y : Nat} {as rest : List aV} (hd : decode (cod m) pc = .ok (i, n)) (h : exI m i n pc L st G I J = some (.inr (.inr (y, as, rest)))) : ∃ kd y0, calD m pc kd y0 ∧ exCall kd y0 pc L st G I J = some (.inr (.inr (y, as, rest))) := by
  unfold exI at h
  split at h
  · try unfold psI at h
    repeat' split at h
    all_goals first | exact absurd h nx_end | (simp only [psI] at h; repeat' split at h; all_goals first | exact absurd h nx_end | cases h) | cases h
  · try unfold psI at h
    repeat' split at h
    all_goals first | exact absurd h nx_end | (simp only [psI] at h; repeat' split at h; all_goals first | exact absurd h nx_end | cases h) | cases h
  · try unfold psI at h
    repeat' split at h
    all_goals first | exact absurd h nx_end | (simp only [psI] at h; repeat' split at h; all_goals first | exact absurd h nx_end | cases h) | cases h
  · try unfold psI at h
    repeat' split at h
    all_goals first | exact absurd h nx_end | (simp only [psI] at h; repeat' split at h; all_goals first | exact absurd h nx_end | cases h) | cases h
  · try unfold psI at h
    repeat' split at h
    all_goals first | exact absurd h nx_end | (simp only [psI] at h; repeat' split at h; all_goals first | exact absurd h nx_end | cases h) | cases h
  · repeat' split at h
    all_goals first | exact absurd h nx_end | (cases h) | cases h
  · repeat' split at h
    all_goals first | exact absurd h nx_end | (cases h) | cases h
  · repeat' split at h
    all_goals first | exact absurd h nx_end | (cases h) | cases h
  · try unfold ldI at h
    repeat' split at h
    all_goals first | exact absurd h nx_end | (simp only [ldI] at h; repeat' split at h; all_goals first | exact absurd h nx_end | cases h) | cases h
  · try unfold ldI at h
    repeat' split at h
    all_goals first | exact absurd h nx_end | (simp only [ldI] at h; repeat' split at h; all_goals first | exact absurd h nx_end | cases h) | cases h
  · try unfold ldL at h
    repeat' split at h
    all_goals first | exact absurd h nx_end | (simp only [ldL] at h; repeat' split at h; all_goals first | exact absurd h nx_end | cases h) | cases h
  · try unfold ldA at h
    repeat' split at h
    all_goals first | exact absurd h nx_end | (simp only [ldA] at h; repeat' split at h; all_goals first | exact absurd h nx_end | cases h) | cases h
  · try unfold ldA at h
    repeat' split at h
    all_goals first | exact absurd h nx_end | (simp only [ldA] at h; repeat' split at h; all_goals first | exact absurd h nx_end | cases h) | cases h
  · try unfold stI at h
    repeat' split at h
    all_goals first | exact absurd h nx_end | (simp only [stI] at h; repeat' split at h; all_goals first | exact absurd h nx_end | cases h) | cases h
  · try unfold stI at h
    repeat' split at h
    all_goals first | exact absurd h nx_end | (simp only [stI] at h; repeat' split at h; all_goals first | exact absurd h nx_end | cases h) | cases h
  · try unfold stA at h
    repeat' split at h
    all_goals first | exact absurd h nx_end | (simp only [stA] at h; repeat' split at h; all_goals first | exact absurd h nx_end | cases h) | cases h
  · try unfold stA at h
    repeat' split at h
    all_goals first | exact absurd h nx_end | (simp only [stA] at h; repeat' split at h; all_goals first | exact absurd h nx_end | cases h) | cases h
  · try unfold stL at h
    repeat' split at h
    all_goals first | exact absurd h nx_end | (simp only [stL] at h; repeat' split at h; all_goals first | exact absurd h nx_end | cases h) | cases h
  · repeat' split at h
    all_goals first | exact absurd h nx_end | (cases h) | cases h
  · try unfold exB at h
    repeat' split at h
    all_goals first | exact absurd h nx_end | (simp only [exB] at h; repeat' split at h; all_goals first | exact absurd h nx_end | cases h) | cases h
  · try unfold exB at h
    repeat' split at h
    all_goals first | exact absurd h nx_end | (simp only [exB] at h; repeat' split at h; all_goals first | exact absurd h nx_end | cases h) | cases h
  · try unfold exB at h
    repeat' split at h
    all_goals first | exact absurd h nx_end | (simp only [exB] at h; repeat' split at h; all_goals first | exact absurd h nx_end | cases h) | cases h
  · try unfold exD at h
    repeat' split at h
    all_goals first | exact absurd h nx_end | (simp only [exD] at h; repeat' split at h; all_goals first | exact absurd h nx_end | cases h) | cases h
  · try unfold exD at h
    repeat' split at h
    all_goals first | exact absurd h nx_end | (simp only [exD] at h; repeat' split at h; all_goals first | exact absurd h nx_end | cases h) | cases h
  · try unfold exBu at h
    repeat' split at h
    all_goals first | exact absurd h nx_end | (simp only [exBu] at h; repeat' split at h; all_goals first | exact absurd h nx_end | cases h) | cases h
  · try unfold exBu at h
    repeat' split at h
    all_goals first | exact absurd h nx_end | (simp only [exBu] at h; repeat' split at h; all_goals first | exact absurd h nx_end | cases h) | cases h
  · try unfold exBu at h
    repeat' split at h
    all_goals first | exact absurd h nx_end | (simp only [exBu] at h; repeat' split at h; all_goals first | exact absurd h nx_end | cases h) | cases h
  · try unfold exBu at h
    repeat' split at h
    all_goals first | exact absurd h nx_end | (simp only [exBu] at h; repeat' split at h; all_goals first | exact absurd h nx_end | cases h) | cases h
  · try unfold exBu at h
    repeat' split at h
    all_goals first | exact absurd h nx_end | (simp only [exBu] at h; repeat' split at h; all_goals first | exact absurd h nx_end | cases h) | cases h
  · try unfold exBu at h
    repeat' split at h
    all_goals first | exact absurd h nx_end | (simp only [exBu] at h; repeat' split at h; all_goals first | exact absurd h nx_end | cases h) | cases h
  · try unfold exL at h
    repeat' split at h
    all_goals first | exact absurd h nx_end | (simp only [exL] at h; repeat' split at h; all_goals first | exact absurd h nx_end | cases h) | cases h
  · try unfold exL at h
    repeat' split at h
    all_goals first | exact absurd h nx_end | (simp only [exL] at h; repeat' split at h; all_goals first | exact absurd h nx_end | cases h) | cases h
  · try unfold exLu at h
    repeat' split at h
    all_goals first | exact absurd h nx_end | (simp only [exLu] at h; repeat' split at h; all_goals first | exact absurd h nx_end | cases h) | cases h
  · try unfold exLu at h
    repeat' split at h
    all_goals first | exact absurd h nx_end | (simp only [exLu] at h; repeat' split at h; all_goals first | exact absurd h nx_end | cases h) | cases h
  · try unfold exLu at h
    repeat' split at h
    all_goals first | exact absurd h nx_end | (simp only [exLu] at h; repeat' split at h; all_goals first | exact absurd h nx_end | cases h) | cases h
  · try unfold exLs at h
    repeat' split at h
    all_goals first | exact absurd h nx_end | (simp only [exLs] at h; repeat' split at h; all_goals first | exact absurd h nx_end | cases h) | cases h
  · try unfold exLs at h
    repeat' split at h
    all_goals first | exact absurd h nx_end | (simp only [exLs] at h; repeat' split at h; all_goals first | exact absurd h nx_end | cases h) | cases h
  · try unfold exLs at h
    repeat' split at h
    all_goals first | exact absurd h nx_end | (simp only [exLs] at h; repeat' split at h; all_goals first | exact absurd h nx_end | cases h) | cases h
  · repeat' split at h
    all_goals first | exact absurd h nx_end | (cases h) | cases h
  · repeat' split at h
    all_goals first | exact absurd h nx_end | (cases h) | cases h
  · repeat' split at h
    all_goals first | exact absurd h nx_end | (cases h) | cases h
  · try unfold exI1 at h
    repeat' split at h
    all_goals first | exact absurd h nx_end | (simp only [exI1] at h; repeat' split at h; all_goals first | exact absurd h nx_end | cases h) | cases h
  · try unfold exI1 at h
    repeat' split at h
    all_goals first | exact absurd h nx_end | (simp only [exI1] at h; repeat' split at h; all_goals first | exact absurd h nx_end | cases h) | cases h
  · repeat' split at h
    all_goals first | exact absurd h nx_end | (cases h) | cases h
  · repeat' split at h
    all_goals first | exact absurd h nx_end | (cases h) | cases h
  · repeat' split at h
    all_goals first | exact absurd h nx_end | (cases h) | cases h
  · repeat' split at h
    all_goals first | exact absurd h nx_end | (cases h) | cases h
  · repeat' split at h
    all_goals first | exact absurd h nx_end | (cases h) | cases h
  · try unfold brn at h
    repeat' split at h
    all_goals first | exact absurd h nx_end | (simp only [brn] at h; repeat' split at h; all_goals first | exact absurd h nx_end | cases h) | cases h
  · try unfold brn at h
    repeat' split at h
    all_goals first | exact absurd h nx_end | (simp only [brn] at h; repeat' split at h; all_goals first | exact absurd h nx_end | cases h) | cases h
  · try unfold brn at h
    repeat' split at h
    all_goals first | exact absurd h nx_end | (simp only [brn] at h; repeat' split at h; all_goals first | exact absurd h nx_end | cases h) | cases h
  · repeat' split at h
    all_goals first | exact absurd h nx_end | (cases h) | cases h
  · repeat' split at h
    all_goals first | exact absurd h nx_end | (cases h) | cases h
  · try unfold exGet at h
    repeat' split at h
    all_goals first | exact absurd h nx_end | (simp only [exGet] at h; repeat' split at h; all_goals first | exact absurd h nx_end | cases h) | cases h
  · try unfold exPut at h
    repeat' split at h
    all_goals first | exact absurd h nx_end | (simp only [exPut] at h; repeat' split at h; all_goals first | exact absurd h nx_end | cases h) | cases h
  · repeat' split at h
    all_goals first | exact absurd h nx_end | (cases h) | cases h
  · try unfold exALoad at h
    repeat' split at h
    all_goals first | exact absurd h nx_end | (simp only [exALoad] at h; repeat' split at h; all_goals first | exact absurd h nx_end | cases h) | cases h
  · try unfold exALoad at h
    repeat' split at h
    all_goals first | exact absurd h nx_end | (simp only [exALoad] at h; repeat' split at h; all_goals first | exact absurd h nx_end | cases h) | cases h
  · try unfold exLLoad at h
    repeat' split at h
    all_goals first | exact absurd h nx_end | (simp only [exLLoad] at h; repeat' split at h; all_goals first | exact absurd h nx_end | cases h) | cases h
  · try unfold exIStore at h
    repeat' split at h
    all_goals first | exact absurd h nx_end | (simp only [exIStore] at h; repeat' split at h; all_goals first | exact absurd h nx_end | cases h) | cases h
  · try unfold exBStore at h
    repeat' split at h
    all_goals first | exact absurd h nx_end | (simp only [exBStore] at h; repeat' split at h; all_goals first | exact absurd h nx_end | cases h) | cases h
  · try unfold exLStore at h
    repeat' split at h
    all_goals first | exact absurd h nx_end | (simp only [exLStore] at h; repeat' split at h; all_goals first | exact absurd h nx_end | cases h) | cases h
  · try unfold exLen at h
    repeat' split at h
    all_goals first | exact absurd h nx_end | (simp only [exLen] at h; repeat' split at h; all_goals first | exact absurd h nx_end | cases h) | cases h
  · try unfold exNew at h
    repeat' split at h
    all_goals first | exact absurd h nx_end | (simp only [exNew] at h; repeat' split at h; all_goals first | exact absurd h nx_end | cases h) | cases h
  · try unfold exNewA at h
    repeat' split at h
    all_goals first | exact absurd h nx_end | (simp only [exNewA] at h; repeat' split at h; all_goals first | exact absurd h nx_end | cases h) | cases h
  · split at h
    · rename_i kd y0 hm
      split at h
      · rename_i hk
        exact ⟨kd, y0, ⟨_, hm, Or.inl ⟨hd, hk⟩⟩, h⟩
      · cases h
    · cases h
  · split at h
    · rename_i kd y0 hm
      split at h
      · rename_i hk
        subst hk
        exact ⟨1, y0, ⟨_, hm, Or.inr (Or.inl ⟨hd, rfl⟩)⟩, h⟩
      · split at h
        · unfold exCopy at h
          repeat' split at h
          all_goals first | exact absurd h nx_end | cases h
        · split at h
          · unfold exMx at h
            repeat' split at h
            all_goals first | exact absurd h nx_end | cases h
          · split at h
            · unfold exMx at h
              repeat' split at h
              all_goals first | exact absurd h nx_end | cases h
            · cases h
    · cases h
  · split at h
    · rename_i kd y0 hm
      split at h
      · rename_i hk
        exact ⟨kd, y0, ⟨_, hm, Or.inr (Or.inr ⟨hd, hk⟩)⟩, h⟩
      · split at h
        · repeat' split at h
          all_goals first | exact absurd h nx_end | cases h
        · cases h
    · cases h
  · repeat' split at h
    all_goals cases h
  · repeat' split at h
    all_goals cases h
  · repeat' split at h
    all_goals cases h
  · repeat' split at h
    all_goals cases h
  · cases h
end OK
