/-! small methods of both classes (written by wip/whole/expand.py out of wip/whole/src) -/
section SM
variable {d : Nat} {b : Bool} {G : aG} {I J : aI} {Q : Option aV → aG → aI → aI → Prop}
theorem sp_within {x lo hi : Int} (hG : GW b G) (k1 : lo ≤ x → x ≤ hi → Q (some (vI 1)) G I J) (k0 : x < lo ∨ hi < x → Q (some (vI 0)) G I J) : At d 144 0 [some (vI x), some (vI lo), some (vI hi)] [] G I J Q := by
  repeat' first
    | intro _
    | refine b_X11_within_0 hG ?_ ?_
    | refine b_X11_within_14 hG ?_
    | refine b_X11_within_5 hG ?_ ?_
    | refine b_X11_within_10 hG ?_
  · exact k0 (by omega)
  · exact k0 (by omega)
  · exact k1 (by omega) (by omega)
theorem sp_in {x lo hi : Int} (hG : GW b G) (k1 : lo ≤ x → x ≤ hi → Q (some (vI 1)) G I J) (k0 : x < lo ∨ hi < x → Q (some (vI 0)) G I J) : At d 148 0 [some (vI x), some (vI lo), some (vI hi)] [] G I J Q := by
  repeat' first
    | intro _
    | refine b_X12_in_0 hG ?_ ?_
    | refine b_X12_in_14 hG ?_
    | refine b_X12_in_5 hG ?_ ?_
    | refine b_X12_in_10 hG ?_
  · exact k0 (by omega)
  · exact k0 (by omega)
  · exact k1 (by omega) (by omega)
theorem sp_X4_has {x : Int} (hG : GW b G) (k1 : 0 ≤ x → x < I 2 0 → Q (some (vI 1)) G I J) (k0 : x < 0 ∨ I 2 0 ≤ x → Q (some (vI 0)) G I J) : At d 39 0 [some (vR 2), some (vI x)] [] G I J Q := by
  repeat' first
    | intro _
    | refine b_X4_has_0 hG ?_ ?_
    | refine b_X4_has_16 hG ?_
    | refine b_X4_has_4 hG ?_ ?_
    | refine b_X4_has_12 hG ?_
  · exact k0 (by omega)
  · exact k0 (by omega)
  · exact k1 (by omega) (by omega)
theorem sp_isFarm {x : Int} (hG : GW b G) (hr : 0 ≤ I 57 0 ∧ I 57 0 ≤ 12) (k1 : 0 ≤ x → x < I 57 0 → Q (some (vI 1)) G I J) (k0 : x < 0 ∨ I 57 0 ≤ x → Q (some (vI 0)) G I J) : At (d + 1) 151 0 [some (vR 56), some (vI x)] [] G I J Q := by
  repeat' first
    | intro _
    | refine sp_in hG ?_ ?_
    | refine b_X12_isFarm_0 hG ?_ ?_
    | refine b_X12_isFarm_13 hG ?_ ?_
  · unfold ok32
    omega
  · exact Or.inr rfl
  · exact k1 (by omega) (by omega)
  · exact Or.inl rfl
  · exact k0 (by omega)
end SM
