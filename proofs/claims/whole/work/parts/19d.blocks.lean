/-! the blocks of the methods (by wip/whole/genblocks.py) -/
section BL
variable {d : Nat} {b : Bool} {G : aG} {I J : aI} {Q : Option aV → aG → aI → aI → Prop}
theorem b_J0_checkIndex_0 {x0 x1 : Int} (hG : GW b G) (k : At d 249 0 [some (vI x0), some (vI x1), some (vR 1050)] [] G I J (fun v G' I' J' => At (d + 1) 247 8 [some (vI x0), some (vI x1)] (v.toList ++ []) G' I' J' Q)) : At (d + 1) 247 0 [some (vI x0), some (vI x1)] [] G I J Q := a_iload_n (by rfl) d247_0 (a_iload_n (by rfl) d247_1 (a_gets st_247_1053 d247_2 (a_calS (n := 3) (E := [some (vI x0), some (vI x1), some (vR 1050)]) mk_247_1059 np_249 (Nat.le_of_ble_eq_true rfl) (Nat.le_of_ble_eq_true rfl) (en_249 _ _ _) (eq_249 _ _ _) d247_5 k)))
theorem b_J0_checkIndex_8 {x0 x1 s0 : Int} (hG : GW b G) (k : Q none G I J) : At d 247 8 [some (vI x0), some (vI x1)] [vI s0] G I J Q := a_pop (by rfl) d247_8 (a_vret rv_247 d247_9 k)
theorem b_X8_letter_0 {x0 : Int} (hG : GW b G) (kd : x0 < 102 ∨ 108 < x0 → At d 87 54 [some (vI x0)] [] G I J Q) (k0 : x0 = 102 → At d 87 48 [some (vI x0)] [] G I J Q) (k1 : x0 = 103 → At d 87 50 [some (vI x0)] [] G I J Q) (k2 : x0 = 104 → At d 87 52 [some (vI x0)] [] G I J Q) (k3 : x0 = 105 → At d 87 54 [some (vI x0)] [] G I J Q) (k4 : x0 = 106 → At d 87 54 [some (vI x0)] [] G I J Q) (k5 : x0 = 107 → At d 87 44 [some (vI x0)] [] G I J Q) (k6 : x0 = 108 → At d 87 46 [some (vI x0)] [] G I J Q) : At d 87 0 [some (vI x0)] [] G I J Q := a_iload_n (by rfl) d87_0 ((by
    by_cases hsw : x0 < 102 ∨ 108 < x0
    · exact a_tabO (t := 54) hsw (by decide) d87_1 (kd hsw)
    · by_cases hx : x0 = 102
      · exact a_tabI (t := 48) hsw (show _ = some 47 by rw [hx]; rfl) (by decide) d87_1 (k0 hx)
      by_cases hx : x0 = 103
      · exact a_tabI (t := 50) hsw (show _ = some 49 by rw [hx]; rfl) (by decide) d87_1 (k1 hx)
      by_cases hx : x0 = 104
      · exact a_tabI (t := 52) hsw (show _ = some 51 by rw [hx]; rfl) (by decide) d87_1 (k2 hx)
      by_cases hx : x0 = 105
      · exact a_tabI (t := 54) hsw (show _ = some 53 by rw [hx]; rfl) (by decide) d87_1 (k3 hx)
      by_cases hx : x0 = 106
      · exact a_tabI (t := 54) hsw (show _ = some 53 by rw [hx]; rfl) (by decide) d87_1 (k4 hx)
      by_cases hx : x0 = 107
      · exact a_tabI (t := 44) hsw (show _ = some 43 by rw [hx]; rfl) (by decide) d87_1 (k5 hx)
      have hx : x0 = 108 := by omega
      exact a_tabI (t := 46) hsw (show _ = some 45 by rw [hx]; rfl) (by decide) d87_1 (k6 hx)))
theorem b_X8_letter_54 {x0 : Int} (hG : GW b G) (k : Q (some (vI (-1))) G I J) : At d 87 54 [some (vI x0)] [] G I J Q := a_iconst (by decide) d87_54 (a_iret (rt_87 _) d87_55 k)
theorem b_X8_letter_48 {x0 : Int} (hG : GW b G) (k : Q (some (vI 2)) G I J) : At d 87 48 [some (vI x0)] [] G I J Q := a_iconst (by decide) d87_48 (a_iret (rt_87 _) d87_49 k)
theorem b_X8_letter_50 {x0 : Int} (hG : GW b G) (k : Q (some (vI 3)) G I J) : At d 87 50 [some (vI x0)] [] G I J Q := a_iconst (by decide) d87_50 (a_iret (rt_87 _) d87_51 k)
theorem b_X8_letter_52 {x0 : Int} (hG : GW b G) (k : Q (some (vI 4)) G I J) : At d 87 52 [some (vI x0)] [] G I J Q := a_iconst (by decide) d87_52 (a_iret (rt_87 _) d87_53 k)
theorem b_X8_letter_44 {x0 : Int} (hG : GW b G) (k : Q (some (vI 0)) G I J) : At d 87 44 [some (vI x0)] [] G I J Q := a_iconst (by decide) d87_44 (a_iret (rt_87 _) d87_45 k)
theorem b_X8_letter_46 {x0 : Int} (hG : GW b G) (k : Q (some (vI 1)) G I J) : At d 87 46 [some (vI x0)] [] G I J Q := a_iconst (by decide) d87_46 (a_iret (rt_87 _) d87_47 k)
theorem b_J3_checkIndex_0 {x0 x1 : Int} {a2 : Nat} (hG : GW b G) (kt : x0 < 0 → At d 249 9 [some (vI x0), some (vI x1), some (vR a2)] [] G I J Q) (kf : 0 ≤ x0 → At d 249 4 [some (vI x0), some (vI x1), some (vR a2)] [] G I J Q) : At d 249 0 [some (vI x0), some (vI x1), some (vR a2)] [] G I J Q := a_iload_n (by rfl) d249_0 (a_if_lt (t := 9) (by decide) d249_1 kt kf)
theorem b_J3_checkIndex_4 {x0 x1 : Int} {a2 : Nat} (hG : GW b G) (kt : x0 < x1 → At d 249 16 [some (vI x0), some (vI x1), some (vR a2)] [] G I J Q) (kf : x1 ≤ x0 → At d 249 9 [some (vI x0), some (vI x1), some (vR a2)] [] G I J Q) : At d 249 4 [some (vI x0), some (vI x1), some (vR a2)] [] G I J Q := a_iload_n (by rfl) d249_4 (a_iload_n (by rfl) d249_5 (a_ic_lt (t := 16) (by decide) d249_6 kt kf))
theorem b_J3_checkIndex_16 {x0 x1 : Int} {a2 : Nat} (hG : GW b G) (k : Q (some (vI x0)) G I J) : At d 249 16 [some (vI x0), some (vI x1), some (vR a2)] [] G I J Q := a_iload_n (by rfl) d249_16 (a_iret (rt_249 _) d249_17 k)
end BL
