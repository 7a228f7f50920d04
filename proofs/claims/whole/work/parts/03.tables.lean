/-! WHAT THE TABLES SAY, held against the task's own words by evaluation -/
def WSg : List Jvm.Cond := lw_tbl.filter goodWord
theorem WSg_tbl {w : Jvm.Cond} (h : w ∈ WSg) : w ∈ lw_tbl := (List.mem_filter.mp h).1
theorem WSg_good {w : Jvm.Cond} (h : w ∈ WSg) : goodWord w = true := (List.mem_filter.mp h).2
def clT (ci : Nat) : vw_C := vwCl.getD ci ("", TX0, 0)
def tyC (ci : Nat) : Nat → FieldType := ([tyX0, tyX1, tyX2, tyX3, tyX4, tyX5, tyX6, tyX7, tyX8, tyX9, tyX10, tyX11, tyX12] : List (Nat → FieldType)).getD ci tyX0
theorem clT_at {ci : Nat} (h : ci < 13) : vwCl[ci]? = some ((clT ci).1, (clT ci).2.1, (clT ci).2.2) := by
  match ci, h with
  | 0, _ => rfl
  | 1, _ => rfl
  | 2, _ => rfl
  | 3, _ => rfl
  | 4, _ => rfl
  | 5, _ => rfl
  | 6, _ => rfl
  | 7, _ => rfl
  | 8, _ => rfl
  | 9, _ => rfl
  | 10, _ => rfl
  | 11, _ => rfl
  | 12, _ => rfl
theorem ta_0 : ∀ w ∈ k2_sels lw_privs, w ∈ lw_tbl := fun w h => List.mem_append_left _ h
theorem ta_7 : ∀ w ∈ tables_1_7, w ∈ lw_tbl := fun w h => List.mem_append_right _ (List.mem_append_right _ (List.mem_append_right _ (List.mem_append_right _ (List.mem_append_right _ (List.mem_append_right _ (List.mem_append_right _ h))))))
theorem ta_1 : ∀ w ∈ tables_1_1, w ∈ lw_tbl := fun w h => List.mem_append_right _ (List.mem_append_left _ h)
theorem ta_2 : ∀ w ∈ tables_1_2, w ∈ lw_tbl := fun w h => List.mem_append_right _ (List.mem_append_right _ (List.mem_append_left _ h))
theorem ta_3 : ∀ w ∈ tables_1_3, w ∈ lw_tbl := fun w h => List.mem_append_right _ (List.mem_append_right _ (List.mem_append_right _ (List.mem_append_left _ h)))
theorem ta_4 : ∀ w ∈ tables_1_4, w ∈ lw_tbl := fun w h => List.mem_append_right _ (List.mem_append_right _ (List.mem_append_right _ (List.mem_append_right _ (List.mem_append_left _ h))))
theorem ta_5 : ∀ w ∈ tables_1_5, w ∈ lw_tbl := fun w h => List.mem_append_right _ (List.mem_append_right _ (List.mem_append_right _ (List.mem_append_right _ (List.mem_append_right _ (List.mem_append_left _ h)))))
theorem ta_6 : ∀ w ∈ tables_1_6, w ∈ lw_tbl := fun w h => List.mem_append_right _ (List.mem_append_right _ (List.mem_append_right _ (List.mem_append_right _ (List.mem_append_right _ (List.mem_append_right _ (List.mem_append_left _ h))))))
def tbK : Nat → List Jvm.Cond
  | 0 => k2_sels lw_privs
  | 1 => tables_1_1
  | 2 => tables_1_2
  | 3 => tables_1_3
  | 4 => tables_1_4
  | 5 => tables_1_5
  | 6 => tables_1_6
  | 7 => tables_1_7
  | _ => []
theorem tbK_in : ∀ (k : Nat) (w : Jvm.Cond), w ∈ tbK k → w ∈ lw_tbl
  | 0, w, h => ta_0 w h
  | 1, w, h => ta_1 w h
  | 2, w, h => ta_2 w h
  | 3, w, h => ta_3 w h
  | 4, w, h => ta_4 w h
  | 5, w, h => ta_5 w h
  | 6, w, h => ta_6 w h
  | 7, w, h => ta_7 w h
  | _ + 8, _, h => absurd h List.not_mem_nil
def inN (p : Nat × Nat) (w : Jvm.Cond) : Bool := decide ((tbK p.1)[p.2]? = some w)
def inP (p : Nat × Nat) (w : Jvm.Cond) : Bool := inN p w && goodWord w
theorem inN_mem {p : Nat × Nat} {w : Jvm.Cond} (h : inN p w = true) : w ∈ lw_tbl := tbK_in p.1 w (List.mem_of_getElem? (of_decide_eq_true h))
theorem inP_mem {p : Nat × Nat} {w : Jvm.Cond} (h : inP p w = true) : w ∈ WSg := by
  unfold inP at h
  rw [Bool.and_eq_true] at h
  exact List.mem_filter.mpr ⟨inN_mem h.1, h.2⟩
theorem tb_typ : (List.range 13).all (fun ci => (List.range (clT ci).2.2).all (fun k => decide (parseFieldDescriptor ((clT ci).2.1 k).2.2.1 = some (tyC ci k)))) = true := by decide +kernel
theorem tb_nam : (List.range 13).all (fun ci => (List.range (clT ci).2.2).all (fun a => (List.range (clT ci).2.2).all (fun b => decide (a ≠ b → ((clT ci).2.1 a).2.1 ≠ ((clT ci).2.1 b).2.1)))) = true := by decide +kernel
theorem tb_kin : (List.range 13).all (fun ci => decide (nfd ci = (clT ci).2.2) && decide ((clT ci).1 = oNm ci) && (List.range (clT ci).2.2).all (fun k => decide (((clT ci).2.1 k).2.2.2 = (fkd ci k).2) && decide (((clT ci).2.1 k).1 = oNm ci) &&
  (match (fkd ci k).1 with
    | 0 => decide (tyC ci k = .int)
    | 1 => decide (tyC ci k = .long)
    | 2 => isRT (some (tyC ci k))
    | 3 => decide (tyC ci k = .boolean)
    | _ => false))) = true := by decide +kernel
def lnkOk (o i kd y : Nat) (ps : List (Nat × Nat)) : Bool := match kd, ps with
  | 0, [p, q, r, t] => inP p (.methodLink (oNm o) i (nam y)) && inP q (.instanceMethod (nam y)) && inP r (.selects (nam y).cls (nam y) (nam y)) && inP t (.initialized (nam y).cls)
  | 1, [p, q, t] => inP p (.methodLink (oNm o) i (nam y)) && inP q (.static (nam y)) && inP t (.initialized (nam y).cls)
  | 2, [p, q, t] => inP p (.methodLink (oNm o) i (nam y)) && inP q (.instanceMethod (nam y)) && inP t (.initialized (nam y).cls) && decide ((nam y).name = "<init>") && decide (rty y = none)
  | 3, [p, q, t] => inN p (.methodLinkNest (oNm o) i (nam y) "OneWire") && inP q (.instanceMethod (nam y)) && inP t (.initialized (nam y).cls) && decide ((nam y).name = "<init>") && decide (rty y = none)
  | 4, [p, q, r, t] => inN p (.methodLinkNest (oNm o) i (nam y) "OneWire") && inP q (.instanceMethod (nam y)) && inP r (.selects (nam y).cls (nam y) (nam y)) && inP t (.initialized (nam y).cls)
  | 5, [p] => inP p (.methodLink (oNm o) i objectInit)
  | 6, [p] => inP p (.methodLink (oNm o) i arraycopyName)
  | 7, [p] => inP p (.methodLink (oNm o) i Lib.Math.max.name)
  | 8, [p] => inP p (.methodLink (oNm o) i Lib.Math.min.name)
  | _, _ => false
def mthOk (e : ((Nat × Nat) × (Nat × Nat)) × List (Nat × Nat)) : Bool := lnkOk e.1.1.1 e.1.1.2 e.1.2.1 e.1.2.2 e.2 && (decide (5 ≤ e.1.2.1) || (decide (0 < e.1.2.2) && decide (e.1.2.2 < metL.length)))
def posU : List (List (Nat × Nat)) := [[(1, 177), (1, 179), (1, 181), (1, 183), (1, 185), (1, 187), (1, 189), (1, 191), (1, 193), (1, 195), (1, 197)], [(2, 123), (2, 125), (2, 127), (2, 129), (2, 131), (2, 133)], [(2, 151), (2, 153), (2, 155), (2, 157), (2, 159), (2, 161), (2, 163)], [(2, 96), (2, 98), (2, 100), (2, 102), (2, 104), (2, 106)], [(1, 57), (1, 59), (1, 61), (1, 63), (1, 65), (1, 67), (1, 69)], [(2, 13), (2, 15), (2, 17), (2, 19), (2, 21)], [(2, 37), (2, 39), (2, 41), (2, 43), (2, 45), (2, 47)], [(1, 123), (1, 125), (1, 127), (1, 129), (1, 131), (1, 133), (1, 135), (1, 137), (1, 139)], [(1, 97), (1, 99), (1, 101), (1, 103), (1, 105), (1, 107)], [(1, 222), (1, 224), (1, 226), (1, 228), (1, 230), (1, 232), (1, 234), (1, 236), (1, 238)], [(2, 69), (2, 71), (2, 73), (2, 75), (2, 77), (2, 79), (2, 81)], [(2, 171), (2, 173), (2, 175), (2, 177), (2, 179)], [(5, 142), (5, 144), (5, 146), (5, 148), (5, 150), (5, 152), (5, 154), (5, 156), (5, 158), (5, 160), (5, 162), (5, 164), (5, 166), (5, 168), (5, 170), (5, 172), (5, 174), (5, 176), (5, 178), (5, 180)]]
theorem tb_uws : (List.range 13).all (fun ci => decide ((posU.getD ci []).length = (clT ci).2.2) && ((u_ws (clT ci).1 (clT ci).2.1 (clT ci).2.2).zip (posU.getD ci [])).all (fun e => inP e.2 e.1)) = true := by decide +kernel
def posF : List (Nat × Nat) := [(1, 42), (1, 43), (1, 44), (1, 45), (1, 46), (1, 47), (1, 48), (1, 49), (1, 50), (1, 51), (1, 52), (1, 53), (1, 54), (1, 55), (1, 56), (1, 85), (1, 86), (1, 87), (1, 88), (1, 89), (1, 90), (1, 91), (1, 92), (1, 93), (1, 94), (1, 95), (1, 96), (1, 111), (1, 112), (1, 113), (1, 114), (1, 115), (1, 116), (1, 117), (1, 118), (1, 119), (1, 120), (1, 121), (1, 122), (1, 148), (1, 149), (1, 150), (1, 151), (1, 152), (1, 153), (1, 154), (1, 155), (1, 156), (1, 157), (1, 158), (1, 159), (1, 160), (1, 161), (1, 162), (1, 163), (1, 164), (1, 165), (1, 166), (1, 167), (1, 168), (1, 169), (1, 170), (1, 171), (1, 172), (1, 173), (1, 174), (1, 175), (1, 176), (1, 207), (1, 208), (1, 209), (1, 210), (1, 211), (1, 212), (1, 213), (1, 214), (1, 215), (1, 216), (1, 217), (1, 218), (1, 219), (1, 220), (1, 221), (2, 7), (2, 8), (2, 9), (2, 10), (2, 11), (2, 12), (2, 30), (2, 31), (2, 32), (2, 33), (2, 34), (2, 35), (2, 36), (2, 50), (2, 51), (2, 52), (2, 53), (2, 54), (2, 55), (2, 56), (2, 57), (2, 58), (2, 59), (2, 60), (2, 61), (2, 62), (2, 63), (2, 64), (2, 65), (2, 66), (2, 67), (2, 68), (2, 90), (2, 91), (2, 92), (2, 93), (2, 94), (2, 95), (2, 115), (2, 116), (2, 117), (2, 118), (2, 119), (2, 120), (2, 121), (2, 122), (2, 142), (2, 143), (2, 144), (2, 145), (2, 146), (2, 147), (2, 148), (2, 149), (2, 150), (2, 166), (2, 167), (2, 168), (2, 169), (2, 170), (5, 123), (5, 124), (5, 125), (5, 126), (5, 127), (5, 128), (5, 129), (5, 130), (5, 131), (5, 132), (5, 133), (5, 134), (5, 135), (5, 136), (5, 137), (5, 138), (5, 139), (5, 140), (5, 141), (7, 66), (7, 67)]
def fldOk (e : ((Nat × Nat) × (Nat × Nat)) × (Nat × Nat)) : Bool := decide (e.1.2.1 < 13) && decide (e.1.2.2 < nfd e.1.2.1) && inP e.2 (.fieldLink (oNm e.1.1.1) e.1.1.2 (clT e.1.2.1).1 ((clT e.1.2.1).2.1 e.1.2.2).2.1 ((clT e.1.2.1).2.1 e.1.2.2).2.2.1) ||
  (e.1.2.1 == 50 && inP e.2 (.fieldLink (oNm e.1.1.1) e.1.1.2 "java/lang/String" (if e.1.2.2 = 0 then "value" else "coder") (if e.1.2.2 = 0 then "[B" else "B")))
theorem tb_fld : (fldL.zip posF).all fldOk = true := by decide +kernel
theorem tb_fln : fldL.length = posF.length := by decide +kernel
def posK : List (List (Nat × Nat)) := [[(1, 22), (1, 23), (1, 1)], [(1, 30), (1, 31), (1, 2)], [(1, 36), (1, 37), (1, 3)], [(1, 73), (1, 74), (1, 4)], [(1, 79), (1, 80), (1, 5)], [(1, 142), (1, 143), (1, 6)], [(1, 201), (1, 202), (1, 7)], [(2, 1), (2, 2), (1, 8)], [(2, 24), (2, 25), (1, 9)], [(2, 84), (2, 85), (1, 10)], [(2, 109), (2, 110), (1, 11)], [(2, 136), (2, 137), (1, 12)], [(5, 117), (5, 118), (1, 13)]]
def clsOk (e : ((Nat × Nat) × Nat) × List (Nat × Nat)) : Bool := match e.2 with
  | [p, q, r] => decide (e.1.2 < 13) && inP p (.classLink (oNm e.1.1.1) e.1.1.2 (clT e.1.2).1) && inP q (.instantiable (clT e.1.2).1 (clT e.1.2).2.2) && inP r (.initialized (clT e.1.2).1)
  | _ => false
theorem tb_cls : (clsL.zip posK).all clsOk = true := by decide +kernel
theorem tb_cln : clsL.length = posK.length := by decide +kernel
def posI : List (Nat × Nat) := [(2, 215), (2, 216), (2, 217), (3, 8), (4, 65), (5, 16), (6, 144), (7, 24)]
theorem tb_cst : (cstL.zip posI).all (fun e => match e.1.2 with
  | .inl v => inP e.2 (.constant (oNm e.1.1.1) e.1.1.2 (Int32.ofInt v))
  | _ => false) = true := by decide +kernel
theorem tb_csn : cstL.length = posI.length := by decide +kernel
def posJ : List (Nat × Nat) := [(4, 42), (4, 43), (4, 44), (4, 138), (5, 236), (7, 65)]
theorem tb_csl : (cslL.zip posJ).all (fun e => inP e.2 (.constantLong (oNm e.1.1.1) e.1.1.2 (Int64.ofInt e.1.2))) = true := by decide +kernel
theorem tb_csm : cslL.length = posJ.length := by decide +kernel
def posS : List (Nat × Nat) := [(3, 51), (3, 52), (3, 53), (3, 54), (3, 55), (3, 56), (3, 57)]
theorem tb_str : decide (strL.length = posS.length) && (strL.zip posS).all (fun e => inN e.2 (.stringRef (oNm 8) e.1.1 e.1.2)) = true := by decide +kernel
theorem tb_stt : inP (3, 66) (.fieldLink (oNm 20) 38 "java/lang/String" "COMPACT_STRINGS" "Z") && inP (3, 74) (.fieldLink (oNm 20) 1053 "jdk/internal/util/Preconditions" "SIOOBE_FORMATTER" "Ljava/util/function/BiFunction;") && inP (3, 197) (.fieldLink (oNm 7) 54 "OneWire$Rules" "USUAL" "[I") && inP (4, 23) (.fieldLink (oNm 0) 62 "OneWire$Calls" "UNDER" "[I") = true := by decide +kernel
theorem tb_one0 : inP (1, 28) (.instanceMethod objectInit) = true := by decide +kernel
theorem tb_one1 : inP (3, 15) (.native arraycopyName) = true := by decide +kernel
theorem tb_one2 : inP (3, 14) (.static arraycopyName) = true := by decide +kernel
theorem tb_one3 : inP (1, 16) (.initialized "java/lang/System") = true := by decide +kernel
theorem tb_one4 : inP (1, 72) (.arrayClass .int) = true := by decide +kernel
theorem tb_one5 : inP (1, 200) (.arrayClass .long) = true := by decide +kernel
theorem tb_one6 : inP (1, 110) (.arrayClass .byte) = true := by decide +kernel
theorem tb_one7 : inP (5, 183) (.arrayClass .boolean) = true := by decide +kernel
theorem tb_one8 : inP (2, 219) (.static Lib.Math.max.name) = true := by decide +kernel
theorem tb_one9 : inP (3, 2) (.static Lib.Math.min.name) = true := by decide +kernel
theorem tb_one10 : inP (1, 15) (.initialized "java/lang/Math") = true := by decide +kernel
set_option maxRecDepth 100000 in
theorem cw_obj : Jvm.Cond.code objectInit ⟨#[0xb1]⟩ 1 none ∈ WSg := List.mem_filter.mpr ⟨ta_1 _ (List.mem_of_getElem? (i := 29) rfl), rfl⟩
set_option maxRecDepth 100000 in
theorem cw_max : Jvm.Cond.code Lib.Math.max.name Lib.Math.max.code 2 (some .int) ∈ WSg := List.mem_filter.mpr ⟨ta_2 _ (List.mem_of_getElem? (i := 220) rfl), rfl⟩
set_option maxRecDepth 100000 in
theorem cw_min : Jvm.Cond.code Lib.Math.min.name Lib.Math.min.code 2 (some .int) ∈ WSg := List.mem_filter.mpr ⟨ta_3 _ (List.mem_of_getElem? (i := 3) rfl), rfl⟩
def posL : List (List (Nat × Nat)) := [[(1, 24), (1, 25), (1, 1)], [(1, 27)], [(1, 35)], [(1, 41)], [(1, 78)], [(1, 84)], [(1, 147)], [(1, 206)], [(2, 6)], [(2, 29)], [(2, 89)], [(2, 114)], [(2, 141)], [(2, 182), (2, 183), (2, 184), (1, 1)], [(2, 186), (2, 187), (1, 1)], [(2, 189), (2, 190), (2, 191), (1, 2)], [(2, 193), (2, 194), (2, 195), (1, 3)], [(2, 197), (2, 198), (2, 199), (1, 1)], [(2, 201), (2, 202), (2, 203), (1, 3)], [(2, 205), (2, 206), (2, 207), (1, 1)], [(2, 209), (2, 210), (1, 11)], [(2, 212), (2, 213), (1, 14)], [(2, 218)], [(2, 221), (2, 222), (1, 11)], [(2, 224), (2, 225), (2, 226), (1, 1)], [(2, 228), (2, 229), (1, 11)], [(2, 231), (2, 210), (1, 11)], [(2, 232), (2, 233), (2, 234), (1, 1)], [(2, 236), (2, 237), (2, 238), (1, 3)], [(3, 0), (2, 213), (1, 14)], [(3, 1)], [(3, 4), (3, 5), (3, 6), (1, 11)], [(3, 9), (3, 11), (0, 0), (1, 11)], [(3, 13)], [(3, 16), (3, 18), (0, 1), (1, 11)], [(3, 20), (3, 21), (3, 22), (1, 1)], [(3, 24), (3, 25), (3, 26), (1, 5)], [(3, 28), (3, 29), (3, 30), (1, 1)], [(3, 32), (3, 33), (3, 34), (1, 4)], [(3, 36), (3, 37), (3, 38), (1, 5)], [(3, 40), (3, 42), (0, 2), (1, 4)], [(3, 44), (3, 45), (3, 46), (1, 5)], [(3, 48), (3, 49), (1, 5)], [(3, 58), (3, 59), (3, 60), (1, 17)], [(3, 62), (3, 63), (3, 64), (1, 17)], [(3, 68), (3, 69), (1, 18)], [(3, 71), (3, 72), (1, 17)], [(3, 76), (3, 77), (1, 19)], [(3, 98), (3, 100), (0, 3), (1, 5)], [(3, 102), (3, 103), (3, 104), (1, 17)], [(3, 106), (3, 107), (3, 108), (1, 17)], [(3, 110), (3, 111), (3, 112), (1, 5)], [(3, 114), (3, 111), (3, 112), (1, 5)], [(3, 115), (3, 116), (3, 117), (1, 5)], [(3, 119), (3, 120), (1, 4)], [(3, 126), (3, 128), (0, 5), (1, 5)], [(3, 130), (3, 132), (0, 6), (1, 5)], [(3, 134), (3, 135), (1, 5)], [(3, 137), (3, 139), (0, 7), (1, 5)], [(3, 141), (3, 124), (0, 4), (1, 5)], [(3, 142), (3, 116), (3, 117), (1, 5)], [(3, 143), (3, 144), (3, 145), (1, 5)], [(3, 147), (3, 148), (3, 149), (1, 4)], [(3, 151), (3, 152), (3, 153), (1, 1)], [(3, 155), (3, 157), (0, 8), (1, 1)], [(3, 159), (3, 120), (1, 4)], [(3, 160), (3, 161), (3, 162), (1, 6)], [(3, 164), (3, 165), (3, 166), (1, 2)], [(3, 168), (3, 169), (3, 170), (1, 2)], [(3, 172), (3, 161), (3, 162), (1, 6)], [(3, 173), (3, 174), (3, 175), (1, 3)], [(3, 177), (2, 202), (2, 203), (1, 3)], [(3, 178), (3, 179), (3, 180), (1, 4)], [(3, 182), (3, 183), (3, 184), (1, 4)], [(3, 186), (3, 187), (3, 188), (1, 4)], [(3, 190), (3, 192), (0, 9), (1, 4)], [(3, 194), (3, 195), (1, 4)], [(3, 199), (3, 187), (3, 188), (1, 4)], [(3, 200), (3, 201), (3, 202), (1, 1)], [(3, 204), (3, 169), (3, 170), (1, 2)], [(3, 205), (3, 183), (3, 184), (1, 4)], [(3, 206), (3, 207), (3, 208), (1, 1)], [(3, 210), (3, 212), (0, 10), (1, 1)], [(3, 214), (3, 215), (3, 216), (1, 6)], [(3, 218), (3, 219), (3, 220), (1, 3)], [(3, 222), (3, 223), (3, 224), (1, 3)], [(3, 226), (3, 227), (1, 3)], [(3, 229)], [(3, 230)], [(3, 231), (3, 232), (3, 233), (1, 1)], [(3, 235), (3, 236), (3, 237), (1, 1)], [(3, 239), (4, 0), (4, 1), (1, 2)], [(4, 3), (3, 165), (3, 166), (1, 2)], [(4, 4), (4, 5), (4, 6), (1, 6)], [(4, 8), (4, 9), (4, 10), (1, 6)], [(4, 12), (4, 14), (0, 11), (1, 6)], [(4, 16), (3, 174), (3, 175), (1, 3)], [(4, 17), (2, 237), (2, 238), (1, 3)], [(4, 18), (2, 202), (2, 203), (1, 3)], [(4, 19), (2, 213), (1, 14)], [(4, 20), (4, 21), (1, 6)], [(4, 25), (4, 26), (4, 27), (1, 6)], [(4, 29), (4, 30), (4, 31), (1, 6)], [(4, 33), (4, 34), (4, 35), (1, 3)], [(4, 37), (3, 174), (3, 175), (1, 3)], [(4, 38), (3, 223), (3, 224), (1, 3)], [(4, 39), (4, 40), (1, 21)], [(4, 45), (4, 40), (1, 21)], [(4, 46), (4, 47), (4, 48), (1, 3)], [(4, 50)], [(4, 51), (4, 52), (4, 53), (1, 2)], [(4, 55), (4, 30), (4, 31), (1, 6)], [(4, 56), (4, 57), (4, 58), (1, 1)], [(4, 60), (4, 21), (1, 6)], [(4, 61), (4, 62), (4, 63), (1, 1)], [(4, 66), (4, 67), (4, 68), (1, 10)], [(4, 70), (4, 72), (0, 12), (1, 10)], [(4, 74), (4, 0), (4, 1), (1, 2)], [(4, 75), (4, 77), (0, 13), (1, 10)], [(4, 79), (4, 81), (0, 14), (1, 10)], [(4, 83), (4, 84), (4, 85), (1, 6)], [(4, 87), (4, 89), (0, 15), (1, 10)], [(4, 91), (2, 190), (2, 191), (1, 2)], [(4, 92), (3, 165), (3, 166), (1, 2)], [(4, 93), (3, 161), (3, 162), (1, 6)], [(4, 94), (4, 96), (0, 16), (1, 10)], [(4, 98), (4, 99), (4, 100), (1, 1)], [(4, 102), (4, 103), (4, 104), (1, 6)], [(4, 106), (4, 84), (4, 85), (1, 6)], [(4, 107), (4, 108), (4, 109), (1, 6)], [(4, 111), (4, 112), (4, 113), (1, 1)], [(4, 115), (4, 116), (4, 117), (1, 6)], [(4, 119), (4, 120), (4, 121), (1, 1)], [(4, 123), (4, 124), (4, 125), (1, 6)], [(4, 127), (4, 128), (4, 129), (1, 1)], [(4, 131), (4, 132), (1, 1)], [(4, 134), (4, 135), (4, 136), (1, 7)], [(4, 139), (4, 140), (4, 141), (1, 1)], [(4, 143), (4, 144), (4, 145), (1, 3)], [(4, 147), (3, 223), (3, 224), (1, 3)], [(4, 148), (4, 149), (4, 150), (1, 1)], [(4, 152), (4, 153), (4, 154), (1, 7)], [(4, 156), (4, 157), (4, 158), (1, 1)], [(4, 160), (4, 161), (4, 162), (1, 7)], [(4, 164), (4, 165), (4, 166), (1, 7)], [(4, 168), (4, 169), (4, 170), (1, 1)], [(4, 172), (4, 173), (4, 174), (1, 7)], [(4, 176), (4, 178), (0, 17), (1, 7)], [(4, 180), (2, 213), (1, 14)], [(4, 181), (4, 183), (0, 18), (1, 7)], [(4, 185), (4, 186), (4, 187), (1, 1)], [(4, 189), (4, 190), (4, 191), (1, 8)], [(4, 193), (4, 194), (4, 195), (1, 8)], [(4, 197), (4, 198), (4, 199), (1, 1)], [(4, 201), (4, 202), (4, 203), (1, 2)], [(4, 205), (4, 206), (4, 207), (1, 2)], [(4, 209), (4, 210), (4, 211), (1, 8)], [(4, 213), (4, 214), (4, 215), (1, 1)], [(4, 217), (4, 218), (4, 219), (1, 2)], [(4, 221), (2, 190), (2, 191), (1, 2)], [(4, 222), (4, 202), (4, 203), (1, 2)], [(4, 223), (4, 224), (4, 225), (1, 1)], [(4, 227), (4, 228), (4, 229), (1, 6)], [(4, 231), (4, 232), (4, 233), (1, 1)], [(4, 235), (4, 236), (4, 237), (1, 3)], [(4, 239), (5, 0), (5, 1), (1, 3)], [(5, 3), (5, 4), (5, 5), (1, 1)], [(5, 7), (5, 8), (5, 9), (1, 12)], [(5, 11)], [(5, 12), (5, 13), (5, 14), (1, 6)], [(5, 17), (5, 19), (0, 19), (1, 12)], [(5, 21)], [(5, 22), (5, 24), (0, 20), (1, 12)], [(5, 26), (5, 27), (5, 28), (1, 1)], [(5, 30), (5, 31), (5, 32), (1, 9)], [(5, 34), (5, 35), (5, 36), (1, 1)], [(5, 38), (5, 39), (5, 40), (1, 9)], [(5, 42), (5, 43), (5, 44), (1, 1)], [(5, 46), (5, 47), (5, 48), (1, 9)], [(5, 50), (5, 51), (5, 52), (1, 1)], [(5, 54), (5, 55), (5, 56), (1, 2)], [(5, 58), (5, 59), (5, 60), (1, 4)], [(5, 62), (5, 63), (5, 64), (1, 1)], [(5, 66), (5, 67), (5, 68), (1, 2)], [(5, 70), (5, 71), (5, 72), (1, 3)], [(5, 74)], [(5, 75), (5, 76), (5, 77), (1, 4)], [(5, 79), (5, 80), (5, 81), (1, 5)], [(5, 83)], [(5, 84)], [(5, 85), (5, 86), (5, 87), (1, 6)], [(5, 89)], [(5, 90), (5, 91), (5, 92), (1, 7)], [(5, 94)], [(5, 95), (5, 96), (5, 97), (1, 8)], [(5, 99)], [(5, 100), (5, 101), (5, 102), (1, 9)], [(5, 104)], [(5, 105), (5, 106), (5, 107), (1, 1)], [(5, 109), (5, 110), (5, 111), (1, 1)], [(5, 113), (5, 114), (5, 115), (1, 6)], [(5, 119), (5, 120), (1, 13)], [(5, 122)], [(5, 184), (5, 185), (5, 186), (1, 13)], [(5, 188), (5, 189), (1, 13)], [(5, 191), (5, 192), (1, 13)], [(5, 194), (5, 196), (0, 21), (1, 13)], [(5, 198), (5, 199), (5, 200), (1, 13)], [(5, 202), (5, 204), (0, 22), (1, 13)], [(5, 206), (5, 208), (0, 23), (1, 13)], [(5, 210), (5, 211), (5, 212), (1, 13)], [(5, 214), (5, 215), (1, 13)], [(5, 217), (5, 218), (1, 13)], [(5, 220), (5, 221), (5, 222), (1, 13)], [(5, 224), (5, 225), (5, 226), (1, 13)], [(5, 228), (5, 230), (0, 24), (1, 13)], [(5, 232), (5, 233), (5, 234), (1, 13)], [(5, 237), (5, 238), (5, 239), (1, 13)], [(6, 1), (6, 2), (1, 13)], [(6, 4), (6, 6), (0, 25), (1, 13)], [(6, 8), (6, 10), (0, 26), (1, 13)], [(6, 12), (6, 14), (0, 27), (1, 13)], [(6, 16), (6, 18), (0, 28), (1, 13)], [(6, 20), (6, 22), (0, 29), (1, 13)], [(6, 24), (6, 26), (0, 30), (1, 13)], [(6, 28), (6, 29), (1, 13)], [(6, 31), (6, 33), (0, 31), (1, 13)], [(6, 35), (6, 37), (0, 32), (1, 13)], [(6, 39), (6, 41), (0, 33), (1, 13)], [(6, 43), (6, 45), (0, 34), (1, 13)], [(6, 47), (6, 49), (0, 35), (1, 13)], [(6, 51), (6, 53), (0, 36), (1, 13)], [(6, 55), (6, 56), (6, 57), (1, 13)], [(6, 59), (6, 61), (0, 37), (1, 13)], [(6, 63), (6, 65), (0, 38), (1, 13)], [(6, 67), (6, 69), (0, 39), (1, 13)], [(6, 71), (6, 73), (0, 40), (1, 13)], [(6, 75), (6, 77), (0, 41), (1, 13)], [(6, 79), (6, 80), (1, 13)], [(6, 82), (6, 83), (6, 84), (1, 13)], [(6, 86), (6, 87), (6, 88), (1, 13)], [(6, 90), (6, 92), (0, 42), (1, 13)], [(6, 94), (6, 95), (6, 96), (1, 13)], [(6, 98), (6, 99), (6, 100), (1, 13)], [(6, 102), (6, 104), (0, 43), (1, 13)], [(6, 106), (6, 108), (0, 44), (1, 13)], [(6, 110), (6, 112), (0, 45), (1, 13)], [(6, 114), (6, 116), (0, 46), (1, 13)], [(6, 118), (6, 120), (0, 47), (1, 13)], [(6, 122), (6, 124), (0, 48), (1, 13)], [(6, 126), (6, 128), (0, 49), (1, 13)], [(6, 130), (6, 131), (1, 13)], [(6, 133), (6, 134), (6, 135), (1, 13)], [(6, 137), (6, 138), (1, 13)], [(6, 140), (6, 141), (6, 142), (1, 13)], [(6, 145), (6, 147), (0, 50), (1, 13)], [(6, 149), (6, 151), (0, 51), (1, 13)], [(6, 153), (6, 155), (0, 52), (1, 13)], [(6, 157), (6, 159), (0, 53), (1, 13)], [(6, 161), (6, 163), (0, 54), (1, 13)], [(6, 165), (6, 167), (0, 55), (1, 13)], [(6, 169), (6, 171), (0, 56), (1, 13)], [(6, 173), (6, 175), (0, 57), (1, 13)], [(6, 177), (6, 179), (0, 58), (1, 13)], [(6, 181), (6, 182), (6, 183), (1, 13)], [(6, 185), (6, 186), (6, 187), (1, 13)], [(6, 189), (6, 191), (0, 59), (1, 13)], [(6, 193), (6, 194), (6, 195), (1, 13)], [(6, 197), (6, 198), (6, 199), (1, 13)], [(6, 201), (6, 202), (1, 13)], [(6, 204), (6, 205), (6, 206), (1, 13)], [(6, 208), (6, 210), (0, 60), (1, 13)], [(6, 212), (6, 213), (6, 214), (1, 13)], [(6, 216), (6, 217), (6, 218), (1, 13)], [(6, 220), (6, 221), (6, 222), (1, 13)], [(6, 224), (6, 226), (0, 61), (1, 13)], [(6, 228), (6, 229), (6, 230), (1, 13)], [(6, 232), (6, 234), (0, 62), (1, 13)], [(6, 236), (6, 237), (6, 238), (1, 13)], [(7, 0), (7, 2), (0, 63), (1, 13)], [(7, 4), (7, 5), (7, 6), (1, 13)], [(7, 8), (7, 9), (7, 10), (1, 13)], [(7, 12), (7, 13), (7, 14), (1, 13)], [(7, 16), (7, 17), (7, 18), (1, 13)], [(7, 20), (7, 22), (0, 64), (1, 13)], [(7, 25), (7, 27), (0, 65), (1, 13)], [(7, 29), (7, 30), (7, 31), (1, 13)], [(7, 33), (7, 34), (7, 35), (1, 13)], [(7, 37), (7, 38), (7, 39), (1, 13)], [(7, 41), (7, 42), (7, 43), (1, 13)], [(7, 45), (7, 47), (0, 66), (1, 13)], [(7, 49), (7, 50), (7, 51), (1, 13)], [(7, 53), (7, 54), (7, 55), (1, 13)], [(7, 57), (7, 58), (7, 59), (1, 13)], [(7, 61), (7, 63), (0, 67), (1, 13)], [(1, 32), (1, 33), (1, 2)], [(1, 38), (1, 39), (1, 3)], [(1, 75), (1, 76), (1, 4)], [(1, 81), (1, 82), (1, 5)], [(1, 144), (1, 145), (1, 6)], [(1, 203), (1, 204), (1, 7)], [(2, 3), (2, 4), (1, 8)], [(2, 26), (2, 27), (1, 9)], [(2, 86), (2, 87), (1, 10)], [(2, 111), (2, 112), (1, 11)], [(2, 138), (2, 139), (1, 12)], [(3, 122), (3, 124), (0, 4), (1, 5)]]
theorem tb_mth0 : (((mthL.zip posL).drop 0).take 40).all mthOk = true := by decide +kernel
theorem tb_mth1 : (((mthL.zip posL).drop 40).take 40).all mthOk = true := by decide +kernel
theorem tb_mth2 : (((mthL.zip posL).drop 80).take 40).all mthOk = true := by decide +kernel
theorem tb_mth3 : (((mthL.zip posL).drop 120).take 40).all mthOk = true := by decide +kernel
theorem tb_mth4 : (((mthL.zip posL).drop 160).take 40).all mthOk = true := by decide +kernel
theorem tb_mth5 : (((mthL.zip posL).drop 200).take 40).all mthOk = true := by decide +kernel
theorem tb_mth6 : (((mthL.zip posL).drop 240).take 40).all mthOk = true := by decide +kernel
theorem tb_mth7 : (((mthL.zip posL).drop 280).take 40).all mthOk = true := by decide +kernel
theorem tb_mlen : mthL.length = 307 ∧ posL.length = 307 := by decide +kernel
theorem tb_cut {α : Type} {p : α → Bool} {n : Nat} (l : List α) (h1 : (l.take n).all p = true) (h2 : (l.drop n).all p = true) : l.all p = true := by
  rw [← List.take_append_drop n l, List.all_append, h1, h2]
  rfl
theorem tb_mthA : (mthL.zip posL).all mthOk = true := by
  have e : (mthL.zip posL).drop 320 = [] := List.drop_eq_nil_of_le (by rw [List.length_zip, tb_mlen.1, tb_mlen.2]; decide)
  have h7 : ((mthL.zip posL).drop 280).all mthOk = true := tb_cut (n := 40) _ tb_mth7 (by rw [List.drop_drop]; exact (by rw [e]; rfl))
  have h6 : ((mthL.zip posL).drop 240).all mthOk = true := tb_cut (n := 40) _ tb_mth6 (by rw [List.drop_drop]; exact h7)
  have h5 : ((mthL.zip posL).drop 200).all mthOk = true := tb_cut (n := 40) _ tb_mth5 (by rw [List.drop_drop]; exact h6)
  have h4 : ((mthL.zip posL).drop 160).all mthOk = true := tb_cut (n := 40) _ tb_mth4 (by rw [List.drop_drop]; exact h5)
  have h3 : ((mthL.zip posL).drop 120).all mthOk = true := tb_cut (n := 40) _ tb_mth3 (by rw [List.drop_drop]; exact h4)
  have h2 : ((mthL.zip posL).drop 80).all mthOk = true := tb_cut (n := 40) _ tb_mth2 (by rw [List.drop_drop]; exact h3)
  have h1 : ((mthL.zip posL).drop 40).all mthOk = true := tb_cut (n := 40) _ tb_mth1 (by rw [List.drop_drop]; exact h2)
  have h0 : ((mthL.zip posL).drop 0).all mthOk = true := tb_cut (n := 40) _ tb_mth0 (by rw [List.drop_drop]; exact h1)
  exact h0
set_option maxRecDepth 100000 in
theorem cw_1 : Jvm.Cond.code (nam 1) (cod 1) (mxl 1) (rty 1) ∈ WSg := List.mem_filter.mpr ⟨ta_1 _ (List.mem_of_getElem? (i := 146) rfl), rfl⟩
set_option maxRecDepth 100000 in
theorem cw_2 : Jvm.Cond.code (nam 2) (cod 2) (mxl 2) (rty 2) ∈ WSg := List.mem_filter.mpr ⟨ta_5 _ (List.mem_of_getElem? (i := 88) rfl), rfl⟩
set_option maxRecDepth 100000 in
theorem cw_3 : Jvm.Cond.code (nam 3) (cod 3) (mxl 3) (rty 3) ∈ WSg := List.mem_filter.mpr ⟨ta_3 _ (List.mem_of_getElem? (i := 163) rfl), rfl⟩
set_option maxRecDepth 100000 in
theorem cw_4 : Jvm.Cond.code (nam 4) (cod 4) (mxl 4) (rty 4) ∈ WSg := List.mem_filter.mpr ⟨ta_3 _ (List.mem_of_getElem? (i := 217) rfl), rfl⟩
set_option maxRecDepth 100000 in
theorem cw_5 : Jvm.Cond.code (nam 5) (cod 5) (mxl 5) (rty 5) ∈ WSg := List.mem_filter.mpr ⟨ta_4 _ (List.mem_of_getElem? (i := 22) rfl), rfl⟩
set_option maxRecDepth 100000 in
theorem cw_6 : Jvm.Cond.code (nam 6) (cod 6) (mxl 6) (rty 6) ∈ WSg := List.mem_filter.mpr ⟨ta_4 _ (List.mem_of_getElem? (i := 7) rfl), rfl⟩
set_option maxRecDepth 100000 in
theorem cw_7 : Jvm.Cond.code (nam 7) (cod 7) (mxl 7) (rty 7) ∈ WSg := List.mem_filter.mpr ⟨ta_4 _ (List.mem_of_getElem? (i := 11) rfl), rfl⟩
set_option maxRecDepth 100000 in
theorem cw_8 : Jvm.Cond.code (nam 8) (cod 8) (mxl 8) (rty 8) ∈ WSg := List.mem_filter.mpr ⟨ta_4 _ (List.mem_of_getElem? (i := 28) rfl), rfl⟩
set_option maxRecDepth 100000 in
theorem cw_9 : Jvm.Cond.code (nam 9) (cod 9) (mxl 9) (rty 9) ∈ WSg := List.mem_filter.mpr ⟨ta_4 _ (List.mem_of_getElem? (i := 32) rfl), rfl⟩
set_option maxRecDepth 100000 in
theorem cw_10 : Jvm.Cond.code (nam 10) (cod 10) (mxl 10) (rty 10) ∈ WSg := List.mem_filter.mpr ⟨ta_4 _ (List.mem_of_getElem? (i := 86) rfl), rfl⟩
set_option maxRecDepth 100000 in
theorem cw_11 : Jvm.Cond.code (nam 11) (cod 11) (mxl 11) (rty 11) ∈ WSg := List.mem_filter.mpr ⟨ta_4 _ (List.mem_of_getElem? (i := 105) rfl), rfl⟩
set_option maxRecDepth 100000 in
theorem cw_12 : Jvm.Cond.code (nam 12) (cod 12) (mxl 12) (rty 12) ∈ WSg := List.mem_filter.mpr ⟨ta_4 _ (List.mem_of_getElem? (i := 110) rfl), rfl⟩
set_option maxRecDepth 100000 in
theorem cw_13 : Jvm.Cond.code (nam 13) (cod 13) (mxl 13) (rty 13) ∈ WSg := List.mem_filter.mpr ⟨ta_4 _ (List.mem_of_getElem? (i := 118) rfl), rfl⟩
set_option maxRecDepth 100000 in
theorem cw_14 : Jvm.Cond.code (nam 14) (cod 14) (mxl 14) (rty 14) ∈ WSg := List.mem_filter.mpr ⟨ta_4 _ (List.mem_of_getElem? (i := 15) rfl), rfl⟩
set_option maxRecDepth 100000 in
theorem cw_15 : Jvm.Cond.code (nam 15) (cod 15) (mxl 15) (rty 15) ∈ WSg := List.mem_filter.mpr ⟨ta_4 _ (List.mem_of_getElem? (i := 126) rfl), rfl⟩
set_option maxRecDepth 100000 in
theorem cw_16 : Jvm.Cond.code (nam 16) (cod 16) (mxl 16) (rty 16) ∈ WSg := List.mem_filter.mpr ⟨ta_5 _ (List.mem_of_getElem? (i := 116) rfl), rfl⟩
set_option maxRecDepth 100000 in
theorem cw_17 : Jvm.Cond.code (nam 17) (cod 17) (mxl 17) (rty 17) ∈ WSg := List.mem_filter.mpr ⟨ta_4 _ (List.mem_of_getElem? (i := 230) rfl), rfl⟩
set_option maxRecDepth 100000 in
theorem cw_18 : Jvm.Cond.code (nam 18) (cod 18) (mxl 18) (rty 18) ∈ WSg := List.mem_filter.mpr ⟨ta_5 _ (List.mem_of_getElem? (i := 15) rfl), rfl⟩
set_option maxRecDepth 100000 in
theorem cw_19 : Jvm.Cond.code (nam 19) (cod 19) (mxl 19) (rty 19) ∈ WSg := List.mem_filter.mpr ⟨ta_2 _ (List.mem_of_getElem? (i := 113) rfl), rfl⟩
set_option maxRecDepth 100000 in
theorem cw_20 : Jvm.Cond.code (nam 20) (cod 20) (mxl 20) (rty 20) ∈ WSg := List.mem_filter.mpr ⟨ta_2 _ (List.mem_of_getElem? (i := 211) rfl), rfl⟩
set_option maxRecDepth 100000 in
theorem cw_21 : Jvm.Cond.code (nam 21) (cod 21) (mxl 21) (rty 21) ∈ WSg := List.mem_filter.mpr ⟨ta_2 _ (List.mem_of_getElem? (i := 223) rfl), rfl⟩
set_option maxRecDepth 100000 in
theorem cw_22 : Jvm.Cond.code (nam 22) (cod 22) (mxl 22) (rty 22) ∈ WSg := List.mem_filter.mpr ⟨ta_2 _ (List.mem_of_getElem? (i := 230) rfl), rfl⟩
set_option maxRecDepth 100000 in
theorem cw_23 : Jvm.Cond.code (nam 23) (cod 23) (mxl 23) (rty 23) ∈ WSg := List.mem_filter.mpr ⟨ta_3 _ (List.mem_of_getElem? (i := 7) rfl), rfl⟩
set_option maxRecDepth 100000 in
theorem cw_24 : Jvm.Cond.code (nam 24) (cod 24) (mxl 24) (rty 24) ∈ WSg := List.mem_filter.mpr ⟨ta_3 _ (List.mem_of_getElem? (i := 12) rfl), rfl⟩
set_option maxRecDepth 100000 in
theorem cw_25 : Jvm.Cond.code (nam 25) (cod 25) (mxl 25) (rty 25) ∈ WSg := List.mem_filter.mpr ⟨ta_3 _ (List.mem_of_getElem? (i := 19) rfl), rfl⟩
set_option maxRecDepth 100000 in
theorem cw_26 : Jvm.Cond.code (nam 26) (cod 26) (mxl 26) (rty 26) ∈ WSg := List.mem_filter.mpr ⟨ta_2 _ (List.mem_of_getElem? (i := 140) rfl), rfl⟩
set_option maxRecDepth 100000 in
theorem cw_27 : Jvm.Cond.code (nam 27) (cod 27) (mxl 27) (rty 27) ∈ WSg := List.mem_filter.mpr ⟨ta_5 _ (List.mem_of_getElem? (i := 10) rfl), rfl⟩
set_option maxRecDepth 100000 in
theorem cw_28 : Jvm.Cond.code (nam 28) (cod 28) (mxl 28) (rty 28) ∈ WSg := List.mem_filter.mpr ⟨ta_5 _ (List.mem_of_getElem? (i := 20) rfl), rfl⟩
set_option maxRecDepth 100000 in
theorem cw_29 : Jvm.Cond.code (nam 29) (cod 29) (mxl 29) (rty 29) ∈ WSg := List.mem_filter.mpr ⟨ta_5 _ (List.mem_of_getElem? (i := 25) rfl), rfl⟩
set_option maxRecDepth 100000 in
theorem cw_30 : Jvm.Cond.code (nam 30) (cod 30) (mxl 30) (rty 30) ∈ WSg := List.mem_filter.mpr ⟨ta_2 _ (List.mem_of_getElem? (i := 88) rfl), rfl⟩
set_option maxRecDepth 100000 in
theorem cw_31 : Jvm.Cond.code (nam 31) (cod 31) (mxl 31) (rty 31) ∈ WSg := List.mem_filter.mpr ⟨ta_4 _ (List.mem_of_getElem? (i := 69) rfl), rfl⟩
set_option maxRecDepth 100000 in
theorem cw_32 : Jvm.Cond.code (nam 32) (cod 32) (mxl 32) (rty 32) ∈ WSg := List.mem_filter.mpr ⟨ta_4 _ (List.mem_of_getElem? (i := 73) rfl), rfl⟩
set_option maxRecDepth 100000 in
theorem cw_33 : Jvm.Cond.code (nam 33) (cod 33) (mxl 33) (rty 33) ∈ WSg := List.mem_filter.mpr ⟨ta_4 _ (List.mem_of_getElem? (i := 78) rfl), rfl⟩
set_option maxRecDepth 100000 in
theorem cw_34 : Jvm.Cond.code (nam 34) (cod 34) (mxl 34) (rty 34) ∈ WSg := List.mem_filter.mpr ⟨ta_4 _ (List.mem_of_getElem? (i := 82) rfl), rfl⟩
set_option maxRecDepth 100000 in
theorem cw_35 : Jvm.Cond.code (nam 35) (cod 35) (mxl 35) (rty 35) ∈ WSg := List.mem_filter.mpr ⟨ta_4 _ (List.mem_of_getElem? (i := 90) rfl), rfl⟩
set_option maxRecDepth 100000 in
theorem cw_36 : Jvm.Cond.code (nam 36) (cod 36) (mxl 36) (rty 36) ∈ WSg := List.mem_filter.mpr ⟨ta_4 _ (List.mem_of_getElem? (i := 97) rfl), rfl⟩
set_option maxRecDepth 100000 in
theorem cw_37 : Jvm.Cond.code (nam 37) (cod 37) (mxl 37) (rty 37) ∈ WSg := List.mem_filter.mpr ⟨ta_1 _ (List.mem_of_getElem? (i := 40) rfl), rfl⟩
set_option maxRecDepth 100000 in
theorem cw_38 : Jvm.Cond.code (nam 38) (cod 38) (mxl 38) (rty 38) ∈ WSg := List.mem_filter.mpr ⟨ta_5 _ (List.mem_of_getElem? (i := 73) rfl), rfl⟩
set_option maxRecDepth 100000 in
theorem cw_39 : Jvm.Cond.code (nam 39) (cod 39) (mxl 39) (rty 39) ∈ WSg := List.mem_filter.mpr ⟨ta_2 _ (List.mem_of_getElem? (i := 204) rfl), rfl⟩
set_option maxRecDepth 100000 in
theorem cw_40 : Jvm.Cond.code (nam 40) (cod 40) (mxl 40) (rty 40) ∈ WSg := List.mem_filter.mpr ⟨ta_4 _ (List.mem_of_getElem? (i := 146) rfl), rfl⟩
set_option maxRecDepth 100000 in
theorem cw_41 : Jvm.Cond.code (nam 41) (cod 41) (mxl 41) (rty 41) ∈ WSg := List.mem_filter.mpr ⟨ta_2 _ (List.mem_of_getElem? (i := 196) rfl), rfl⟩
set_option maxRecDepth 100000 in
theorem cw_42 : Jvm.Cond.code (nam 42) (cod 42) (mxl 42) (rty 42) ∈ WSg := List.mem_filter.mpr ⟨ta_3 _ (List.mem_of_getElem? (i := 176) rfl), rfl⟩
set_option maxRecDepth 100000 in
theorem cw_43 : Jvm.Cond.code (nam 43) (cod 43) (mxl 43) (rty 43) ∈ WSg := List.mem_filter.mpr ⟨ta_3 _ (List.mem_of_getElem? (i := 221) rfl), rfl⟩
set_option maxRecDepth 100000 in
theorem cw_44 : Jvm.Cond.code (nam 44) (cod 44) (mxl 44) (rty 44) ∈ WSg := List.mem_filter.mpr ⟨ta_4 _ (List.mem_of_getElem? (i := 49) rfl), rfl⟩
set_option maxRecDepth 100000 in
theorem cw_45 : Jvm.Cond.code (nam 45) (cod 45) (mxl 45) (rty 45) ∈ WSg := List.mem_filter.mpr ⟨ta_2 _ (List.mem_of_getElem? (i := 239) rfl), rfl⟩
set_option maxRecDepth 100000 in
theorem cw_46 : Jvm.Cond.code (nam 46) (cod 46) (mxl 46) (rty 46) ∈ WSg := List.mem_filter.mpr ⟨ta_3 _ (List.mem_of_getElem? (i := 225) rfl), rfl⟩
set_option maxRecDepth 100000 in
theorem cw_47 : Jvm.Cond.code (nam 47) (cod 47) (mxl 47) (rty 47) ∈ WSg := List.mem_filter.mpr ⟨ta_4 _ (List.mem_of_getElem? (i := 36) rfl), rfl⟩
set_option maxRecDepth 100000 in
theorem cw_48 : Jvm.Cond.code (nam 48) (cod 48) (mxl 48) (rty 48) ∈ WSg := List.mem_filter.mpr ⟨ta_3 _ (List.mem_of_getElem? (i := 228) rfl), rfl⟩
set_option maxRecDepth 100000 in
theorem cw_49 : Jvm.Cond.code (nam 49) (cod 49) (mxl 49) (rty 49) ∈ WSg := List.mem_filter.mpr ⟨ta_4 _ (List.mem_of_getElem? (i := 238) rfl), rfl⟩
set_option maxRecDepth 100000 in
theorem cw_50 : Jvm.Cond.code (nam 50) (cod 50) (mxl 50) (rty 50) ∈ WSg := List.mem_filter.mpr ⟨ta_5 _ (List.mem_of_getElem? (i := 2) rfl), rfl⟩
set_option maxRecDepth 100000 in
theorem cw_51 : Jvm.Cond.code (nam 51) (cod 51) (mxl 51) (rty 51) ∈ WSg := List.mem_filter.mpr ⟨ta_2 _ (List.mem_of_getElem? (i := 5) rfl), rfl⟩
set_option maxRecDepth 100000 in
theorem cw_52 : Jvm.Cond.code (nam 52) (cod 52) (mxl 52) (rty 52) ∈ WSg := List.mem_filter.mpr ⟨ta_5 _ (List.mem_of_getElem? (i := 98) rfl), rfl⟩
set_option maxRecDepth 100000 in
theorem cw_53 : Jvm.Cond.code (nam 53) (cod 53) (mxl 53) (rty 53) ∈ WSg := List.mem_filter.mpr ⟨ta_4 _ (List.mem_of_getElem? (i := 192) rfl), rfl⟩
set_option maxRecDepth 100000 in
theorem cw_54 : Jvm.Cond.code (nam 54) (cod 54) (mxl 54) (rty 54) ∈ WSg := List.mem_filter.mpr ⟨ta_4 _ (List.mem_of_getElem? (i := 196) rfl), rfl⟩
set_option maxRecDepth 100000 in
theorem cw_55 : Jvm.Cond.code (nam 55) (cod 55) (mxl 55) (rty 55) ∈ WSg := List.mem_filter.mpr ⟨ta_4 _ (List.mem_of_getElem? (i := 212) rfl), rfl⟩
set_option maxRecDepth 100000 in
theorem cw_56 : Jvm.Cond.code (nam 56) (cod 56) (mxl 56) (rty 56) ∈ WSg := List.mem_filter.mpr ⟨ta_2 _ (List.mem_of_getElem? (i := 28) rfl), rfl⟩
set_option maxRecDepth 100000 in
theorem cw_57 : Jvm.Cond.code (nam 57) (cod 57) (mxl 57) (rty 57) ∈ WSg := List.mem_filter.mpr ⟨ta_5 _ (List.mem_of_getElem? (i := 103) rfl), rfl⟩
set_option maxRecDepth 100000 in
theorem cw_58 : Jvm.Cond.code (nam 58) (cod 58) (mxl 58) (rty 58) ∈ WSg := List.mem_filter.mpr ⟨ta_5 _ (List.mem_of_getElem? (i := 33) rfl), rfl⟩
set_option maxRecDepth 100000 in
theorem cw_59 : Jvm.Cond.code (nam 59) (cod 59) (mxl 59) (rty 59) ∈ WSg := List.mem_filter.mpr ⟨ta_5 _ (List.mem_of_getElem? (i := 41) rfl), rfl⟩
set_option maxRecDepth 100000 in
theorem cw_60 : Jvm.Cond.code (nam 60) (cod 60) (mxl 60) (rty 60) ∈ WSg := List.mem_filter.mpr ⟨ta_5 _ (List.mem_of_getElem? (i := 49) rfl), rfl⟩
set_option maxRecDepth 100000 in
theorem cw_61 : Jvm.Cond.code (nam 61) (cod 61) (mxl 61) (rty 61) ∈ WSg := List.mem_filter.mpr ⟨ta_1 _ (List.mem_of_getElem? (i := 77) rfl), rfl⟩
set_option maxRecDepth 100000 in
theorem cw_62 : Jvm.Cond.code (nam 62) (cod 62) (mxl 62) (rty 62) ∈ WSg := List.mem_filter.mpr ⟨ta_5 _ (List.mem_of_getElem? (i := 78) rfl), rfl⟩
set_option maxRecDepth 100000 in
theorem cw_63 : Jvm.Cond.code (nam 63) (cod 63) (mxl 63) (rty 63) ∈ WSg := List.mem_filter.mpr ⟨ta_3 _ (List.mem_of_getElem? (i := 121) rfl), rfl⟩
set_option maxRecDepth 100000 in
theorem cw_64 : Jvm.Cond.code (nam 64) (cod 64) (mxl 64) (rty 64) ∈ WSg := List.mem_filter.mpr ⟨ta_3 _ (List.mem_of_getElem? (i := 196) rfl), rfl⟩
set_option maxRecDepth 100000 in
theorem cw_65 : Jvm.Cond.code (nam 65) (cod 65) (mxl 65) (rty 65) ∈ WSg := List.mem_filter.mpr ⟨ta_3 _ (List.mem_of_getElem? (i := 35) rfl), rfl⟩
set_option maxRecDepth 100000 in
theorem cw_66 : Jvm.Cond.code (nam 66) (cod 66) (mxl 66) (rty 66) ∈ WSg := List.mem_filter.mpr ⟨ta_3 _ (List.mem_of_getElem? (i := 43) rfl), rfl⟩
set_option maxRecDepth 100000 in
theorem cw_67 : Jvm.Cond.code (nam 67) (cod 67) (mxl 67) (rty 67) ∈ WSg := List.mem_filter.mpr ⟨ta_3 _ (List.mem_of_getElem? (i := 150) rfl), rfl⟩
set_option maxRecDepth 100000 in
theorem cw_68 : Jvm.Cond.code (nam 68) (cod 68) (mxl 68) (rty 68) ∈ WSg := List.mem_filter.mpr ⟨ta_5 _ (List.mem_of_getElem? (i := 61) rfl), rfl⟩
set_option maxRecDepth 100000 in
theorem cw_69 : Jvm.Cond.code (nam 69) (cod 69) (mxl 69) (rty 69) ∈ WSg := List.mem_filter.mpr ⟨ta_3 _ (List.mem_of_getElem? (i := 181) rfl), rfl⟩
set_option maxRecDepth 100000 in
theorem cw_70 : Jvm.Cond.code (nam 70) (cod 70) (mxl 70) (rty 70) ∈ WSg := List.mem_filter.mpr ⟨ta_3 _ (List.mem_of_getElem? (i := 185) rfl), rfl⟩
set_option maxRecDepth 100000 in
theorem cw_71 : Jvm.Cond.code (nam 71) (cod 71) (mxl 71) (rty 71) ∈ WSg := List.mem_filter.mpr ⟨ta_3 _ (List.mem_of_getElem? (i := 189) rfl), rfl⟩
set_option maxRecDepth 100000 in
theorem cw_72 : Jvm.Cond.code (nam 72) (cod 72) (mxl 72) (rty 72) ∈ WSg := List.mem_filter.mpr ⟨ta_3 _ (List.mem_of_getElem? (i := 193) rfl), rfl⟩
set_option maxRecDepth 100000 in
theorem cw_73 : Jvm.Cond.code (nam 73) (cod 73) (mxl 73) (rty 73) ∈ WSg := List.mem_filter.mpr ⟨ta_1 _ (List.mem_of_getElem? (i := 83) rfl), rfl⟩
set_option maxRecDepth 100000 in
theorem cw_74 : Jvm.Cond.code (nam 74) (cod 74) (mxl 74) (rty 74) ∈ WSg := List.mem_filter.mpr ⟨ta_5 _ (List.mem_of_getElem? (i := 82) rfl), rfl⟩
set_option maxRecDepth 100000 in
theorem cw_75 : Jvm.Cond.code (nam 75) (cod 75) (mxl 75) (rty 75) ∈ WSg := List.mem_filter.mpr ⟨ta_3 _ (List.mem_of_getElem? (i := 27) rfl), rfl⟩
set_option maxRecDepth 100000 in
theorem cw_76 : Jvm.Cond.code (nam 76) (cod 76) (mxl 76) (rty 76) ∈ WSg := List.mem_filter.mpr ⟨ta_3 _ (List.mem_of_getElem? (i := 39) rfl), rfl⟩
set_option maxRecDepth 100000 in
theorem cw_77 : Jvm.Cond.code (nam 77) (cod 77) (mxl 77) (rty 77) ∈ WSg := List.mem_filter.mpr ⟨ta_3 _ (List.mem_of_getElem? (i := 146) rfl), rfl⟩
set_option maxRecDepth 100000 in
theorem cw_78 : Jvm.Cond.code (nam 78) (cod 78) (mxl 78) (rty 78) ∈ WSg := List.mem_filter.mpr ⟨ta_3 _ (List.mem_of_getElem? (i := 101) rfl), rfl⟩
set_option maxRecDepth 100000 in
theorem cw_79 : Jvm.Cond.code (nam 79) (cod 79) (mxl 79) (rty 79) ∈ WSg := List.mem_filter.mpr ⟨ta_3 _ (List.mem_of_getElem? (i := 113) rfl), rfl⟩
set_option maxRecDepth 100000 in
theorem cw_80 : Jvm.Cond.code (nam 80) (cod 80) (mxl 80) (rty 80) ∈ WSg := List.mem_filter.mpr ⟨ta_3 _ (List.mem_of_getElem? (i := 140) rfl), rfl⟩
set_option maxRecDepth 100000 in
theorem cw_81 : Jvm.Cond.code (nam 81) (cod 81) (mxl 81) (rty 81) ∈ WSg := List.mem_filter.mpr ⟨ta_3 _ (List.mem_of_getElem? (i := 47) rfl), rfl⟩
set_option maxRecDepth 100000 in
theorem cw_82 : Jvm.Cond.code (nam 82) (cod 82) (mxl 82) (rty 82) ∈ WSg := List.mem_filter.mpr ⟨ta_3 _ (List.mem_of_getElem? (i := 50) rfl), rfl⟩
set_option maxRecDepth 100000 in
theorem cw_83 : Jvm.Cond.code (nam 83) (cod 83) (mxl 83) (rty 83) ∈ WSg := List.mem_filter.mpr ⟨ta_3 _ (List.mem_of_getElem? (i := 118) rfl), rfl⟩
set_option maxRecDepth 100000 in
theorem cw_84 : Jvm.Cond.code (nam 84) (cod 84) (mxl 84) (rty 84) ∈ WSg := List.mem_filter.mpr ⟨ta_3 _ (List.mem_of_getElem? (i := 125) rfl), rfl⟩
set_option maxRecDepth 100000 in
theorem cw_85 : Jvm.Cond.code (nam 85) (cod 85) (mxl 85) (rty 85) ∈ WSg := List.mem_filter.mpr ⟨ta_3 _ (List.mem_of_getElem? (i := 129) rfl), rfl⟩
set_option maxRecDepth 100000 in
theorem cw_86 : Jvm.Cond.code (nam 86) (cod 86) (mxl 86) (rty 86) ∈ WSg := List.mem_filter.mpr ⟨ta_3 _ (List.mem_of_getElem? (i := 133) rfl), rfl⟩
set_option maxRecDepth 100000 in
theorem cw_87 : Jvm.Cond.code (nam 87) (cod 87) (mxl 87) (rty 87) ∈ WSg := List.mem_filter.mpr ⟨ta_3 _ (List.mem_of_getElem? (i := 136) rfl), rfl⟩
set_option maxRecDepth 100000 in
theorem cw_88 : Jvm.Cond.code (nam 88) (cod 88) (mxl 88) (rty 88) ∈ WSg := List.mem_filter.mpr ⟨ta_1 _ (List.mem_of_getElem? (i := 205) rfl), rfl⟩
set_option maxRecDepth 100000 in
theorem cw_89 : Jvm.Cond.code (nam 89) (cod 89) (mxl 89) (rty 89) ∈ WSg := List.mem_filter.mpr ⟨ta_5 _ (List.mem_of_getElem? (i := 93) rfl), rfl⟩
set_option maxRecDepth 100000 in
theorem cw_90 : Jvm.Cond.code (nam 90) (cod 90) (mxl 90) (rty 90) ∈ WSg := List.mem_filter.mpr ⟨ta_4 _ (List.mem_of_getElem? (i := 137) rfl), rfl⟩
set_option maxRecDepth 100000 in
theorem cw_91 : Jvm.Cond.code (nam 91) (cod 91) (mxl 91) (rty 91) ∈ WSg := List.mem_filter.mpr ⟨ta_4 _ (List.mem_of_getElem? (i := 155) rfl), rfl⟩
set_option maxRecDepth 100000 in
theorem cw_92 : Jvm.Cond.code (nam 92) (cod 92) (mxl 92) (rty 92) ∈ WSg := List.mem_filter.mpr ⟨ta_4 _ (List.mem_of_getElem? (i := 163) rfl), rfl⟩
set_option maxRecDepth 100000 in
theorem cw_93 : Jvm.Cond.code (nam 93) (cod 93) (mxl 93) (rty 93) ∈ WSg := List.mem_filter.mpr ⟨ta_4 _ (List.mem_of_getElem? (i := 167) rfl), rfl⟩
set_option maxRecDepth 100000 in
theorem cw_94 : Jvm.Cond.code (nam 94) (cod 94) (mxl 94) (rty 94) ∈ WSg := List.mem_filter.mpr ⟨ta_4 _ (List.mem_of_getElem? (i := 175) rfl), rfl⟩
set_option maxRecDepth 100000 in
theorem cw_95 : Jvm.Cond.code (nam 95) (cod 95) (mxl 95) (rty 95) ∈ WSg := List.mem_filter.mpr ⟨ta_4 _ (List.mem_of_getElem? (i := 179) rfl), rfl⟩
set_option maxRecDepth 100000 in
theorem cw_96 : Jvm.Cond.code (nam 96) (cod 96) (mxl 96) (rty 96) ∈ WSg := List.mem_filter.mpr ⟨ta_4 _ (List.mem_of_getElem? (i := 184) rfl), rfl⟩
set_option maxRecDepth 100000 in
theorem cw_97 : Jvm.Cond.code (nam 97) (cod 97) (mxl 97) (rty 97) ∈ WSg := List.mem_filter.mpr ⟨ta_1 _ (List.mem_of_getElem? (i := 34) rfl), rfl⟩
set_option maxRecDepth 100000 in
theorem cw_98 : Jvm.Cond.code (nam 98) (cod 98) (mxl 98) (rty 98) ∈ WSg := List.mem_filter.mpr ⟨ta_2 _ (List.mem_of_getElem? (i := 192) rfl), rfl⟩
set_option maxRecDepth 100000 in
theorem cw_99 : Jvm.Cond.code (nam 99) (cod 99) (mxl 99) (rty 99) ∈ WSg := List.mem_filter.mpr ⟨ta_5 _ (List.mem_of_getElem? (i := 69) rfl), rfl⟩
set_option maxRecDepth 100000 in
theorem cw_100 : Jvm.Cond.code (nam 100) (cod 100) (mxl 100) (rty 100) ∈ WSg := List.mem_filter.mpr ⟨ta_3 _ (List.mem_of_getElem? (i := 171) rfl), rfl⟩
set_option maxRecDepth 100000 in
theorem cw_101 : Jvm.Cond.code (nam 101) (cod 101) (mxl 101) (rty 101) ∈ WSg := List.mem_filter.mpr ⟨ta_3 _ (List.mem_of_getElem? (i := 167) rfl), rfl⟩
set_option maxRecDepth 100000 in
theorem cw_102 : Jvm.Cond.code (nam 102) (cod 102) (mxl 102) (rty 102) ∈ WSg := List.mem_filter.mpr ⟨ta_4 _ (List.mem_of_getElem? (i := 2) rfl), rfl⟩
set_option maxRecDepth 100000 in
theorem cw_103 : Jvm.Cond.code (nam 103) (cod 103) (mxl 103) (rty 103) ∈ WSg := List.mem_filter.mpr ⟨ta_4 _ (List.mem_of_getElem? (i := 54) rfl), rfl⟩
set_option maxRecDepth 100000 in
theorem cw_104 : Jvm.Cond.code (nam 104) (cod 104) (mxl 104) (rty 104) ∈ WSg := List.mem_filter.mpr ⟨ta_5 _ (List.mem_of_getElem? (i := 57) rfl), rfl⟩
set_option maxRecDepth 100000 in
theorem cw_105 : Jvm.Cond.code (nam 105) (cod 105) (mxl 105) (rty 105) ∈ WSg := List.mem_filter.mpr ⟨ta_4 _ (List.mem_of_getElem? (i := 208) rfl), rfl⟩
set_option maxRecDepth 100000 in
theorem cw_106 : Jvm.Cond.code (nam 106) (cod 106) (mxl 106) (rty 106) ∈ WSg := List.mem_filter.mpr ⟨ta_4 _ (List.mem_of_getElem? (i := 204) rfl), rfl⟩
set_option maxRecDepth 100000 in
theorem cw_107 : Jvm.Cond.code (nam 107) (cod 107) (mxl 107) (rty 107) ∈ WSg := List.mem_filter.mpr ⟨ta_4 _ (List.mem_of_getElem? (i := 220) rfl), rfl⟩
set_option maxRecDepth 100000 in
theorem cw_108 : Jvm.Cond.code (nam 108) (cod 108) (mxl 108) (rty 108) ∈ WSg := List.mem_filter.mpr ⟨ta_1 _ (List.mem_of_getElem? (i := 26) rfl), rfl⟩
set_option maxRecDepth 100000 in
theorem cw_109 : Jvm.Cond.code (nam 109) (cod 109) (mxl 109) (rty 109) ∈ WSg := List.mem_filter.mpr ⟨ta_2 _ (List.mem_of_getElem? (i := 185) rfl), rfl⟩
set_option maxRecDepth 100000 in
theorem cw_110 : Jvm.Cond.code (nam 110) (cod 110) (mxl 110) (rty 110) ∈ WSg := List.mem_filter.mpr ⟨ta_2 _ (List.mem_of_getElem? (i := 200) rfl), rfl⟩
set_option maxRecDepth 100000 in
theorem cw_111 : Jvm.Cond.code (nam 111) (cod 111) (mxl 111) (rty 111) ∈ WSg := List.mem_filter.mpr ⟨ta_2 _ (List.mem_of_getElem? (i := 208) rfl), rfl⟩
set_option maxRecDepth 100000 in
theorem cw_112 : Jvm.Cond.code (nam 112) (cod 112) (mxl 112) (rty 112) ∈ WSg := List.mem_filter.mpr ⟨ta_2 _ (List.mem_of_getElem? (i := 227) rfl), rfl⟩
set_option maxRecDepth 100000 in
theorem cw_113 : Jvm.Cond.code (nam 113) (cod 113) (mxl 113) (rty 113) ∈ WSg := List.mem_filter.mpr ⟨ta_2 _ (List.mem_of_getElem? (i := 235) rfl), rfl⟩
set_option maxRecDepth 100000 in
theorem cw_114 : Jvm.Cond.code (nam 114) (cod 114) (mxl 114) (rty 114) ∈ WSg := List.mem_filter.mpr ⟨ta_3 _ (List.mem_of_getElem? (i := 23) rfl), rfl⟩
set_option maxRecDepth 100000 in
theorem cw_115 : Jvm.Cond.code (nam 115) (cod 115) (mxl 115) (rty 115) ∈ WSg := List.mem_filter.mpr ⟨ta_3 _ (List.mem_of_getElem? (i := 31) rfl), rfl⟩
set_option maxRecDepth 100000 in
theorem cw_116 : Jvm.Cond.code (nam 116) (cod 116) (mxl 116) (rty 116) ∈ WSg := List.mem_filter.mpr ⟨ta_3 _ (List.mem_of_getElem? (i := 154) rfl), rfl⟩
set_option maxRecDepth 100000 in
theorem cw_117 : Jvm.Cond.code (nam 117) (cod 117) (mxl 117) (rty 117) ∈ WSg := List.mem_filter.mpr ⟨ta_3 _ (List.mem_of_getElem? (i := 203) rfl), rfl⟩
set_option maxRecDepth 100000 in
theorem cw_118 : Jvm.Cond.code (nam 118) (cod 118) (mxl 118) (rty 118) ∈ WSg := List.mem_filter.mpr ⟨ta_3 _ (List.mem_of_getElem? (i := 209) rfl), rfl⟩
set_option maxRecDepth 100000 in
theorem cw_119 : Jvm.Cond.code (nam 119) (cod 119) (mxl 119) (rty 119) ∈ WSg := List.mem_filter.mpr ⟨ta_3 _ (List.mem_of_getElem? (i := 234) rfl), rfl⟩
set_option maxRecDepth 100000 in
theorem cw_120 : Jvm.Cond.code (nam 120) (cod 120) (mxl 120) (rty 120) ∈ WSg := List.mem_filter.mpr ⟨ta_3 _ (List.mem_of_getElem? (i := 238) rfl), rfl⟩
set_option maxRecDepth 100000 in
theorem cw_121 : Jvm.Cond.code (nam 121) (cod 121) (mxl 121) (rty 121) ∈ WSg := List.mem_filter.mpr ⟨ta_4 _ (List.mem_of_getElem? (i := 59) rfl), rfl⟩
set_option maxRecDepth 100000 in
theorem cw_122 : Jvm.Cond.code (nam 122) (cod 122) (mxl 122) (rty 122) ∈ WSg := List.mem_filter.mpr ⟨ta_4 _ (List.mem_of_getElem? (i := 64) rfl), rfl⟩
set_option maxRecDepth 100000 in
theorem cw_123 : Jvm.Cond.code (nam 123) (cod 123) (mxl 123) (rty 123) ∈ WSg := List.mem_filter.mpr ⟨ta_4 _ (List.mem_of_getElem? (i := 101) rfl), rfl⟩
set_option maxRecDepth 100000 in
theorem cw_124 : Jvm.Cond.code (nam 124) (cod 124) (mxl 124) (rty 124) ∈ WSg := List.mem_filter.mpr ⟨ta_4 _ (List.mem_of_getElem? (i := 114) rfl), rfl⟩
set_option maxRecDepth 100000 in
theorem cw_125 : Jvm.Cond.code (nam 125) (cod 125) (mxl 125) (rty 125) ∈ WSg := List.mem_filter.mpr ⟨ta_4 _ (List.mem_of_getElem? (i := 122) rfl), rfl⟩
set_option maxRecDepth 100000 in
theorem cw_126 : Jvm.Cond.code (nam 126) (cod 126) (mxl 126) (rty 126) ∈ WSg := List.mem_filter.mpr ⟨ta_4 _ (List.mem_of_getElem? (i := 130) rfl), rfl⟩
set_option maxRecDepth 100000 in
theorem cw_127 : Jvm.Cond.code (nam 127) (cod 127) (mxl 127) (rty 127) ∈ WSg := List.mem_filter.mpr ⟨ta_4 _ (List.mem_of_getElem? (i := 142) rfl), rfl⟩
set_option maxRecDepth 100000 in
theorem cw_128 : Jvm.Cond.code (nam 128) (cod 128) (mxl 128) (rty 128) ∈ WSg := List.mem_filter.mpr ⟨ta_4 _ (List.mem_of_getElem? (i := 151) rfl), rfl⟩
set_option maxRecDepth 100000 in
theorem cw_129 : Jvm.Cond.code (nam 129) (cod 129) (mxl 129) (rty 129) ∈ WSg := List.mem_filter.mpr ⟨ta_4 _ (List.mem_of_getElem? (i := 159) rfl), rfl⟩
set_option maxRecDepth 100000 in
theorem cw_130 : Jvm.Cond.code (nam 130) (cod 130) (mxl 130) (rty 130) ∈ WSg := List.mem_filter.mpr ⟨ta_4 _ (List.mem_of_getElem? (i := 171) rfl), rfl⟩
set_option maxRecDepth 100000 in
theorem cw_131 : Jvm.Cond.code (nam 131) (cod 131) (mxl 131) (rty 131) ∈ WSg := List.mem_filter.mpr ⟨ta_4 _ (List.mem_of_getElem? (i := 188) rfl), rfl⟩
set_option maxRecDepth 100000 in
theorem cw_132 : Jvm.Cond.code (nam 132) (cod 132) (mxl 132) (rty 132) ∈ WSg := List.mem_filter.mpr ⟨ta_4 _ (List.mem_of_getElem? (i := 200) rfl), rfl⟩
set_option maxRecDepth 100000 in
theorem cw_133 : Jvm.Cond.code (nam 133) (cod 133) (mxl 133) (rty 133) ∈ WSg := List.mem_filter.mpr ⟨ta_4 _ (List.mem_of_getElem? (i := 216) rfl), rfl⟩
set_option maxRecDepth 100000 in
theorem cw_134 : Jvm.Cond.code (nam 134) (cod 134) (mxl 134) (rty 134) ∈ WSg := List.mem_filter.mpr ⟨ta_4 _ (List.mem_of_getElem? (i := 226) rfl), rfl⟩
set_option maxRecDepth 100000 in
theorem cw_135 : Jvm.Cond.code (nam 135) (cod 135) (mxl 135) (rty 135) ∈ WSg := List.mem_filter.mpr ⟨ta_4 _ (List.mem_of_getElem? (i := 234) rfl), rfl⟩
set_option maxRecDepth 100000 in
theorem cw_136 : Jvm.Cond.code (nam 136) (cod 136) (mxl 136) (rty 136) ∈ WSg := List.mem_filter.mpr ⟨ta_5 _ (List.mem_of_getElem? (i := 6) rfl), rfl⟩
set_option maxRecDepth 100000 in
theorem cw_137 : Jvm.Cond.code (nam 137) (cod 137) (mxl 137) (rty 137) ∈ WSg := List.mem_filter.mpr ⟨ta_5 _ (List.mem_of_getElem? (i := 29) rfl), rfl⟩
set_option maxRecDepth 100000 in
theorem cw_138 : Jvm.Cond.code (nam 138) (cod 138) (mxl 138) (rty 138) ∈ WSg := List.mem_filter.mpr ⟨ta_5 _ (List.mem_of_getElem? (i := 37) rfl), rfl⟩
set_option maxRecDepth 100000 in
theorem cw_139 : Jvm.Cond.code (nam 139) (cod 139) (mxl 139) (rty 139) ∈ WSg := List.mem_filter.mpr ⟨ta_5 _ (List.mem_of_getElem? (i := 45) rfl), rfl⟩
set_option maxRecDepth 100000 in
theorem cw_140 : Jvm.Cond.code (nam 140) (cod 140) (mxl 140) (rty 140) ∈ WSg := List.mem_filter.mpr ⟨ta_5 _ (List.mem_of_getElem? (i := 53) rfl), rfl⟩
set_option maxRecDepth 100000 in
theorem cw_141 : Jvm.Cond.code (nam 141) (cod 141) (mxl 141) (rty 141) ∈ WSg := List.mem_filter.mpr ⟨ta_5 _ (List.mem_of_getElem? (i := 65) rfl), rfl⟩
set_option maxRecDepth 100000 in
theorem cw_142 : Jvm.Cond.code (nam 142) (cod 142) (mxl 142) (rty 142) ∈ WSg := List.mem_filter.mpr ⟨ta_5 _ (List.mem_of_getElem? (i := 108) rfl), rfl⟩
set_option maxRecDepth 100000 in
theorem cw_143 : Jvm.Cond.code (nam 143) (cod 143) (mxl 143) (rty 143) ∈ WSg := List.mem_filter.mpr ⟨ta_5 _ (List.mem_of_getElem? (i := 112) rfl), rfl⟩
set_option maxRecDepth 100000 in
theorem cw_144 : Jvm.Cond.code (nam 144) (cod 144) (mxl 144) (rty 144) ∈ WSg := List.mem_filter.mpr ⟨ta_2 _ (List.mem_of_getElem? (i := 188) rfl), rfl⟩
set_option maxRecDepth 100000 in
theorem cw_145 : Jvm.Cond.code (nam 145) (cod 145) (mxl 145) (rty 145) ∈ WSg := List.mem_filter.mpr ⟨ta_4 _ (List.mem_of_getElem? (i := 133) rfl), rfl⟩
set_option maxRecDepth 100000 in
theorem cw_146 : Jvm.Cond.code (nam 146) (cod 146) (mxl 146) (rty 146) ∈ WSg := List.mem_filter.mpr ⟨ta_3 _ (List.mem_of_getElem? (i := 158) rfl), rfl⟩
set_option maxRecDepth 100000 in
theorem cw_147 : Jvm.Cond.code (nam 147) (cod 147) (mxl 147) (rty 147) ∈ WSg := List.mem_filter.mpr ⟨ta_3 _ (List.mem_of_getElem? (i := 213) rfl), rfl⟩
set_option maxRecDepth 100000 in
theorem cw_148 : Jvm.Cond.code (nam 148) (cod 148) (mxl 148) (rty 148) ∈ WSg := List.mem_filter.mpr ⟨ta_5 _ (List.mem_of_getElem? (i := 193) rfl), rfl⟩
set_option maxRecDepth 100000 in
theorem cw_149 : Jvm.Cond.code (nam 149) (cod 149) (mxl 149) (rty 149) ∈ WSg := List.mem_filter.mpr ⟨ta_5 _ (List.mem_of_getElem? (i := 121) rfl), rfl⟩
set_option maxRecDepth 100000 in
theorem cw_150 : Jvm.Cond.code (nam 150) (cod 150) (mxl 150) (rty 150) ∈ WSg := List.mem_filter.mpr ⟨ta_5 _ (List.mem_of_getElem? (i := 190) rfl), rfl⟩
set_option maxRecDepth 100000 in
theorem cw_151 : Jvm.Cond.code (nam 151) (cod 151) (mxl 151) (rty 151) ∈ WSg := List.mem_filter.mpr ⟨ta_5 _ (List.mem_of_getElem? (i := 205) rfl), rfl⟩
set_option maxRecDepth 100000 in
theorem cw_152 : Jvm.Cond.code (nam 152) (cod 152) (mxl 152) (rty 152) ∈ WSg := List.mem_filter.mpr ⟨ta_6 _ (List.mem_of_getElem? (i := 66) rfl), rfl⟩
set_option maxRecDepth 100000 in
theorem cw_153 : Jvm.Cond.code (nam 153) (cod 153) (mxl 153) (rty 153) ∈ WSg := List.mem_filter.mpr ⟨ta_5 _ (List.mem_of_getElem? (i := 209) rfl), rfl⟩
set_option maxRecDepth 100000 in
theorem cw_154 : Jvm.Cond.code (nam 154) (cod 154) (mxl 154) (rty 154) ∈ WSg := List.mem_filter.mpr ⟨ta_6 _ (List.mem_of_getElem? (i := 54) rfl), rfl⟩
set_option maxRecDepth 100000 in
theorem cw_155 : Jvm.Cond.code (nam 155) (cod 155) (mxl 155) (rty 155) ∈ WSg := List.mem_filter.mpr ⟨ta_5 _ (List.mem_of_getElem? (i := 197) rfl), rfl⟩
set_option maxRecDepth 100000 in
theorem cw_156 : Jvm.Cond.code (nam 156) (cod 156) (mxl 156) (rty 156) ∈ WSg := List.mem_filter.mpr ⟨ta_6 _ (List.mem_of_getElem? (i := 3) rfl), rfl⟩
set_option maxRecDepth 100000 in
theorem cw_157 : Jvm.Cond.code (nam 157) (cod 157) (mxl 157) (rty 157) ∈ WSg := List.mem_filter.mpr ⟨ta_5 _ (List.mem_of_getElem? (i := 187) rfl), rfl⟩
set_option maxRecDepth 100000 in
theorem cw_158 : Jvm.Cond.code (nam 158) (cod 158) (mxl 158) (rty 158) ∈ WSg := List.mem_filter.mpr ⟨ta_5 _ (List.mem_of_getElem? (i := 201) rfl), rfl⟩
set_option maxRecDepth 100000 in
theorem cw_159 : Jvm.Cond.code (nam 159) (cod 159) (mxl 159) (rty 159) ∈ WSg := List.mem_filter.mpr ⟨ta_5 _ (List.mem_of_getElem? (i := 219) rfl), rfl⟩
set_option maxRecDepth 100000 in
theorem cw_160 : Jvm.Cond.code (nam 160) (cod 160) (mxl 160) (rty 160) ∈ WSg := List.mem_filter.mpr ⟨ta_5 _ (List.mem_of_getElem? (i := 216) rfl), rfl⟩
set_option maxRecDepth 100000 in
theorem cw_161 : Jvm.Cond.code (nam 161) (cod 161) (mxl 161) (rty 161) ∈ WSg := List.mem_filter.mpr ⟨ta_5 _ (List.mem_of_getElem? (i := 213) rfl), rfl⟩
set_option maxRecDepth 100000 in
theorem cw_162 : Jvm.Cond.code (nam 162) (cod 162) (mxl 162) (rty 162) ∈ WSg := List.mem_filter.mpr ⟨ta_5 _ (List.mem_of_getElem? (i := 223) rfl), rfl⟩
set_option maxRecDepth 100000 in
theorem cw_163 : Jvm.Cond.code (nam 163) (cod 163) (mxl 163) (rty 163) ∈ WSg := List.mem_filter.mpr ⟨ta_5 _ (List.mem_of_getElem? (i := 231) rfl), rfl⟩
set_option maxRecDepth 100000 in
theorem cw_164 : Jvm.Cond.code (nam 164) (cod 164) (mxl 164) (rty 164) ∈ WSg := List.mem_filter.mpr ⟨ta_5 _ (List.mem_of_getElem? (i := 227) rfl), rfl⟩
set_option maxRecDepth 100000 in
theorem cw_165 : Jvm.Cond.code (nam 165) (cod 165) (mxl 165) (rty 165) ∈ WSg := List.mem_filter.mpr ⟨ta_6 _ (List.mem_of_getElem? (i := 15) rfl), rfl⟩
set_option maxRecDepth 100000 in
theorem cw_166 : Jvm.Cond.code (nam 166) (cod 166) (mxl 166) (rty 166) ∈ WSg := List.mem_filter.mpr ⟨ta_6 _ (List.mem_of_getElem? (i := 23) rfl), rfl⟩
set_option maxRecDepth 100000 in
theorem cw_167 : Jvm.Cond.code (nam 167) (cod 167) (mxl 167) (rty 167) ∈ WSg := List.mem_filter.mpr ⟨ta_6 _ (List.mem_of_getElem? (i := 19) rfl), rfl⟩
set_option maxRecDepth 100000 in
theorem cw_168 : Jvm.Cond.code (nam 168) (cod 168) (mxl 168) (rty 168) ∈ WSg := List.mem_filter.mpr ⟨ta_6 _ (List.mem_of_getElem? (i := 11) rfl), rfl⟩
set_option maxRecDepth 100000 in
theorem cw_169 : Jvm.Cond.code (nam 169) (cod 169) (mxl 169) (rty 169) ∈ WSg := List.mem_filter.mpr ⟨ta_6 _ (List.mem_of_getElem? (i := 30) rfl), rfl⟩
set_option maxRecDepth 100000 in
theorem cw_170 : Jvm.Cond.code (nam 170) (cod 170) (mxl 170) (rty 170) ∈ WSg := List.mem_filter.mpr ⟨ta_6 _ (List.mem_of_getElem? (i := 27) rfl), rfl⟩
set_option maxRecDepth 100000 in
theorem cw_171 : Jvm.Cond.code (nam 171) (cod 171) (mxl 171) (rty 171) ∈ WSg := List.mem_filter.mpr ⟨ta_6 _ (List.mem_of_getElem? (i := 46) rfl), rfl⟩
set_option maxRecDepth 100000 in
theorem cw_172 : Jvm.Cond.code (nam 172) (cod 172) (mxl 172) (rty 172) ∈ WSg := List.mem_filter.mpr ⟨ta_6 _ (List.mem_of_getElem? (i := 50) rfl), rfl⟩
set_option maxRecDepth 100000 in
theorem cw_173 : Jvm.Cond.code (nam 173) (cod 173) (mxl 173) (rty 173) ∈ WSg := List.mem_filter.mpr ⟨ta_6 _ (List.mem_of_getElem? (i := 42) rfl), rfl⟩
set_option maxRecDepth 100000 in
theorem cw_174 : Jvm.Cond.code (nam 174) (cod 174) (mxl 174) (rty 174) ∈ WSg := List.mem_filter.mpr ⟨ta_6 _ (List.mem_of_getElem? (i := 38) rfl), rfl⟩
set_option maxRecDepth 100000 in
theorem cw_175 : Jvm.Cond.code (nam 175) (cod 175) (mxl 175) (rty 175) ∈ WSg := List.mem_filter.mpr ⟨ta_6 _ (List.mem_of_getElem? (i := 34) rfl), rfl⟩
set_option maxRecDepth 100000 in
theorem cw_176 : Jvm.Cond.code (nam 176) (cod 176) (mxl 176) (rty 176) ∈ WSg := List.mem_filter.mpr ⟨ta_6 _ (List.mem_of_getElem? (i := 7) rfl), rfl⟩
set_option maxRecDepth 100000 in
theorem cw_177 : Jvm.Cond.code (nam 177) (cod 177) (mxl 177) (rty 177) ∈ WSg := List.mem_filter.mpr ⟨ta_5 _ (List.mem_of_getElem? (i := 235) rfl), rfl⟩
set_option maxRecDepth 100000 in
theorem cw_178 : Jvm.Cond.code (nam 178) (cod 178) (mxl 178) (rty 178) ∈ WSg := List.mem_filter.mpr ⟨ta_6 _ (List.mem_of_getElem? (i := 0) rfl), rfl⟩
set_option maxRecDepth 100000 in
theorem cw_179 : Jvm.Cond.code (nam 179) (cod 179) (mxl 179) (rty 179) ∈ WSg := List.mem_filter.mpr ⟨ta_6 _ (List.mem_of_getElem? (i := 81) rfl), rfl⟩
set_option maxRecDepth 100000 in
theorem cw_180 : Jvm.Cond.code (nam 180) (cod 180) (mxl 180) (rty 180) ∈ WSg := List.mem_filter.mpr ⟨ta_6 _ (List.mem_of_getElem? (i := 78) rfl), rfl⟩
set_option maxRecDepth 100000 in
theorem cw_181 : Jvm.Cond.code (nam 181) (cod 181) (mxl 181) (rty 181) ∈ WSg := List.mem_filter.mpr ⟨ta_6 _ (List.mem_of_getElem? (i := 74) rfl), rfl⟩
set_option maxRecDepth 100000 in
theorem cw_182 : Jvm.Cond.code (nam 182) (cod 182) (mxl 182) (rty 182) ∈ WSg := List.mem_filter.mpr ⟨ta_6 _ (List.mem_of_getElem? (i := 70) rfl), rfl⟩
set_option maxRecDepth 100000 in
theorem cw_183 : Jvm.Cond.code (nam 183) (cod 183) (mxl 183) (rty 183) ∈ WSg := List.mem_filter.mpr ⟨ta_6 _ (List.mem_of_getElem? (i := 62) rfl), rfl⟩
set_option maxRecDepth 100000 in
theorem cw_184 : Jvm.Cond.code (nam 184) (cod 184) (mxl 184) (rty 184) ∈ WSg := List.mem_filter.mpr ⟨ta_6 _ (List.mem_of_getElem? (i := 58) rfl), rfl⟩
set_option maxRecDepth 100000 in
theorem cw_185 : Jvm.Cond.code (nam 185) (cod 185) (mxl 185) (rty 185) ∈ WSg := List.mem_filter.mpr ⟨ta_6 _ (List.mem_of_getElem? (i := 85) rfl), rfl⟩
set_option maxRecDepth 100000 in
theorem cw_186 : Jvm.Cond.code (nam 186) (cod 186) (mxl 186) (rty 186) ∈ WSg := List.mem_filter.mpr ⟨ta_6 _ (List.mem_of_getElem? (i := 93) rfl), rfl⟩
set_option maxRecDepth 100000 in
theorem cw_187 : Jvm.Cond.code (nam 187) (cod 187) (mxl 187) (rty 187) ∈ WSg := List.mem_filter.mpr ⟨ta_6 _ (List.mem_of_getElem? (i := 89) rfl), rfl⟩
set_option maxRecDepth 100000 in
theorem cw_188 : Jvm.Cond.code (nam 188) (cod 188) (mxl 188) (rty 188) ∈ WSg := List.mem_filter.mpr ⟨ta_6 _ (List.mem_of_getElem? (i := 97) rfl), rfl⟩
set_option maxRecDepth 100000 in
theorem cw_189 : Jvm.Cond.code (nam 189) (cod 189) (mxl 189) (rty 189) ∈ WSg := List.mem_filter.mpr ⟨ta_6 _ (List.mem_of_getElem? (i := 109) rfl), rfl⟩
set_option maxRecDepth 100000 in
theorem cw_190 : Jvm.Cond.code (nam 190) (cod 190) (mxl 190) (rty 190) ∈ WSg := List.mem_filter.mpr ⟨ta_6 _ (List.mem_of_getElem? (i := 105) rfl), rfl⟩
set_option maxRecDepth 100000 in
theorem cw_191 : Jvm.Cond.code (nam 191) (cod 191) (mxl 191) (rty 191) ∈ WSg := List.mem_filter.mpr ⟨ta_6 _ (List.mem_of_getElem? (i := 113) rfl), rfl⟩
set_option maxRecDepth 100000 in
theorem cw_192 : Jvm.Cond.code (nam 192) (cod 192) (mxl 192) (rty 192) ∈ WSg := List.mem_filter.mpr ⟨ta_6 _ (List.mem_of_getElem? (i := 117) rfl), rfl⟩
set_option maxRecDepth 100000 in
theorem cw_193 : Jvm.Cond.code (nam 193) (cod 193) (mxl 193) (rty 193) ∈ WSg := List.mem_filter.mpr ⟨ta_6 _ (List.mem_of_getElem? (i := 180) rfl), rfl⟩
set_option maxRecDepth 100000 in
theorem cw_194 : Jvm.Cond.code (nam 194) (cod 194) (mxl 194) (rty 194) ∈ WSg := List.mem_filter.mpr ⟨ta_6 _ (List.mem_of_getElem? (i := 125) rfl), rfl⟩
set_option maxRecDepth 100000 in
theorem cw_195 : Jvm.Cond.code (nam 195) (cod 195) (mxl 195) (rty 195) ∈ WSg := List.mem_filter.mpr ⟨ta_6 _ (List.mem_of_getElem? (i := 121) rfl), rfl⟩
set_option maxRecDepth 100000 in
theorem cw_196 : Jvm.Cond.code (nam 196) (cod 196) (mxl 196) (rty 196) ∈ WSg := List.mem_filter.mpr ⟨ta_6 _ (List.mem_of_getElem? (i := 132) rfl), rfl⟩
set_option maxRecDepth 100000 in
theorem cw_197 : Jvm.Cond.code (nam 197) (cod 197) (mxl 197) (rty 197) ∈ WSg := List.mem_filter.mpr ⟨ta_6 _ (List.mem_of_getElem? (i := 129) rfl), rfl⟩
set_option maxRecDepth 100000 in
theorem cw_198 : Jvm.Cond.code (nam 198) (cod 198) (mxl 198) (rty 198) ∈ WSg := List.mem_filter.mpr ⟨ta_6 _ (List.mem_of_getElem? (i := 101) rfl), rfl⟩
set_option maxRecDepth 100000 in
theorem cw_199 : Jvm.Cond.code (nam 199) (cod 199) (mxl 199) (rty 199) ∈ WSg := List.mem_filter.mpr ⟨ta_6 _ (List.mem_of_getElem? (i := 139) rfl), rfl⟩
set_option maxRecDepth 100000 in
theorem cw_200 : Jvm.Cond.code (nam 200) (cod 200) (mxl 200) (rty 200) ∈ WSg := List.mem_filter.mpr ⟨ta_6 _ (List.mem_of_getElem? (i := 136) rfl), rfl⟩
set_option maxRecDepth 100000 in
theorem cw_201 : Jvm.Cond.code (nam 201) (cod 201) (mxl 201) (rty 201) ∈ WSg := List.mem_filter.mpr ⟨ta_6 _ (List.mem_of_getElem? (i := 168) rfl), rfl⟩
set_option maxRecDepth 100000 in
theorem cw_202 : Jvm.Cond.code (nam 202) (cod 202) (mxl 202) (rty 202) ∈ WSg := List.mem_filter.mpr ⟨ta_6 _ (List.mem_of_getElem? (i := 164) rfl), rfl⟩
set_option maxRecDepth 100000 in
theorem cw_203 : Jvm.Cond.code (nam 203) (cod 203) (mxl 203) (rty 203) ∈ WSg := List.mem_filter.mpr ⟨ta_6 _ (List.mem_of_getElem? (i := 160) rfl), rfl⟩
set_option maxRecDepth 100000 in
theorem cw_204 : Jvm.Cond.code (nam 204) (cod 204) (mxl 204) (rty 204) ∈ WSg := List.mem_filter.mpr ⟨ta_6 _ (List.mem_of_getElem? (i := 172) rfl), rfl⟩
set_option maxRecDepth 100000 in
theorem cw_205 : Jvm.Cond.code (nam 205) (cod 205) (mxl 205) (rty 205) ∈ WSg := List.mem_filter.mpr ⟨ta_6 _ (List.mem_of_getElem? (i := 156) rfl), rfl⟩
set_option maxRecDepth 100000 in
theorem cw_206 : Jvm.Cond.code (nam 206) (cod 206) (mxl 206) (rty 206) ∈ WSg := List.mem_filter.mpr ⟨ta_6 _ (List.mem_of_getElem? (i := 176) rfl), rfl⟩
set_option maxRecDepth 100000 in
theorem cw_207 : Jvm.Cond.code (nam 207) (cod 207) (mxl 207) (rty 207) ∈ WSg := List.mem_filter.mpr ⟨ta_6 _ (List.mem_of_getElem? (i := 148) rfl), rfl⟩
set_option maxRecDepth 100000 in
theorem cw_208 : Jvm.Cond.code (nam 208) (cod 208) (mxl 208) (rty 208) ∈ WSg := List.mem_filter.mpr ⟨ta_6 _ (List.mem_of_getElem? (i := 152) rfl), rfl⟩
set_option maxRecDepth 100000 in
theorem cw_209 : Jvm.Cond.code (nam 209) (cod 209) (mxl 209) (rty 209) ∈ WSg := List.mem_filter.mpr ⟨ta_6 _ (List.mem_of_getElem? (i := 143) rfl), rfl⟩
set_option maxRecDepth 100000 in
theorem cw_210 : Jvm.Cond.code (nam 210) (cod 210) (mxl 210) (rty 210) ∈ WSg := List.mem_filter.mpr ⟨ta_6 _ (List.mem_of_getElem? (i := 184) rfl), rfl⟩
set_option maxRecDepth 100000 in
theorem cw_211 : Jvm.Cond.code (nam 211) (cod 211) (mxl 211) (rty 211) ∈ WSg := List.mem_filter.mpr ⟨ta_6 _ (List.mem_of_getElem? (i := 192) rfl), rfl⟩
set_option maxRecDepth 100000 in
theorem cw_212 : Jvm.Cond.code (nam 212) (cod 212) (mxl 212) (rty 212) ∈ WSg := List.mem_filter.mpr ⟨ta_6 _ (List.mem_of_getElem? (i := 188) rfl), rfl⟩
set_option maxRecDepth 100000 in
theorem cw_213 : Jvm.Cond.code (nam 213) (cod 213) (mxl 213) (rty 213) ∈ WSg := List.mem_filter.mpr ⟨ta_6 _ (List.mem_of_getElem? (i := 196) rfl), rfl⟩
set_option maxRecDepth 100000 in
theorem cw_214 : Jvm.Cond.code (nam 214) (cod 214) (mxl 214) (rty 214) ∈ WSg := List.mem_filter.mpr ⟨ta_6 _ (List.mem_of_getElem? (i := 203) rfl), rfl⟩
set_option maxRecDepth 100000 in
theorem cw_215 : Jvm.Cond.code (nam 215) (cod 215) (mxl 215) (rty 215) ∈ WSg := List.mem_filter.mpr ⟨ta_6 _ (List.mem_of_getElem? (i := 200) rfl), rfl⟩
set_option maxRecDepth 100000 in
theorem cw_216 : Jvm.Cond.code (nam 216) (cod 216) (mxl 216) (rty 216) ∈ WSg := List.mem_filter.mpr ⟨ta_6 _ (List.mem_of_getElem? (i := 211) rfl), rfl⟩
set_option maxRecDepth 100000 in
theorem cw_217 : Jvm.Cond.code (nam 217) (cod 217) (mxl 217) (rty 217) ∈ WSg := List.mem_filter.mpr ⟨ta_6 _ (List.mem_of_getElem? (i := 207) rfl), rfl⟩
set_option maxRecDepth 100000 in
theorem cw_218 : Jvm.Cond.code (nam 218) (cod 218) (mxl 218) (rty 218) ∈ WSg := List.mem_filter.mpr ⟨ta_6 _ (List.mem_of_getElem? (i := 215) rfl), rfl⟩
set_option maxRecDepth 100000 in
theorem cw_219 : Jvm.Cond.code (nam 219) (cod 219) (mxl 219) (rty 219) ∈ WSg := List.mem_filter.mpr ⟨ta_6 _ (List.mem_of_getElem? (i := 219) rfl), rfl⟩
set_option maxRecDepth 100000 in
theorem cw_220 : Jvm.Cond.code (nam 220) (cod 220) (mxl 220) (rty 220) ∈ WSg := List.mem_filter.mpr ⟨ta_6 _ (List.mem_of_getElem? (i := 227) rfl), rfl⟩
set_option maxRecDepth 100000 in
theorem cw_221 : Jvm.Cond.code (nam 221) (cod 221) (mxl 221) (rty 221) ∈ WSg := List.mem_filter.mpr ⟨ta_6 _ (List.mem_of_getElem? (i := 223) rfl), rfl⟩
set_option maxRecDepth 100000 in
theorem cw_222 : Jvm.Cond.code (nam 222) (cod 222) (mxl 222) (rty 222) ∈ WSg := List.mem_filter.mpr ⟨ta_6 _ (List.mem_of_getElem? (i := 231) rfl), rfl⟩
set_option maxRecDepth 100000 in
theorem cw_223 : Jvm.Cond.code (nam 223) (cod 223) (mxl 223) (rty 223) ∈ WSg := List.mem_filter.mpr ⟨ta_6 _ (List.mem_of_getElem? (i := 235) rfl), rfl⟩
set_option maxRecDepth 100000 in
theorem cw_224 : Jvm.Cond.code (nam 224) (cod 224) (mxl 224) (rty 224) ∈ WSg := List.mem_filter.mpr ⟨ta_7 _ (List.mem_of_getElem? (i := 3) rfl), rfl⟩
set_option maxRecDepth 100000 in
theorem cw_225 : Jvm.Cond.code (nam 225) (cod 225) (mxl 225) (rty 225) ∈ WSg := List.mem_filter.mpr ⟨ta_6 _ (List.mem_of_getElem? (i := 239) rfl), rfl⟩
set_option maxRecDepth 100000 in
theorem cw_226 : Jvm.Cond.code (nam 226) (cod 226) (mxl 226) (rty 226) ∈ WSg := List.mem_filter.mpr ⟨ta_7 _ (List.mem_of_getElem? (i := 7) rfl), rfl⟩
set_option maxRecDepth 100000 in
theorem cw_227 : Jvm.Cond.code (nam 227) (cod 227) (mxl 227) (rty 227) ∈ WSg := List.mem_filter.mpr ⟨ta_7 _ (List.mem_of_getElem? (i := 11) rfl), rfl⟩
set_option maxRecDepth 100000 in
theorem cw_228 : Jvm.Cond.code (nam 228) (cod 228) (mxl 228) (rty 228) ∈ WSg := List.mem_filter.mpr ⟨ta_7 _ (List.mem_of_getElem? (i := 15) rfl), rfl⟩
set_option maxRecDepth 100000 in
theorem cw_229 : Jvm.Cond.code (nam 229) (cod 229) (mxl 229) (rty 229) ∈ WSg := List.mem_filter.mpr ⟨ta_7 _ (List.mem_of_getElem? (i := 23) rfl), rfl⟩
set_option maxRecDepth 100000 in
theorem cw_230 : Jvm.Cond.code (nam 230) (cod 230) (mxl 230) (rty 230) ∈ WSg := List.mem_filter.mpr ⟨ta_7 _ (List.mem_of_getElem? (i := 28) rfl), rfl⟩
set_option maxRecDepth 100000 in
theorem cw_231 : Jvm.Cond.code (nam 231) (cod 231) (mxl 231) (rty 231) ∈ WSg := List.mem_filter.mpr ⟨ta_7 _ (List.mem_of_getElem? (i := 19) rfl), rfl⟩
set_option maxRecDepth 100000 in
theorem cw_232 : Jvm.Cond.code (nam 232) (cod 232) (mxl 232) (rty 232) ∈ WSg := List.mem_filter.mpr ⟨ta_7 _ (List.mem_of_getElem? (i := 32) rfl), rfl⟩
set_option maxRecDepth 100000 in
theorem cw_233 : Jvm.Cond.code (nam 233) (cod 233) (mxl 233) (rty 233) ∈ WSg := List.mem_filter.mpr ⟨ta_7 _ (List.mem_of_getElem? (i := 36) rfl), rfl⟩
set_option maxRecDepth 100000 in
theorem cw_234 : Jvm.Cond.code (nam 234) (cod 234) (mxl 234) (rty 234) ∈ WSg := List.mem_filter.mpr ⟨ta_7 _ (List.mem_of_getElem? (i := 40) rfl), rfl⟩
set_option maxRecDepth 100000 in
theorem cw_235 : Jvm.Cond.code (nam 235) (cod 235) (mxl 235) (rty 235) ∈ WSg := List.mem_filter.mpr ⟨ta_7 _ (List.mem_of_getElem? (i := 48) rfl), rfl⟩
set_option maxRecDepth 100000 in
theorem cw_236 : Jvm.Cond.code (nam 236) (cod 236) (mxl 236) (rty 236) ∈ WSg := List.mem_filter.mpr ⟨ta_7 _ (List.mem_of_getElem? (i := 44) rfl), rfl⟩
set_option maxRecDepth 100000 in
theorem cw_237 : Jvm.Cond.code (nam 237) (cod 237) (mxl 237) (rty 237) ∈ WSg := List.mem_filter.mpr ⟨ta_7 _ (List.mem_of_getElem? (i := 52) rfl), rfl⟩
set_option maxRecDepth 100000 in
theorem cw_238 : Jvm.Cond.code (nam 238) (cod 238) (mxl 238) (rty 238) ∈ WSg := List.mem_filter.mpr ⟨ta_7 _ (List.mem_of_getElem? (i := 56) rfl), rfl⟩
set_option maxRecDepth 100000 in
theorem cw_239 : Jvm.Cond.code (nam 239) (cod 239) (mxl 239) (rty 239) ∈ WSg := List.mem_filter.mpr ⟨ta_7 _ (List.mem_of_getElem? (i := 64) rfl), rfl⟩
set_option maxRecDepth 100000 in
theorem cw_240 : Jvm.Cond.code (nam 240) (cod 240) (mxl 240) (rty 240) ∈ WSg := List.mem_filter.mpr ⟨ta_7 _ (List.mem_of_getElem? (i := 60) rfl), rfl⟩
set_option maxRecDepth 100000 in
theorem cw_241 : Jvm.Cond.code (nam 241) (cod 241) (mxl 241) (rty 241) ∈ WSg := List.mem_filter.mpr ⟨ta_2 _ (List.mem_of_getElem? (i := 214) rfl), rfl⟩
set_option maxRecDepth 100000 in
theorem cw_242 : Jvm.Cond.code (nam 242) (cod 242) (mxl 242) (rty 242) ∈ WSg := List.mem_filter.mpr ⟨ta_4 _ (List.mem_of_getElem? (i := 41) rfl), rfl⟩
set_option maxRecDepth 100000 in
theorem cw_243 : Jvm.Cond.code (nam 243) (cod 243) (mxl 243) (rty 243) ∈ WSg := List.mem_filter.mpr ⟨ta_3 _ (List.mem_of_getElem? (i := 105) rfl), rfl⟩
set_option maxRecDepth 100000 in
theorem cw_244 : Jvm.Cond.code (nam 244) (cod 244) (mxl 244) (rty 244) ∈ WSg := List.mem_filter.mpr ⟨ta_3 _ (List.mem_of_getElem? (i := 61) rfl), rfl⟩
set_option maxRecDepth 100000 in
theorem cw_245 : Jvm.Cond.code (nam 245) (cod 245) (mxl 245) (rty 245) ∈ WSg := List.mem_filter.mpr ⟨ta_3 _ (List.mem_of_getElem? (i := 109) rfl), rfl⟩
set_option maxRecDepth 100000 in
theorem cw_246 : Jvm.Cond.code (nam 246) (cod 246) (mxl 246) (rty 246) ∈ WSg := List.mem_filter.mpr ⟨ta_3 _ (List.mem_of_getElem? (i := 65) rfl), rfl⟩
set_option maxRecDepth 100000 in
theorem cw_247 : Jvm.Cond.code (nam 247) (cod 247) (mxl 247) (rty 247) ∈ WSg := List.mem_filter.mpr ⟨ta_3 _ (List.mem_of_getElem? (i := 73) rfl), rfl⟩
set_option maxRecDepth 100000 in
theorem cw_248 : Jvm.Cond.code (nam 248) (cod 248) (mxl 248) (rty 248) ∈ WSg := List.mem_filter.mpr ⟨ta_3 _ (List.mem_of_getElem? (i := 70) rfl), rfl⟩
set_option maxRecDepth 100000 in
theorem cw_249 : Jvm.Cond.code (nam 249) (cod 249) (mxl 249) (rty 249) ∈ WSg := List.mem_filter.mpr ⟨ta_3 _ (List.mem_of_getElem? (i := 78) rfl), rfl⟩
def cwP (m : Nat) : Prop := Jvm.Cond.code (nam m) (cod m) (mxl m) (rty m) ∈ WSg
theorem cwL_0 : ∀ m ∈ ([1, 2, 3, 4, 5, 6, 7, 8, 9, 10, 11, 12, 13, 14, 15, 16, 17, 18, 19, 20, 21, 22, 23, 24, 25, 26, 27, 28, 29, 30, 31, 32] : List Nat), cwP m := List.forall_mem_cons.mpr ⟨cw_1, List.forall_mem_cons.mpr ⟨cw_2, List.forall_mem_cons.mpr ⟨cw_3, List.forall_mem_cons.mpr ⟨cw_4, List.forall_mem_cons.mpr ⟨cw_5, List.forall_mem_cons.mpr ⟨cw_6, List.forall_mem_cons.mpr ⟨cw_7, List.forall_mem_cons.mpr ⟨cw_8, List.forall_mem_cons.mpr ⟨cw_9, List.forall_mem_cons.mpr ⟨cw_10, List.forall_mem_cons.mpr ⟨cw_11, List.forall_mem_cons.mpr ⟨cw_12, List.forall_mem_cons.mpr ⟨cw_13, List.forall_mem_cons.mpr ⟨cw_14, List.forall_mem_cons.mpr ⟨cw_15, List.forall_mem_cons.mpr ⟨cw_16, List.forall_mem_cons.mpr ⟨cw_17, List.forall_mem_cons.mpr ⟨cw_18, List.forall_mem_cons.mpr ⟨cw_19, List.forall_mem_cons.mpr ⟨cw_20, List.forall_mem_cons.mpr ⟨cw_21, List.forall_mem_cons.mpr ⟨cw_22, List.forall_mem_cons.mpr ⟨cw_23, List.forall_mem_cons.mpr ⟨cw_24, List.forall_mem_cons.mpr ⟨cw_25, List.forall_mem_cons.mpr ⟨cw_26, List.forall_mem_cons.mpr ⟨cw_27, List.forall_mem_cons.mpr ⟨cw_28, List.forall_mem_cons.mpr ⟨cw_29, List.forall_mem_cons.mpr ⟨cw_30, List.forall_mem_cons.mpr ⟨cw_31, List.forall_mem_cons.mpr ⟨cw_32, fun _ h => absurd h List.not_mem_nil⟩⟩⟩⟩⟩⟩⟩⟩⟩⟩⟩⟩⟩⟩⟩⟩⟩⟩⟩⟩⟩⟩⟩⟩⟩⟩⟩⟩⟩⟩⟩⟩
theorem cwL_1 : ∀ m ∈ ([33, 34, 35, 36, 37, 38, 39, 40, 41, 42, 43, 44, 45, 46, 47, 48, 49, 50, 51, 52, 53, 54, 55, 56, 57, 58, 59, 60, 61, 62, 63, 64] : List Nat), cwP m := List.forall_mem_cons.mpr ⟨cw_33, List.forall_mem_cons.mpr ⟨cw_34, List.forall_mem_cons.mpr ⟨cw_35, List.forall_mem_cons.mpr ⟨cw_36, List.forall_mem_cons.mpr ⟨cw_37, List.forall_mem_cons.mpr ⟨cw_38, List.forall_mem_cons.mpr ⟨cw_39, List.forall_mem_cons.mpr ⟨cw_40, List.forall_mem_cons.mpr ⟨cw_41, List.forall_mem_cons.mpr ⟨cw_42, List.forall_mem_cons.mpr ⟨cw_43, List.forall_mem_cons.mpr ⟨cw_44, List.forall_mem_cons.mpr ⟨cw_45, List.forall_mem_cons.mpr ⟨cw_46, List.forall_mem_cons.mpr ⟨cw_47, List.forall_mem_cons.mpr ⟨cw_48, List.forall_mem_cons.mpr ⟨cw_49, List.forall_mem_cons.mpr ⟨cw_50, List.forall_mem_cons.mpr ⟨cw_51, List.forall_mem_cons.mpr ⟨cw_52, List.forall_mem_cons.mpr ⟨cw_53, List.forall_mem_cons.mpr ⟨cw_54, List.forall_mem_cons.mpr ⟨cw_55, List.forall_mem_cons.mpr ⟨cw_56, List.forall_mem_cons.mpr ⟨cw_57, List.forall_mem_cons.mpr ⟨cw_58, List.forall_mem_cons.mpr ⟨cw_59, List.forall_mem_cons.mpr ⟨cw_60, List.forall_mem_cons.mpr ⟨cw_61, List.forall_mem_cons.mpr ⟨cw_62, List.forall_mem_cons.mpr ⟨cw_63, List.forall_mem_cons.mpr ⟨cw_64, fun _ h => absurd h List.not_mem_nil⟩⟩⟩⟩⟩⟩⟩⟩⟩⟩⟩⟩⟩⟩⟩⟩⟩⟩⟩⟩⟩⟩⟩⟩⟩⟩⟩⟩⟩⟩⟩⟩
theorem cwL_2 : ∀ m ∈ ([65, 66, 67, 68, 69, 70, 71, 72, 73, 74, 75, 76, 77, 78, 79, 80, 81, 82, 83, 84, 85, 86, 87, 88, 89, 90, 91, 92, 93, 94, 95, 96] : List Nat), cwP m := List.forall_mem_cons.mpr ⟨cw_65, List.forall_mem_cons.mpr ⟨cw_66, List.forall_mem_cons.mpr ⟨cw_67, List.forall_mem_cons.mpr ⟨cw_68, List.forall_mem_cons.mpr ⟨cw_69, List.forall_mem_cons.mpr ⟨cw_70, List.forall_mem_cons.mpr ⟨cw_71, List.forall_mem_cons.mpr ⟨cw_72, List.forall_mem_cons.mpr ⟨cw_73, List.forall_mem_cons.mpr ⟨cw_74, List.forall_mem_cons.mpr ⟨cw_75, List.forall_mem_cons.mpr ⟨cw_76, List.forall_mem_cons.mpr ⟨cw_77, List.forall_mem_cons.mpr ⟨cw_78, List.forall_mem_cons.mpr ⟨cw_79, List.forall_mem_cons.mpr ⟨cw_80, List.forall_mem_cons.mpr ⟨cw_81, List.forall_mem_cons.mpr ⟨cw_82, List.forall_mem_cons.mpr ⟨cw_83, List.forall_mem_cons.mpr ⟨cw_84, List.forall_mem_cons.mpr ⟨cw_85, List.forall_mem_cons.mpr ⟨cw_86, List.forall_mem_cons.mpr ⟨cw_87, List.forall_mem_cons.mpr ⟨cw_88, List.forall_mem_cons.mpr ⟨cw_89, List.forall_mem_cons.mpr ⟨cw_90, List.forall_mem_cons.mpr ⟨cw_91, List.forall_mem_cons.mpr ⟨cw_92, List.forall_mem_cons.mpr ⟨cw_93, List.forall_mem_cons.mpr ⟨cw_94, List.forall_mem_cons.mpr ⟨cw_95, List.forall_mem_cons.mpr ⟨cw_96, fun _ h => absurd h List.not_mem_nil⟩⟩⟩⟩⟩⟩⟩⟩⟩⟩⟩⟩⟩⟩⟩⟩⟩⟩⟩⟩⟩⟩⟩⟩⟩⟩⟩⟩⟩⟩⟩⟩
theorem cwL_3 : ∀ m ∈ ([97, 98, 99, 100, 101, 102, 103, 104, 105, 106, 107, 108, 109, 110, 111, 112, 113, 114, 115, 116, 117, 118, 119, 120, 121, 122, 123, 124, 125, 126, 127, 128] : List Nat), cwP m := List.forall_mem_cons.mpr ⟨cw_97, List.forall_mem_cons.mpr ⟨cw_98, List.forall_mem_cons.mpr ⟨cw_99, List.forall_mem_cons.mpr ⟨cw_100, List.forall_mem_cons.mpr ⟨cw_101, List.forall_mem_cons.mpr ⟨cw_102, List.forall_mem_cons.mpr ⟨cw_103, List.forall_mem_cons.mpr ⟨cw_104, List.forall_mem_cons.mpr ⟨cw_105, List.forall_mem_cons.mpr ⟨cw_106, List.forall_mem_cons.mpr ⟨cw_107, List.forall_mem_cons.mpr ⟨cw_108, List.forall_mem_cons.mpr ⟨cw_109, List.forall_mem_cons.mpr ⟨cw_110, List.forall_mem_cons.mpr ⟨cw_111, List.forall_mem_cons.mpr ⟨cw_112, List.forall_mem_cons.mpr ⟨cw_113, List.forall_mem_cons.mpr ⟨cw_114, List.forall_mem_cons.mpr ⟨cw_115, List.forall_mem_cons.mpr ⟨cw_116, List.forall_mem_cons.mpr ⟨cw_117, List.forall_mem_cons.mpr ⟨cw_118, List.forall_mem_cons.mpr ⟨cw_119, List.forall_mem_cons.mpr ⟨cw_120, List.forall_mem_cons.mpr ⟨cw_121, List.forall_mem_cons.mpr ⟨cw_122, List.forall_mem_cons.mpr ⟨cw_123, List.forall_mem_cons.mpr ⟨cw_124, List.forall_mem_cons.mpr ⟨cw_125, List.forall_mem_cons.mpr ⟨cw_126, List.forall_mem_cons.mpr ⟨cw_127, List.forall_mem_cons.mpr ⟨cw_128, fun _ h => absurd h List.not_mem_nil⟩⟩⟩⟩⟩⟩⟩⟩⟩⟩⟩⟩⟩⟩⟩⟩⟩⟩⟩⟩⟩⟩⟩⟩⟩⟩⟩⟩⟩⟩⟩⟩
theorem cwL_4 : ∀ m ∈ ([129, 130, 131, 132, 133, 134, 135, 136, 137, 138, 139, 140, 141, 142, 143, 144, 145, 146, 147, 148, 149, 150, 151, 152, 153, 154, 155, 156, 157, 158, 159, 160] : List Nat), cwP m := List.forall_mem_cons.mpr ⟨cw_129, List.forall_mem_cons.mpr ⟨cw_130, List.forall_mem_cons.mpr ⟨cw_131, List.forall_mem_cons.mpr ⟨cw_132, List.forall_mem_cons.mpr ⟨cw_133, List.forall_mem_cons.mpr ⟨cw_134, List.forall_mem_cons.mpr ⟨cw_135, List.forall_mem_cons.mpr ⟨cw_136, List.forall_mem_cons.mpr ⟨cw_137, List.forall_mem_cons.mpr ⟨cw_138, List.forall_mem_cons.mpr ⟨cw_139, List.forall_mem_cons.mpr ⟨cw_140, List.forall_mem_cons.mpr ⟨cw_141, List.forall_mem_cons.mpr ⟨cw_142, List.forall_mem_cons.mpr ⟨cw_143, List.forall_mem_cons.mpr ⟨cw_144, List.forall_mem_cons.mpr ⟨cw_145, List.forall_mem_cons.mpr ⟨cw_146, List.forall_mem_cons.mpr ⟨cw_147, List.forall_mem_cons.mpr ⟨cw_148, List.forall_mem_cons.mpr ⟨cw_149, List.forall_mem_cons.mpr ⟨cw_150, List.forall_mem_cons.mpr ⟨cw_151, List.forall_mem_cons.mpr ⟨cw_152, List.forall_mem_cons.mpr ⟨cw_153, List.forall_mem_cons.mpr ⟨cw_154, List.forall_mem_cons.mpr ⟨cw_155, List.forall_mem_cons.mpr ⟨cw_156, List.forall_mem_cons.mpr ⟨cw_157, List.forall_mem_cons.mpr ⟨cw_158, List.forall_mem_cons.mpr ⟨cw_159, List.forall_mem_cons.mpr ⟨cw_160, fun _ h => absurd h List.not_mem_nil⟩⟩⟩⟩⟩⟩⟩⟩⟩⟩⟩⟩⟩⟩⟩⟩⟩⟩⟩⟩⟩⟩⟩⟩⟩⟩⟩⟩⟩⟩⟩⟩
theorem cwL_5 : ∀ m ∈ ([161, 162, 163, 164, 165, 166, 167, 168, 169, 170, 171, 172, 173, 174, 175, 176, 177, 178, 179, 180, 181, 182, 183, 184, 185, 186, 187, 188, 189, 190, 191, 192] : List Nat), cwP m := List.forall_mem_cons.mpr ⟨cw_161, List.forall_mem_cons.mpr ⟨cw_162, List.forall_mem_cons.mpr ⟨cw_163, List.forall_mem_cons.mpr ⟨cw_164, List.forall_mem_cons.mpr ⟨cw_165, List.forall_mem_cons.mpr ⟨cw_166, List.forall_mem_cons.mpr ⟨cw_167, List.forall_mem_cons.mpr ⟨cw_168, List.forall_mem_cons.mpr ⟨cw_169, List.forall_mem_cons.mpr ⟨cw_170, List.forall_mem_cons.mpr ⟨cw_171, List.forall_mem_cons.mpr ⟨cw_172, List.forall_mem_cons.mpr ⟨cw_173, List.forall_mem_cons.mpr ⟨cw_174, List.forall_mem_cons.mpr ⟨cw_175, List.forall_mem_cons.mpr ⟨cw_176, List.forall_mem_cons.mpr ⟨cw_177, List.forall_mem_cons.mpr ⟨cw_178, List.forall_mem_cons.mpr ⟨cw_179, List.forall_mem_cons.mpr ⟨cw_180, List.forall_mem_cons.mpr ⟨cw_181, List.forall_mem_cons.mpr ⟨cw_182, List.forall_mem_cons.mpr ⟨cw_183, List.forall_mem_cons.mpr ⟨cw_184, List.forall_mem_cons.mpr ⟨cw_185, List.forall_mem_cons.mpr ⟨cw_186, List.forall_mem_cons.mpr ⟨cw_187, List.forall_mem_cons.mpr ⟨cw_188, List.forall_mem_cons.mpr ⟨cw_189, List.forall_mem_cons.mpr ⟨cw_190, List.forall_mem_cons.mpr ⟨cw_191, List.forall_mem_cons.mpr ⟨cw_192, fun _ h => absurd h List.not_mem_nil⟩⟩⟩⟩⟩⟩⟩⟩⟩⟩⟩⟩⟩⟩⟩⟩⟩⟩⟩⟩⟩⟩⟩⟩⟩⟩⟩⟩⟩⟩⟩⟩
theorem cwL_6 : ∀ m ∈ ([193, 194, 195, 196, 197, 198, 199, 200, 201, 202, 203, 204, 205, 206, 207, 208, 209, 210, 211, 212, 213, 214, 215, 216, 217, 218, 219, 220, 221, 222, 223, 224] : List Nat), cwP m := List.forall_mem_cons.mpr ⟨cw_193, List.forall_mem_cons.mpr ⟨cw_194, List.forall_mem_cons.mpr ⟨cw_195, List.forall_mem_cons.mpr ⟨cw_196, List.forall_mem_cons.mpr ⟨cw_197, List.forall_mem_cons.mpr ⟨cw_198, List.forall_mem_cons.mpr ⟨cw_199, List.forall_mem_cons.mpr ⟨cw_200, List.forall_mem_cons.mpr ⟨cw_201, List.forall_mem_cons.mpr ⟨cw_202, List.forall_mem_cons.mpr ⟨cw_203, List.forall_mem_cons.mpr ⟨cw_204, List.forall_mem_cons.mpr ⟨cw_205, List.forall_mem_cons.mpr ⟨cw_206, List.forall_mem_cons.mpr ⟨cw_207, List.forall_mem_cons.mpr ⟨cw_208, List.forall_mem_cons.mpr ⟨cw_209, List.forall_mem_cons.mpr ⟨cw_210, List.forall_mem_cons.mpr ⟨cw_211, List.forall_mem_cons.mpr ⟨cw_212, List.forall_mem_cons.mpr ⟨cw_213, List.forall_mem_cons.mpr ⟨cw_214, List.forall_mem_cons.mpr ⟨cw_215, List.forall_mem_cons.mpr ⟨cw_216, List.forall_mem_cons.mpr ⟨cw_217, List.forall_mem_cons.mpr ⟨cw_218, List.forall_mem_cons.mpr ⟨cw_219, List.forall_mem_cons.mpr ⟨cw_220, List.forall_mem_cons.mpr ⟨cw_221, List.forall_mem_cons.mpr ⟨cw_222, List.forall_mem_cons.mpr ⟨cw_223, List.forall_mem_cons.mpr ⟨cw_224, fun _ h => absurd h List.not_mem_nil⟩⟩⟩⟩⟩⟩⟩⟩⟩⟩⟩⟩⟩⟩⟩⟩⟩⟩⟩⟩⟩⟩⟩⟩⟩⟩⟩⟩⟩⟩⟩⟩
theorem cwL_7 : ∀ m ∈ ([225, 226, 227, 228, 229, 230, 231, 232, 233, 234, 235, 236, 237, 238, 239, 240, 241, 242, 243, 244, 245, 246, 247, 248, 249] : List Nat), cwP m := List.forall_mem_cons.mpr ⟨cw_225, List.forall_mem_cons.mpr ⟨cw_226, List.forall_mem_cons.mpr ⟨cw_227, List.forall_mem_cons.mpr ⟨cw_228, List.forall_mem_cons.mpr ⟨cw_229, List.forall_mem_cons.mpr ⟨cw_230, List.forall_mem_cons.mpr ⟨cw_231, List.forall_mem_cons.mpr ⟨cw_232, List.forall_mem_cons.mpr ⟨cw_233, List.forall_mem_cons.mpr ⟨cw_234, List.forall_mem_cons.mpr ⟨cw_235, List.forall_mem_cons.mpr ⟨cw_236, List.forall_mem_cons.mpr ⟨cw_237, List.forall_mem_cons.mpr ⟨cw_238, List.forall_mem_cons.mpr ⟨cw_239, List.forall_mem_cons.mpr ⟨cw_240, List.forall_mem_cons.mpr ⟨cw_241, List.forall_mem_cons.mpr ⟨cw_242, List.forall_mem_cons.mpr ⟨cw_243, List.forall_mem_cons.mpr ⟨cw_244, List.forall_mem_cons.mpr ⟨cw_245, List.forall_mem_cons.mpr ⟨cw_246, List.forall_mem_cons.mpr ⟨cw_247, List.forall_mem_cons.mpr ⟨cw_248, List.forall_mem_cons.mpr ⟨cw_249, fun _ h => absurd h List.not_mem_nil⟩⟩⟩⟩⟩⟩⟩⟩⟩⟩⟩⟩⟩⟩⟩⟩⟩⟩⟩⟩⟩⟩⟩⟩⟩
theorem cw_len : metL.length = 250 := by decide +kernel
set_option maxRecDepth 100000 in
theorem cw_all {m : Nat} (h0 : 0 < m) (h : m < metL.length) : Jvm.Cond.code (nam m) (cod m) (mxl m) (rty m) ∈ WSg := by
  rw [cw_len] at h
  by_cases g0 : m < 33
  · exact cwL_0 m (List.mem_of_getElem? (i := m - 1) (by rw [show ([1, 2, 3, 4, 5, 6, 7, 8, 9, 10, 11, 12, 13, 14, 15, 16, 17, 18, 19, 20, 21, 22, 23, 24, 25, 26, 27, 28, 29, 30, 31, 32] : List Nat) = List.range' 1 32 from rfl, List.getElem?_range' (by omega)]; congr 1; omega))
  by_cases g1 : m < 65
  · exact cwL_1 m (List.mem_of_getElem? (i := m - 33) (by rw [show ([33, 34, 35, 36, 37, 38, 39, 40, 41, 42, 43, 44, 45, 46, 47, 48, 49, 50, 51, 52, 53, 54, 55, 56, 57, 58, 59, 60, 61, 62, 63, 64] : List Nat) = List.range' 33 32 from rfl, List.getElem?_range' (by omega)]; congr 1; omega))
  by_cases g2 : m < 97
  · exact cwL_2 m (List.mem_of_getElem? (i := m - 65) (by rw [show ([65, 66, 67, 68, 69, 70, 71, 72, 73, 74, 75, 76, 77, 78, 79, 80, 81, 82, 83, 84, 85, 86, 87, 88, 89, 90, 91, 92, 93, 94, 95, 96] : List Nat) = List.range' 65 32 from rfl, List.getElem?_range' (by omega)]; congr 1; omega))
  by_cases g3 : m < 129
  · exact cwL_3 m (List.mem_of_getElem? (i := m - 97) (by rw [show ([97, 98, 99, 100, 101, 102, 103, 104, 105, 106, 107, 108, 109, 110, 111, 112, 113, 114, 115, 116, 117, 118, 119, 120, 121, 122, 123, 124, 125, 126, 127, 128] : List Nat) = List.range' 97 32 from rfl, List.getElem?_range' (by omega)]; congr 1; omega))
  by_cases g4 : m < 161
  · exact cwL_4 m (List.mem_of_getElem? (i := m - 129) (by rw [show ([129, 130, 131, 132, 133, 134, 135, 136, 137, 138, 139, 140, 141, 142, 143, 144, 145, 146, 147, 148, 149, 150, 151, 152, 153, 154, 155, 156, 157, 158, 159, 160] : List Nat) = List.range' 129 32 from rfl, List.getElem?_range' (by omega)]; congr 1; omega))
  by_cases g5 : m < 193
  · exact cwL_5 m (List.mem_of_getElem? (i := m - 161) (by rw [show ([161, 162, 163, 164, 165, 166, 167, 168, 169, 170, 171, 172, 173, 174, 175, 176, 177, 178, 179, 180, 181, 182, 183, 184, 185, 186, 187, 188, 189, 190, 191, 192] : List Nat) = List.range' 161 32 from rfl, List.getElem?_range' (by omega)]; congr 1; omega))
  by_cases g6 : m < 225
  · exact cwL_6 m (List.mem_of_getElem? (i := m - 193) (by rw [show ([193, 194, 195, 196, 197, 198, 199, 200, 201, 202, 203, 204, 205, 206, 207, 208, 209, 210, 211, 212, 213, 214, 215, 216, 217, 218, 219, 220, 221, 222, 223, 224] : List Nat) = List.range' 193 32 from rfl, List.getElem?_range' (by omega)]; congr 1; omega))
  exact cwL_7 m (List.mem_of_getElem? (i := m - 225) (by rw [show ([225, 226, 227, 228, 229, 230, 231, 232, 233, 234, 235, 236, 237, 238, 239, 240, 241, 242, 243, 244, 245, 246, 247, 248, 249] : List Nat) = List.range' 225 25 from rfl, List.getElem?_range' (by omega)]; congr 1; omega))
theorem tb_met : ((List.range metL.length).drop 1).all (fun m => plainName (nam m).cls && decide ((nam m).cls = oNm (oNum m)) && decide ((nam m).cls ≠ "java/lang/invoke/MethodHandle") && decide ((nam m).cls ≠ "java/lang/invoke/VarHandle") && decide ((parseMethodDescriptor (nam m).desc).map (fun d => d.parameters.length) = some (npr m)) && decide (mxl m ≤ 16)) = true := by decide +kernel
theorem tb_ini : iniL.all (fun m => decide ((nam m).name = "<init>")) = true := by decide +kernel
