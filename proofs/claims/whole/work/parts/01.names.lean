-- ===== PART A: goes FIRST, ahead of the names: the tables' words, and 'selects' of the private methods out of them =====
/-- a private method of a class that the tables say can be made, by its rows of tables_1 -/
def lw_okq (q : MethodName × Nat) : Prop := (q.1.cls ≠ "java/lang/invoke/MethodHandle" ∧ q.1.cls ≠ "java/lang/invoke/VarHandle") ∧ Cond.instantiable q.1.cls q.2 ∈ tables_1 ∧ Cond.privateMethod q.1 ∈ tables_1 ∧ Cond.instanceMethod q.1 ∈ tables_1
theorem lw_p0 : lw_okq (⟨"OneWire$Codes", "choose", "(IIII)V"⟩, 6) := ⟨⟨by decide +kernel, by decide +kernel⟩, List.mem_of_getElem? (i := 350) (by decide +kernel), List.mem_of_getElem? (i := 490) (by decide +kernel), List.mem_of_getElem? (i := 491) (by decide +kernel)⟩
theorem lw_p1 : lw_okq (⟨"OneWire$Codes", "put", "(IIII)V"⟩, 6) := ⟨⟨by decide +kernel, by decide +kernel⟩, List.mem_of_getElem? (i := 350) (by decide +kernel), List.mem_of_getElem? (i := 497) (by decide +kernel), List.mem_of_getElem? (i := 498) (by decide +kernel)⟩
theorem lw_p2 : lw_okq (⟨"OneWire$Rules", "readClause", "(I)V"⟩, 9) := ⟨⟨by decide +kernel, by decide +kernel⟩, List.mem_of_getElem? (i := 74) (by decide +kernel), List.mem_of_getElem? (i := 521) (by decide +kernel), List.mem_of_getElem? (i := 522) (by decide +kernel)⟩
theorem lw_p3 : lw_okq (⟨"OneWire$Tape", "next", "()I"⟩, 6) := ⟨⟨by decide +kernel, by decide +kernel⟩, List.mem_of_getElem? (i := 80) (by decide +kernel), List.mem_of_getElem? (i := 579) (by decide +kernel), List.mem_of_getElem? (i := 580) (by decide +kernel)⟩
theorem lw_p4 : lw_okq (⟨"OneWire$Tape", "any", "(I)V"⟩, 6) := ⟨⟨by decide +kernel, by decide +kernel⟩, List.mem_of_getElem? (i := 80) (by decide +kernel), List.mem_of_getElem? (i := 603) (by decide +kernel), List.mem_of_getElem? (i := 604) (by decide +kernel)⟩
theorem lw_p5 : lw_okq (⟨"OneWire$Tape", "all", "(I)V"⟩, 6) := ⟨⟨by decide +kernel, by decide +kernel⟩, List.mem_of_getElem? (i := 80) (by decide +kernel), List.mem_of_getElem? (i := 607) (by decide +kernel), List.mem_of_getElem? (i := 608) (by decide +kernel)⟩
theorem lw_p6 : lw_okq (⟨"OneWire$Tape", "one", "(I)V"⟩, 6) := ⟨⟨by decide +kernel, by decide +kernel⟩, List.mem_of_getElem? (i := 80) (by decide +kernel), List.mem_of_getElem? (i := 611) (by decide +kernel), List.mem_of_getElem? (i := 612) (by decide +kernel)⟩
theorem lw_p7 : lw_okq (⟨"OneWire$Tape", "write", "(I)V"⟩, 6) := ⟨⟨by decide +kernel, by decide +kernel⟩, List.mem_of_getElem? (i := 80) (by decide +kernel), List.mem_of_getElem? (i := 618) (by decide +kernel), List.mem_of_getElem? (i := 619) (by decide +kernel)⟩
theorem lw_p8 : lw_okq (⟨"OneWire", "hasWord", "(II)Z"⟩, 5) := ⟨⟨by decide +kernel, by decide +kernel⟩, List.mem_of_getElem? (i := 23) (by decide +kernel), List.mem_of_getElem? (i := 636) (by decide +kernel), List.mem_of_getElem? (i := 637) (by decide +kernel)⟩
theorem lw_p9 : lw_okq (⟨"OneWire$Rules", "fits", "(II)Z"⟩, 9) := ⟨⟨by decide +kernel, by decide +kernel⟩, List.mem_of_getElem? (i := 74) (by decide +kernel), List.mem_of_getElem? (i := 671) (by decide +kernel), List.mem_of_getElem? (i := 672) (by decide +kernel)⟩
theorem lw_p10 : lw_okq (⟨"OneWire", "mayLast", "(I)Z"⟩, 5) := ⟨⟨by decide +kernel, by decide +kernel⟩, List.mem_of_getElem? (i := 23) (by decide +kernel), List.mem_of_getElem? (i := 691) (by decide +kernel), List.mem_of_getElem? (i := 692) (by decide +kernel)⟩
theorem lw_p11 : lw_okq (⟨"OneWire$Calls", "inCall", "(ILOneWire$Farms;)I"⟩, 11) := ⟨⟨by decide +kernel, by decide +kernel⟩, List.mem_of_getElem? (i := 143) (by decide +kernel), List.mem_of_getElem? (i := 733) (by decide +kernel), List.mem_of_getElem? (i := 734) (by decide +kernel)⟩
theorem lw_p12 : lw_okq (⟨"OneWire$Exchange", "lineUp", "(LOneWire$World;)V"⟩, 6) := ⟨⟨by decide +kernel, by decide +kernel⟩, List.mem_of_getElem? (i := 325) (by decide +kernel), List.mem_of_getElem? (i := 791) (by decide +kernel), List.mem_of_getElem? (i := 792) (by decide +kernel)⟩
theorem lw_p13 : lw_okq (⟨"OneWire$Exchange", "endCalls", "(LOneWire$Calls;I)V"⟩, 6) := ⟨⟨by decide +kernel, by decide +kernel⟩, List.mem_of_getElem? (i := 325) (by decide +kernel), List.mem_of_getElem? (i := 796) (by decide +kernel), List.mem_of_getElem? (i := 797) (by decide +kernel)⟩
theorem lw_p14 : lw_okq (⟨"OneWire$Exchange", "occupy", "(LOneWire$Calls;I)V"⟩, 6) := ⟨⟨by decide +kernel, by decide +kernel⟩, List.mem_of_getElem? (i := 325) (by decide +kernel), List.mem_of_getElem? (i := 800) (by decide +kernel), List.mem_of_getElem? (i := 801) (by decide +kernel)⟩
theorem lw_p15 : lw_okq (⟨"OneWire$Exchange", "beginCalls", "(LOneWire$World;)V"⟩, 6) := ⟨⟨by decide +kernel, by decide +kernel⟩, List.mem_of_getElem? (i := 325) (by decide +kernel), List.mem_of_getElem? (i := 808) (by decide +kernel), List.mem_of_getElem? (i := 809) (by decide +kernel)⟩
def lw_privs_1 : List (MethodName × Nat) := [(⟨"OneWire$Codes", "choose", "(IIII)V"⟩, 6), (⟨"OneWire$Codes", "put", "(IIII)V"⟩, 6), (⟨"OneWire$Rules", "readClause", "(I)V"⟩, 9), (⟨"OneWire$Tape", "next", "()I"⟩, 6), (⟨"OneWire$Tape", "any", "(I)V"⟩, 6), (⟨"OneWire$Tape", "all", "(I)V"⟩, 6), (⟨"OneWire$Tape", "one", "(I)V"⟩, 6), (⟨"OneWire$Tape", "write", "(I)V"⟩, 6), (⟨"OneWire", "hasWord", "(II)Z"⟩, 5), (⟨"OneWire$Rules", "fits", "(II)Z"⟩, 9), (⟨"OneWire", "mayLast", "(I)Z"⟩, 5), (⟨"OneWire$Calls", "inCall", "(ILOneWire$Farms;)I"⟩, 11), (⟨"OneWire$Exchange", "lineUp", "(LOneWire$World;)V"⟩, 6), (⟨"OneWire$Exchange", "endCalls", "(LOneWire$Calls;I)V"⟩, 6), (⟨"OneWire$Exchange", "occupy", "(LOneWire$Calls;I)V"⟩, 6), (⟨"OneWire$Exchange", "beginCalls", "(LOneWire$World;)V"⟩, 6)]
theorem lw_r1 : ∀ q ∈ lw_privs_1, lw_okq q := List.forall_mem_cons.mpr ⟨lw_p0, List.forall_mem_cons.mpr ⟨lw_p1, List.forall_mem_cons.mpr ⟨lw_p2, List.forall_mem_cons.mpr ⟨lw_p3, List.forall_mem_cons.mpr ⟨lw_p4, List.forall_mem_cons.mpr ⟨lw_p5, List.forall_mem_cons.mpr ⟨lw_p6, List.forall_mem_cons.mpr ⟨lw_p7, List.forall_mem_cons.mpr ⟨lw_p8, List.forall_mem_cons.mpr ⟨lw_p9, List.forall_mem_cons.mpr ⟨lw_p10, List.forall_mem_cons.mpr ⟨lw_p11, List.forall_mem_cons.mpr ⟨lw_p12, List.forall_mem_cons.mpr ⟨lw_p13, List.forall_mem_cons.mpr ⟨lw_p14, List.forall_mem_cons.mpr ⟨lw_p15, fun _ h => absurd h List.not_mem_nil⟩⟩⟩⟩⟩⟩⟩⟩⟩⟩⟩⟩⟩⟩⟩⟩
theorem lw_p16 : lw_okq (⟨"OneWire$Exchange", "begin", "(LOneWire$World;II)V"⟩, 6) := ⟨⟨by decide +kernel, by decide +kernel⟩, List.mem_of_getElem? (i := 325) (by decide +kernel), List.mem_of_getElem? (i := 815) (by decide +kernel), List.mem_of_getElem? (i := 816) (by decide +kernel)⟩
theorem lw_p17 : lw_okq (⟨"OneWire$Wires", "cutsOf", "(I)I"⟩, 9) := ⟨⟨by decide +kernel, by decide +kernel⟩, List.mem_of_getElem? (i := 202) (by decide +kernel), List.mem_of_getElem? (i := 897) (by decide +kernel), List.mem_of_getElem? (i := 898) (by decide +kernel)⟩
theorem lw_p18 : lw_okq (⟨"OneWire$Wires", "explains", "(I)Z"⟩, 9) := ⟨⟨by decide +kernel, by decide +kernel⟩, List.mem_of_getElem? (i := 202) (by decide +kernel), List.mem_of_getElem? (i := 902) (by decide +kernel), List.mem_of_getElem? (i := 903) (by decide +kernel)⟩
theorem lw_p19 : lw_okq (⟨"OneWire$Division", "choose", "(II)V"⟩, 7) := ⟨⟨by decide +kernel, by decide +kernel⟩, List.mem_of_getElem? (i := 377) (by decide +kernel), List.mem_of_getElem? (i := 978) (by decide +kernel), List.mem_of_getElem? (i := 979) (by decide +kernel)⟩
theorem lw_p20 : lw_okq (⟨"OneWire$Division", "put", "(III)V"⟩, 7) := ⟨⟨by decide +kernel, by decide +kernel⟩, List.mem_of_getElem? (i := 377) (by decide +kernel), List.mem_of_getElem? (i := 983) (by decide +kernel), List.mem_of_getElem? (i := 984) (by decide +kernel)⟩
theorem lw_p21 : lw_okq (⟨"OneWireModel", "day", "()I"⟩, 20) := ⟨⟨by decide +kernel, by decide +kernel⟩, List.mem_of_getElem? (i := 1078) (by decide +kernel), List.mem_of_getElem? (i := 1155) (by decide +kernel), List.mem_of_getElem? (i := 1156) (by decide +kernel)⟩
theorem lw_p22 : lw_okq (⟨"OneWireModel", "isFarm", "(I)Z"⟩, 20) := ⟨⟨by decide +kernel, by decide +kernel⟩, List.mem_of_getElem? (i := 1078) (by decide +kernel), List.mem_of_getElem? (i := 1163) (by decide +kernel), List.mem_of_getElem? (i := 1164) (by decide +kernel)⟩
theorem lw_p23 : lw_okq (⟨"OneWireModel", "f", "(II)I"⟩, 20) := ⟨⟨by decide +kernel, by decide +kernel⟩, List.mem_of_getElem? (i := 1078) (by decide +kernel), List.mem_of_getElem? (i := 1167) (by decide +kernel), List.mem_of_getElem? (i := 1168) (by decide +kernel)⟩
theorem lw_p24 : lw_okq (⟨"OneWireModel", "give", "(IIIII)V"⟩, 20) := ⟨⟨by decide +kernel, by decide +kernel⟩, List.mem_of_getElem? (i := 1078) (by decide +kernel), List.mem_of_getElem? (i := 1189) (by decide +kernel), List.mem_of_getElem? (i := 1190) (by decide +kernel)⟩
theorem lw_p25 : lw_okq (⟨"OneWireModel", "goesThrough", "(IIII)V"⟩, 20) := ⟨⟨by decide +kernel, by decide +kernel⟩, List.mem_of_getElem? (i := 1078) (by decide +kernel), List.mem_of_getElem? (i := 1205) (by decide +kernel), List.mem_of_getElem? (i := 1206) (by decide +kernel)⟩
theorem lw_p26 : lw_okq (⟨"OneWireModel", "word", "()I"⟩, 20) := ⟨⟨by decide +kernel, by decide +kernel⟩, List.mem_of_getElem? (i := 1078) (by decide +kernel), List.mem_of_getElem? (i := 1209) (by decide +kernel), List.mem_of_getElem? (i := 1210) (by decide +kernel)⟩
theorem lw_p27 : lw_okq (⟨"OneWireModel", "byteHere", "()I"⟩, 20) := ⟨⟨by decide +kernel, by decide +kernel⟩, List.mem_of_getElem? (i := 1078) (by decide +kernel), List.mem_of_getElem? (i := 1213) (by decide +kernel), List.mem_of_getElem? (i := 1214) (by decide +kernel)⟩
theorem lw_p28 : lw_okq (⟨"OneWireModel", "spell", "(IIIII)V"⟩, 20) := ⟨⟨by decide +kernel, by decide +kernel⟩, List.mem_of_getElem? (i := 1078) (by decide +kernel), List.mem_of_getElem? (i := 1217) (by decide +kernel), List.mem_of_getElem? (i := 1218) (by decide +kernel)⟩
theorem lw_p29 : lw_okq (⟨"OneWireModel", "sign", "(I)V"⟩, 20) := ⟨⟨by decide +kernel, by decide +kernel⟩, List.mem_of_getElem? (i := 1078) (by decide +kernel), List.mem_of_getElem? (i := 1221) (by decide +kernel), List.mem_of_getElem? (i := 1222) (by decide +kernel)⟩
theorem lw_p30 : lw_okq (⟨"OneWireModel", "number", "()I"⟩, 20) := ⟨⟨by decide +kernel, by decide +kernel⟩, List.mem_of_getElem? (i := 1078) (by decide +kernel), List.mem_of_getElem? (i := 1225) (by decide +kernel), List.mem_of_getElem? (i := 1226) (by decide +kernel)⟩
theorem lw_p31 : lw_okq (⟨"OneWireModel", "either", "()Z"⟩, 20) := ⟨⟨by decide +kernel, by decide +kernel⟩, List.mem_of_getElem? (i := 1078) (by decide +kernel), List.mem_of_getElem? (i := 1232) (by decide +kernel), List.mem_of_getElem? (i := 1233) (by decide +kernel)⟩
def lw_privs_2 : List (MethodName × Nat) := [(⟨"OneWire$Exchange", "begin", "(LOneWire$World;II)V"⟩, 6), (⟨"OneWire$Wires", "cutsOf", "(I)I"⟩, 9), (⟨"OneWire$Wires", "explains", "(I)Z"⟩, 9), (⟨"OneWire$Division", "choose", "(II)V"⟩, 7), (⟨"OneWire$Division", "put", "(III)V"⟩, 7), (⟨"OneWireModel", "day", "()I"⟩, 20), (⟨"OneWireModel", "isFarm", "(I)Z"⟩, 20), (⟨"OneWireModel", "f", "(II)I"⟩, 20), (⟨"OneWireModel", "give", "(IIIII)V"⟩, 20), (⟨"OneWireModel", "goesThrough", "(IIII)V"⟩, 20), (⟨"OneWireModel", "word", "()I"⟩, 20), (⟨"OneWireModel", "byteHere", "()I"⟩, 20), (⟨"OneWireModel", "spell", "(IIIII)V"⟩, 20), (⟨"OneWireModel", "sign", "(I)V"⟩, 20), (⟨"OneWireModel", "number", "()I"⟩, 20), (⟨"OneWireModel", "either", "()Z"⟩, 20)]
theorem lw_r2 : ∀ q ∈ lw_privs_2, lw_okq q := List.forall_mem_cons.mpr ⟨lw_p16, List.forall_mem_cons.mpr ⟨lw_p17, List.forall_mem_cons.mpr ⟨lw_p18, List.forall_mem_cons.mpr ⟨lw_p19, List.forall_mem_cons.mpr ⟨lw_p20, List.forall_mem_cons.mpr ⟨lw_p21, List.forall_mem_cons.mpr ⟨lw_p22, List.forall_mem_cons.mpr ⟨lw_p23, List.forall_mem_cons.mpr ⟨lw_p24, List.forall_mem_cons.mpr ⟨lw_p25, List.forall_mem_cons.mpr ⟨lw_p26, List.forall_mem_cons.mpr ⟨lw_p27, List.forall_mem_cons.mpr ⟨lw_p28, List.forall_mem_cons.mpr ⟨lw_p29, List.forall_mem_cons.mpr ⟨lw_p30, List.forall_mem_cons.mpr ⟨lw_p31, fun _ h => absurd h List.not_mem_nil⟩⟩⟩⟩⟩⟩⟩⟩⟩⟩⟩⟩⟩⟩⟩⟩
theorem lw_p32 : lw_okq (⟨"OneWireModel", "both", "()Z"⟩, 20) := ⟨⟨by decide +kernel, by decide +kernel⟩, List.mem_of_getElem? (i := 1078) (by decide +kernel), List.mem_of_getElem? (i := 1236) (by decide +kernel), List.mem_of_getElem? (i := 1237) (by decide +kernel)⟩
theorem lw_p33 : lw_okq (⟨"OneWireModel", "one", "()Z"⟩, 20) := ⟨⟨by decide +kernel, by decide +kernel⟩, List.mem_of_getElem? (i := 1078) (by decide +kernel), List.mem_of_getElem? (i := 1240) (by decide +kernel), List.mem_of_getElem? (i := 1241) (by decide +kernel)⟩
theorem lw_p34 : lw_okq (⟨"OneWireModel", "opens", "()V"⟩, 20) := ⟨⟨by decide +kernel, by decide +kernel⟩, List.mem_of_getElem? (i := 1078) (by decide +kernel), List.mem_of_getElem? (i := 1244) (by decide +kernel), List.mem_of_getElem? (i := 1245) (by decide +kernel)⟩
theorem lw_p35 : lw_okq (⟨"OneWireModel", "fact", "(I)I"⟩, 20) := ⟨⟨by decide +kernel, by decide +kernel⟩, List.mem_of_getElem? (i := 1078) (by decide +kernel), List.mem_of_getElem? (i := 1248) (by decide +kernel), List.mem_of_getElem? (i := 1249) (by decide +kernel)⟩
theorem lw_p36 : lw_okq (⟨"OneWireModel", "c", "(II)I"⟩, 20) := ⟨⟨by decide +kernel, by decide +kernel⟩, List.mem_of_getElem? (i := 1078) (by decide +kernel), List.mem_of_getElem? (i := 1252) (by decide +kernel), List.mem_of_getElem? (i := 1253) (by decide +kernel)⟩
theorem lw_p37 : lw_okq (⟨"OneWireModel", "isAsked", "(II)Z"⟩, 20) := ⟨⟨by decide +kernel, by decide +kernel⟩, List.mem_of_getElem? (i := 1078) (by decide +kernel), List.mem_of_getElem? (i := 1260) (by decide +kernel), List.mem_of_getElem? (i := 1261) (by decide +kernel)⟩
theorem lw_p38 : lw_okq (⟨"OneWireModel", "isCall", "(I)Z"⟩, 20) := ⟨⟨by decide +kernel, by decide +kernel⟩, List.mem_of_getElem? (i := 1078) (by decide +kernel), List.mem_of_getElem? (i := 1264) (by decide +kernel), List.mem_of_getElem? (i := 1265) (by decide +kernel)⟩
theorem lw_p39 : lw_okq (⟨"OneWireModel", "says", "(III)I"⟩, 20) := ⟨⟨by decide +kernel, by decide +kernel⟩, List.mem_of_getElem? (i := 1078) (by decide +kernel), List.mem_of_getElem? (i := 1268) (by decide +kernel), List.mem_of_getElem? (i := 1269) (by decide +kernel)⟩
theorem lw_p40 : lw_okq (⟨"OneWireModel", "rules", "(III)I"⟩, 20) := ⟨⟨by decide +kernel, by decide +kernel⟩, List.mem_of_getElem? (i := 1078) (by decide +kernel), List.mem_of_getElem? (i := 1272) (by decide +kernel), List.mem_of_getElem? (i := 1273) (by decide +kernel)⟩
theorem lw_p41 : lw_okq (⟨"OneWireModel", "nextRule", "(II)I"⟩, 20) := ⟨⟨by decide +kernel, by decide +kernel⟩, List.mem_of_getElem? (i := 1078) (by decide +kernel), List.mem_of_getElem? (i := 1276) (by decide +kernel), List.mem_of_getElem? (i := 1277) (by decide +kernel)⟩
theorem lw_p42 : lw_okq (⟨"OneWireModel", "asks", "(IIII)I"⟩, 20) := ⟨⟨by decide +kernel, by decide +kernel⟩, List.mem_of_getElem? (i := 1078) (by decide +kernel), List.mem_of_getElem? (i := 1291) (by decide +kernel), List.mem_of_getElem? (i := 1292) (by decide +kernel)⟩
theorem lw_p43 : lw_okq (⟨"OneWireModel", "rankOf", "(I)I"⟩, 20) := ⟨⟨by decide +kernel, by decide +kernel⟩, List.mem_of_getElem? (i := 1078) (by decide +kernel), List.mem_of_getElem? (i := 1303) (by decide +kernel), List.mem_of_getElem? (i := 1304) (by decide +kernel)⟩
theorem lw_p44 : lw_okq (⟨"OneWireModel", "shifted", "(II)I"⟩, 20) := ⟨⟨by decide +kernel, by decide +kernel⟩, List.mem_of_getElem? (i := 1078) (by decide +kernel), List.mem_of_getElem? (i := 1307) (by decide +kernel), List.mem_of_getElem? (i := 1308) (by decide +kernel)⟩
theorem lw_p45 : lw_okq (⟨"OneWireModel", "costOf", "(I)I"⟩, 20) := ⟨⟨by decide +kernel, by decide +kernel⟩, List.mem_of_getElem? (i := 1078) (by decide +kernel), List.mem_of_getElem? (i := 1311) (by decide +kernel), List.mem_of_getElem? (i := 1312) (by decide +kernel)⟩
theorem lw_p46 : lw_okq (⟨"OneWireModel", "lineOf", "(I)I"⟩, 20) := ⟨⟨by decide +kernel, by decide +kernel⟩, List.mem_of_getElem? (i := 1078) (by decide +kernel), List.mem_of_getElem? (i := 1315) (by decide +kernel), List.mem_of_getElem? (i := 1316) (by decide +kernel)⟩
theorem lw_p47 : lw_okq (⟨"OneWireModel", "onLine", "(I)I"⟩, 20) := ⟨⟨by decide +kernel, by decide +kernel⟩, List.mem_of_getElem? (i := 1078) (by decide +kernel), List.mem_of_getElem? (i := 1319) (by decide +kernel), List.mem_of_getElem? (i := 1320) (by decide +kernel)⟩
def lw_privs_3 : List (MethodName × Nat) := [(⟨"OneWireModel", "both", "()Z"⟩, 20), (⟨"OneWireModel", "one", "()Z"⟩, 20), (⟨"OneWireModel", "opens", "()V"⟩, 20), (⟨"OneWireModel", "fact", "(I)I"⟩, 20), (⟨"OneWireModel", "c", "(II)I"⟩, 20), (⟨"OneWireModel", "isAsked", "(II)Z"⟩, 20), (⟨"OneWireModel", "isCall", "(I)Z"⟩, 20), (⟨"OneWireModel", "says", "(III)I"⟩, 20), (⟨"OneWireModel", "rules", "(III)I"⟩, 20), (⟨"OneWireModel", "nextRule", "(II)I"⟩, 20), (⟨"OneWireModel", "asks", "(IIII)I"⟩, 20), (⟨"OneWireModel", "rankOf", "(I)I"⟩, 20), (⟨"OneWireModel", "shifted", "(II)I"⟩, 20), (⟨"OneWireModel", "costOf", "(I)I"⟩, 20), (⟨"OneWireModel", "lineOf", "(I)I"⟩, 20), (⟨"OneWireModel", "onLine", "(I)I"⟩, 20)]
theorem lw_r3 : ∀ q ∈ lw_privs_3, lw_okq q := List.forall_mem_cons.mpr ⟨lw_p32, List.forall_mem_cons.mpr ⟨lw_p33, List.forall_mem_cons.mpr ⟨lw_p34, List.forall_mem_cons.mpr ⟨lw_p35, List.forall_mem_cons.mpr ⟨lw_p36, List.forall_mem_cons.mpr ⟨lw_p37, List.forall_mem_cons.mpr ⟨lw_p38, List.forall_mem_cons.mpr ⟨lw_p39, List.forall_mem_cons.mpr ⟨lw_p40, List.forall_mem_cons.mpr ⟨lw_p41, List.forall_mem_cons.mpr ⟨lw_p42, List.forall_mem_cons.mpr ⟨lw_p43, List.forall_mem_cons.mpr ⟨lw_p44, List.forall_mem_cons.mpr ⟨lw_p45, List.forall_mem_cons.mpr ⟨lw_p46, List.forall_mem_cons.mpr ⟨lw_p47, fun _ h => absurd h List.not_mem_nil⟩⟩⟩⟩⟩⟩⟩⟩⟩⟩⟩⟩⟩⟩⟩⟩
theorem lw_p48 : lw_okq (⟨"OneWireModel", "isByBoard", "(I)Z"⟩, 20) := ⟨⟨by decide +kernel, by decide +kernel⟩, List.mem_of_getElem? (i := 1078) (by decide +kernel), List.mem_of_getElem? (i := 1323) (by decide +kernel), List.mem_of_getElem? (i := 1324) (by decide +kernel)⟩
theorem lw_p49 : lw_okq (⟨"OneWireModel", "loudOf", "(I)I"⟩, 20) := ⟨⟨by decide +kernel, by decide +kernel⟩, List.mem_of_getElem? (i := 1078) (by decide +kernel), List.mem_of_getElem? (i := 1327) (by decide +kernel), List.mem_of_getElem? (i := 1328) (by decide +kernel)⟩
theorem lw_p50 : lw_okq (⟨"OneWireModel", "goesBy", "()V"⟩, 20) := ⟨⟨by decide +kernel, by decide +kernel⟩, List.mem_of_getElem? (i := 1078) (by decide +kernel), List.mem_of_getElem? (i := 1346) (by decide +kernel), List.mem_of_getElem? (i := 1347) (by decide +kernel)⟩
theorem lw_p51 : lw_okq (⟨"OneWireModel", "nextWaiting", "()I"⟩, 20) := ⟨⟨by decide +kernel, by decide +kernel⟩, List.mem_of_getElem? (i := 1078) (by decide +kernel), List.mem_of_getElem? (i := 1350) (by decide +kernel), List.mem_of_getElem? (i := 1351) (by decide +kernel)⟩
theorem lw_p52 : lw_okq (⟨"OneWireModel", "reaches", "(III)Z"⟩, 20) := ⟨⟨by decide +kernel, by decide +kernel⟩, List.mem_of_getElem? (i := 1078) (by decide +kernel), List.mem_of_getElem? (i := 1354) (by decide +kernel), List.mem_of_getElem? (i := 1355) (by decide +kernel)⟩
theorem lw_p53 : lw_okq (⟨"OneWireModel", "toBoard", "(II)Z"⟩, 20) := ⟨⟨by decide +kernel, by decide +kernel⟩, List.mem_of_getElem? (i := 1078) (by decide +kernel), List.mem_of_getElem? (i := 1358) (by decide +kernel), List.mem_of_getElem? (i := 1359) (by decide +kernel)⟩
theorem lw_p54 : lw_okq (⟨"OneWireModel", "isUp", "(IIII)Z"⟩, 20) := ⟨⟨by decide +kernel, by decide +kernel⟩, List.mem_of_getElem? (i := 1078) (by decide +kernel), List.mem_of_getElem? (i := 1362) (by decide +kernel), List.mem_of_getElem? (i := 1363) (by decide +kernel)⟩
theorem lw_p55 : lw_okq (⟨"OneWireModel", "isDown", "(III)Z"⟩, 20) := ⟨⟨by decide +kernel, by decide +kernel⟩, List.mem_of_getElem? (i := 1078) (by decide +kernel), List.mem_of_getElem? (i := 1366) (by decide +kernel), List.mem_of_getElem? (i := 1367) (by decide +kernel)⟩
theorem lw_p56 : lw_okq (⟨"OneWireModel", "between", "(III)Z"⟩, 20) := ⟨⟨by decide +kernel, by decide +kernel⟩, List.mem_of_getElem? (i := 1078) (by decide +kernel), List.mem_of_getElem? (i := 1370) (by decide +kernel), List.mem_of_getElem? (i := 1371) (by decide +kernel)⟩
theorem lw_p57 : lw_okq (⟨"OneWireModel", "isFree", "(I)Z"⟩, 20) := ⟨⟨by decide +kernel, by decide +kernel⟩, List.mem_of_getElem? (i := 1078) (by decide +kernel), List.mem_of_getElem? (i := 1374) (by decide +kernel), List.mem_of_getElem? (i := 1375) (by decide +kernel)⟩
theorem lw_p58 : lw_okq (⟨"OneWireModel", "needs", "(II)Z"⟩, 20) := ⟨⟨by decide +kernel, by decide +kernel⟩, List.mem_of_getElem? (i := 1078) (by decide +kernel), List.mem_of_getElem? (i := 1378) (by decide +kernel), List.mem_of_getElem? (i := 1379) (by decide +kernel)⟩
theorem lw_p59 : lw_okq (⟨"OneWireModel", "inCall", "(I)I"⟩, 20) := ⟨⟨by decide +kernel, by decide +kernel⟩, List.mem_of_getElem? (i := 1078) (by decide +kernel), List.mem_of_getElem? (i := 1390) (by decide +kernel), List.mem_of_getElem? (i := 1391) (by decide +kernel)⟩
theorem lw_p60 : lw_okq (⟨"OneWireModel", "isEnd", "(I)Z"⟩, 20) := ⟨⟨by decide +kernel, by decide +kernel⟩, List.mem_of_getElem? (i := 1078) (by decide +kernel), List.mem_of_getElem? (i := 1409) (by decide +kernel), List.mem_of_getElem? (i := 1410) (by decide +kernel)⟩
theorem lw_p61 : lw_okq (⟨"OneWireModel", "explains", "(I)Z"⟩, 20) := ⟨⟨by decide +kernel, by decide +kernel⟩, List.mem_of_getElem? (i := 1078) (by decide +kernel), List.mem_of_getElem? (i := 1425) (by decide +kernel), List.mem_of_getElem? (i := 1426) (by decide +kernel)⟩
theorem lw_p62 : lw_okq (⟨"OneWireModel", "paid", "(III)I"⟩, 20) := ⟨⟨by decide +kernel, by decide +kernel⟩, List.mem_of_getElem? (i := 1078) (by decide +kernel), List.mem_of_getElem? (i := 1433) (by decide +kernel), List.mem_of_getElem? (i := 1434) (by decide +kernel)⟩
theorem lw_p63 : lw_okq (⟨"OneWireModel", "behindOn", "(II)I"⟩, 20) := ⟨⟨by decide +kernel, by decide +kernel⟩, List.mem_of_getElem? (i := 1078) (by decide +kernel), List.mem_of_getElem? (i := 1441) (by decide +kernel), List.mem_of_getElem? (i := 1442) (by decide +kernel)⟩
def lw_privs_4 : List (MethodName × Nat) := [(⟨"OneWireModel", "isByBoard", "(I)Z"⟩, 20), (⟨"OneWireModel", "loudOf", "(I)I"⟩, 20), (⟨"OneWireModel", "goesBy", "()V"⟩, 20), (⟨"OneWireModel", "nextWaiting", "()I"⟩, 20), (⟨"OneWireModel", "reaches", "(III)Z"⟩, 20), (⟨"OneWireModel", "toBoard", "(II)Z"⟩, 20), (⟨"OneWireModel", "isUp", "(IIII)Z"⟩, 20), (⟨"OneWireModel", "isDown", "(III)Z"⟩, 20), (⟨"OneWireModel", "between", "(III)Z"⟩, 20), (⟨"OneWireModel", "isFree", "(I)Z"⟩, 20), (⟨"OneWireModel", "needs", "(II)Z"⟩, 20), (⟨"OneWireModel", "inCall", "(I)I"⟩, 20), (⟨"OneWireModel", "isEnd", "(I)Z"⟩, 20), (⟨"OneWireModel", "explains", "(I)Z"⟩, 20), (⟨"OneWireModel", "paid", "(III)I"⟩, 20), (⟨"OneWireModel", "behindOn", "(II)I"⟩, 20)]
theorem lw_r4 : ∀ q ∈ lw_privs_4, lw_okq q := List.forall_mem_cons.mpr ⟨lw_p48, List.forall_mem_cons.mpr ⟨lw_p49, List.forall_mem_cons.mpr ⟨lw_p50, List.forall_mem_cons.mpr ⟨lw_p51, List.forall_mem_cons.mpr ⟨lw_p52, List.forall_mem_cons.mpr ⟨lw_p53, List.forall_mem_cons.mpr ⟨lw_p54, List.forall_mem_cons.mpr ⟨lw_p55, List.forall_mem_cons.mpr ⟨lw_p56, List.forall_mem_cons.mpr ⟨lw_p57, List.forall_mem_cons.mpr ⟨lw_p58, List.forall_mem_cons.mpr ⟨lw_p59, List.forall_mem_cons.mpr ⟨lw_p60, List.forall_mem_cons.mpr ⟨lw_p61, List.forall_mem_cons.mpr ⟨lw_p62, List.forall_mem_cons.mpr ⟨lw_p63, fun _ h => absurd h List.not_mem_nil⟩⟩⟩⟩⟩⟩⟩⟩⟩⟩⟩⟩⟩⟩⟩⟩
theorem lw_p64 : lw_okq (⟨"OneWireModel", "asked", "(II)I"⟩, 20) := ⟨⟨by decide +kernel, by decide +kernel⟩, List.mem_of_getElem? (i := 1078) (by decide +kernel), List.mem_of_getElem? (i := 1461) (by decide +kernel), List.mem_of_getElem? (i := 1462) (by decide +kernel)⟩
theorem lw_p65 : lw_okq (⟨"OneWireModel", "part", "(IIII)V"⟩, 20) := ⟨⟨by decide +kernel, by decide +kernel⟩, List.mem_of_getElem? (i := 1078) (by decide +kernel), List.mem_of_getElem? (i := 1466) (by decide +kernel), List.mem_of_getElem? (i := 1467) (by decide +kernel)⟩
theorem lw_p66 : lw_okq (⟨"OneWireModel", "triedSays", "(III)I"⟩, 20) := ⟨⟨by decide +kernel, by decide +kernel⟩, List.mem_of_getElem? (i := 1078) (by decide +kernel), List.mem_of_getElem? (i := 1486) (by decide +kernel), List.mem_of_getElem? (i := 1487) (by decide +kernel)⟩
theorem lw_p67 : lw_okq (⟨"OneWireModel", "inState", "(I)I"⟩, 20) := ⟨⟨by decide +kernel, by decide +kernel⟩, List.mem_of_getElem? (i := 1078) (by decide +kernel), List.mem_of_getElem? (i := 1502) (by decide +kernel), List.mem_of_getElem? (i := 1503) (by decide +kernel)⟩
def lw_privs_5 : List (MethodName × Nat) := [(⟨"OneWireModel", "asked", "(II)I"⟩, 20), (⟨"OneWireModel", "part", "(IIII)V"⟩, 20), (⟨"OneWireModel", "triedSays", "(III)I"⟩, 20), (⟨"OneWireModel", "inState", "(I)I"⟩, 20)]
theorem lw_r5 : ∀ q ∈ lw_privs_5, lw_okq q := List.forall_mem_cons.mpr ⟨lw_p64, List.forall_mem_cons.mpr ⟨lw_p65, List.forall_mem_cons.mpr ⟨lw_p66, List.forall_mem_cons.mpr ⟨lw_p67, fun _ h => absurd h List.not_mem_nil⟩⟩⟩⟩
def lw_privs : List (MethodName × Nat) := lw_privs_1 ++ (lw_privs_2 ++ (lw_privs_3 ++ (lw_privs_4 ++ (lw_privs_5))))
def lw_tbl : List Cond := k2_sels lw_privs ++ tables_1
theorem lw_privs_ok : ∀ q ∈ lw_privs, lw_okq q := by
  show ∀ q ∈ lw_privs_1 ++ (lw_privs_2 ++ (lw_privs_3 ++ (lw_privs_4 ++ (lw_privs_5)))), lw_okq q
  exact List.forall_mem_append.mpr ⟨lw_r1, List.forall_mem_append.mpr ⟨lw_r2, List.forall_mem_append.mpr ⟨lw_r3, List.forall_mem_append.mpr ⟨lw_r4, lw_r5⟩⟩⟩⟩
def RX0 : String := "OneWire$Calls"
def TX0 : u_T := fun k => match k with
  | 0 => ("OneWire$Calls", "size", "I", false)
  | 1 => ("OneWire$Calls", "kind", "[I", true)
  | 2 => ("OneWire$Calls", "from", "[I", true)
  | 3 => ("OneWire$Calls", "to", "[I", true)
  | 4 => ("OneWire$Calls", "lines", "[I", true)
  | 5 => ("OneWire$Calls", "way", "[J", true)
  | 6 => ("OneWire$Calls", "minutes", "[I", true)
  | 7 => ("OneWire$Calls", "asked", "[I", true)
  | 8 => ("OneWire$Calls", "begun", "[I", true)
  | 9 => ("OneWire$Calls", "state", "[I", true)
  | _ => ("OneWire$Calls", "tapped", "[I", true)
def tyX0 : Nat → FieldType := fun k => match k with
  | 0 => .int
  | 1 => .array .int
  | 2 => .array .int
  | 3 => .array .int
  | 4 => .array .int
  | 5 => .array .long
  | 6 => .array .int
  | 7 => .array .int
  | 8 => .array .int
  | 9 => .array .int
  | _ => .array .int
abbrev wsX00 : List Cond := u_ws RX0 TX0 11
theorem nmX0 : ∀ a, a < 11 → ∀ b, b < 11 → a ≠ b → (TX0 a).2.1 ≠ (TX0 b).2.1 := by decide +kernel
theorem tyX0_ok : ∀ k, k < 11 → parseFieldDescriptor (TX0 k).2.2.1 = some (tyX0 k) := by decide +kernel
abbrev cX0_init : ByteArray := prog_2_method_1_code
def yX0_init : MethodName := ⟨RX0, "<init>", "()V"⟩
abbrev cX0_copyFrom : ByteArray := prog_2_method_2_code
def yX0_copyFrom : MethodName := ⟨RX0, "copyFrom", "(LOneWire$Calls;)V"⟩
abbrev cX0_has : ByteArray := prog_2_method_3_code
def yX0_has : MethodName := ⟨RX0, "has", "(I)Z"⟩
abbrev cX0_add : ByteArray := prog_2_method_4_code
def yX0_add : MethodName := ⟨RX0, "add", "(LOneWire$Farms;IIIII)I"⟩
abbrev cX0_isUnder : ByteArray := prog_2_method_5_code
def yX0_isUnder : MethodName := ⟨RX0, "isUnder", "(II)Z"⟩
abbrev cX0_costs : ByteArray := prog_2_method_6_code
def yX0_costs : MethodName := ⟨RX0, "costs", "(I)I"⟩
abbrev cX0_holds : ByteArray := prog_2_method_7_code
def yX0_holds : MethodName := ⟨RX0, "holds", "(ILOneWire$Farms;)I"⟩
abbrev cX0_waited : ByteArray := prog_2_method_8_code
def yX0_waited : MethodName := ⟨RX0, "waited", "(II)I"⟩
abbrev cX0_loud : ByteArray := prog_2_method_9_code
def yX0_loud : MethodName := ⟨RX0, "loud", "(ILOneWire$Farms;)I"⟩
abbrev cX0_cords : ByteArray := prog_2_method_10_code
def yX0_cords : MethodName := ⟨RX0, "cords", "(I)I"⟩
abbrev cX0_cordsUsed : ByteArray := prog_2_method_11_code
def yX0_cordsUsed : MethodName := ⟨RX0, "cordsUsed", "()I"⟩
abbrev cX0_callOn : ByteArray := prog_2_method_12_code
def yX0_callOn : MethodName := ⟨RX0, "callOn", "(I)I"⟩
abbrev cX0_mayTakeUp : ByteArray := prog_2_method_13_code
def yX0_mayTakeUp : MethodName := ⟨RX0, "mayTakeUp", "(IILOneWire$Farms;)Z"⟩
abbrev cX0_inCall : ByteArray := prog_2_method_14_code
def yX0_inCall : MethodName := ⟨RX0, "inCall", "(ILOneWire$Farms;)I"⟩
abbrev cX0_hearers : ByteArray := prog_2_method_15_code
def yX0_hearers : MethodName := ⟨RX0, "hearers", "(ILOneWire$Farms;)I"⟩
abbrev cX0_inState : ByteArray := prog_2_method_16_code
def yX0_inState : MethodName := ⟨RX0, "inState", "(I)I"⟩
abbrev cX0_townMinutes : ByteArray := prog_2_method_17_code
def yX0_townMinutes : MethodName := ⟨RX0, "townMinutes", "(III)I"⟩
abbrev cX0_between : ByteArray := prog_2_method_18_code
def yX0_between : MethodName := ⟨RX0, "between", "(II)I"⟩
def RX1 : String := "OneWire$Codes"
def TX1 : u_T := fun k => match k with
  | 0 => ("OneWire$Codes", "least", "I", false)
  | 1 => ("OneWire$Codes", "best", "[I", true)
  | 2 => ("OneWire$Codes", "fewest", "I", false)
  | 3 => ("OneWire$Codes", "wanted", "I", false)
  | 4 => ("OneWire$Codes", "last", "I", false)
  | _ => ("OneWire$Codes", "chosen", "[I", true)
def tyX1 : Nat → FieldType := fun k => match k with
  | 0 => .int
  | 1 => .array .int
  | 2 => .int
  | 3 => .int
  | 4 => .int
  | _ => .array .int
abbrev wsX10 : List Cond := u_ws RX1 TX1 6
theorem nmX1 : ∀ a, a < 6 → ∀ b, b < 6 → a ≠ b → (TX1 a).2.1 ≠ (TX1 b).2.1 := by decide +kernel
theorem tyX1_ok : ∀ k, k < 6 → parseFieldDescriptor (TX1 k).2.2.1 = some (tyX1 k) := by decide +kernel
abbrev cX1_init : ByteArray := prog_3_method_1_code
def yX1_init : MethodName := ⟨RX1, "<init>", "()V"⟩
abbrev cX1_mistaken : ByteArray := prog_3_method_2_code
def yX1_mistaken : MethodName := ⟨RX1, "mistaken", "(II)I"⟩
abbrev cX1_shortens : ByteArray := prog_3_method_3_code
def yX1_shortens : MethodName := ⟨RX1, "shortens", "(II)Z"⟩
abbrev cX1_mistakenOnLine : ByteArray := prog_3_method_4_code
def yX1_mistakenOnLine : MethodName := ⟨RX1, "mistakenOnLine", "(LOneWire$Farms;I)I"⟩
abbrev cX1_search : ByteArray := prog_3_method_5_code
def yX1_search : MethodName := ⟨RX1, "search", "(II)Z"⟩
abbrev cX1_choose : ByteArray := prog_3_method_6_code
def yX1_choose : MethodName := ⟨RX1, "choose", "(IIII)V"⟩
abbrev cX1_put : ByteArray := prog_3_method_7_code
def yX1_put : MethodName := ⟨RX1, "put", "(IIII)V"⟩
def RX2 : String := "OneWire$Division"
def TX2 : u_T := fun k => match k with
  | 0 => ("OneWire$Division", "least", "I", false)
  | 1 => ("OneWire$Division", "best", "[I", true)
  | 2 => ("OneWire$Division", "farms", "I", false)
  | 3 => ("OneWire$Division", "lines", "I", false)
  | 4 => ("OneWire$Division", "chosen", "[I", true)
  | 5 => ("OneWire$Division", "calls", "[I", true)
  | _ => ("OneWire$Division", "foes", "[I", true)
def tyX2 : Nat → FieldType := fun k => match k with
  | 0 => .int
  | 1 => .array .int
  | 2 => .int
  | 3 => .int
  | 4 => .array .int
  | 5 => .array .int
  | _ => .array .int
abbrev wsX20 : List Cond := u_ws RX2 TX2 7
theorem nmX2 : ∀ a, a < 7 → ∀ b, b < 7 → a ≠ b → (TX2 a).2.1 ≠ (TX2 b).2.1 := by decide +kernel
theorem tyX2_ok : ∀ k, k < 7 → parseFieldDescriptor (TX2 k).2.2.1 = some (tyX2 k) := by decide +kernel
abbrev cX2_init : ByteArray := prog_4_method_1_code
def yX2_init : MethodName := ⟨RX2, "<init>", "()V"⟩
abbrev cX2_search : ByteArray := prog_4_method_2_code
def yX2_search : MethodName := ⟨RX2, "search", "(LOneWire$World;II)Z"⟩
abbrev cX2_choose : ByteArray := prog_4_method_3_code
def yX2_choose : MethodName := ⟨RX2, "choose", "(II)V"⟩
abbrev cX2_put : ByteArray := prog_4_method_4_code
def yX2_put : MethodName := ⟨RX2, "put", "(III)V"⟩
def RX3 : String := "OneWire$Exchange"
def TX3 : u_T := fun k => match k with
  | 0 => ("OneWire$Exchange", "queue", "[I", true)
  | 1 => ("OneWire$Exchange", "rank", "[I", true)
  | 2 => ("OneWire$Exchange", "queued", "I", false)
  | 3 => ("OneWire$Exchange", "busy", "I", false)
  | 4 => ("OneWire$Exchange", "cords", "I", false)
  | _ => ("OneWire$Exchange", "talking", "I", false)
def tyX3 : Nat → FieldType := fun k => match k with
  | 0 => .array .int
  | 1 => .array .int
  | 2 => .int
  | 3 => .int
  | 4 => .int
  | _ => .int
abbrev wsX30 : List Cond := u_ws RX3 TX3 6
theorem nmX3 : ∀ a, a < 6 → ∀ b, b < 6 → a ≠ b → (TX3 a).2.1 ≠ (TX3 b).2.1 := by decide +kernel
theorem tyX3_ok : ∀ k, k < 6 → parseFieldDescriptor (TX3 k).2.2.1 = some (tyX3 k) := by decide +kernel
abbrev cX3_init : ByteArray := prog_5_method_1_code
def yX3_init : MethodName := ⟨RX3, "<init>", "()V"⟩
abbrev cX3_pass : ByteArray := prog_5_method_2_code
def yX3_pass : MethodName := ⟨RX3, "pass", "(LOneWire$World;I)V"⟩
abbrev cX3_lineUp : ByteArray := prog_5_method_3_code
def yX3_lineUp : MethodName := ⟨RX3, "lineUp", "(LOneWire$World;)V"⟩
abbrev cX3_endCalls : ByteArray := prog_5_method_4_code
def yX3_endCalls : MethodName := ⟨RX3, "endCalls", "(LOneWire$Calls;I)V"⟩
abbrev cX3_occupy : ByteArray := prog_5_method_5_code
def yX3_occupy : MethodName := ⟨RX3, "occupy", "(LOneWire$Calls;I)V"⟩
abbrev cX3_beginCalls : ByteArray := prog_5_method_6_code
def yX3_beginCalls : MethodName := ⟨RX3, "beginCalls", "(LOneWire$World;)V"⟩
abbrev cX3_begin : ByteArray := prog_5_method_7_code
def yX3_begin : MethodName := ⟨RX3, "begin", "(LOneWire$World;II)V"⟩
def RX4 : String := "OneWire$Farms"
def TX4 : u_T := fun k => match k with
  | 0 => ("OneWire$Farms", "size", "I", false)
  | 1 => ("OneWire$Farms", "line", "[I", true)
  | 2 => ("OneWire$Farms", "post", "[I", true)
  | 3 => ("OneWire$Farms", "ears", "[I", true)
  | 4 => ("OneWire$Farms", "code", "[I", true)
  | 5 => ("OneWire$Farms", "came", "[I", true)
  | _ => ("OneWire$Farms", "foes", "[I", true)
def tyX4 : Nat → FieldType := fun k => match k with
  | 0 => .int
  | 1 => .array .int
  | 2 => .array .int
  | 3 => .array .int
  | 4 => .array .int
  | 5 => .array .int
  | _ => .array .int
abbrev wsX40 : List Cond := u_ws RX4 TX4 7
theorem nmX4 : ∀ a, a < 7 → ∀ b, b < 7 → a ≠ b → (TX4 a).2.1 ≠ (TX4 b).2.1 := by decide +kernel
theorem tyX4_ok : ∀ k, k < 7 → parseFieldDescriptor (TX4 k).2.2.1 = some (tyX4 k) := by decide +kernel
abbrev cX4_init : ByteArray := prog_6_method_1_code
def yX4_init : MethodName := ⟨RX4, "<init>", "()V"⟩
abbrev cX4_copyFrom : ByteArray := prog_6_method_2_code
def yX4_copyFrom : MethodName := ⟨RX4, "copyFrom", "(LOneWire$Farms;)V"⟩
abbrev cX4_has : ByteArray := prog_6_method_3_code
def yX4_has : MethodName := ⟨RX4, "has", "(I)Z"⟩
abbrev cX4_isEnd : ByteArray := prog_6_method_4_code
def yX4_isEnd : MethodName := ⟨RX4, "isEnd", "(I)Z"⟩
abbrev cX4_add : ByteArray := prog_6_method_5_code
def yX4_add : MethodName := ⟨RX4, "add", "(IIII)I"⟩
abbrev cX4_lineOf : ByteArray := prog_6_method_6_code
def yX4_lineOf : MethodName := ⟨RX4, "lineOf", "(I)I"⟩
abbrev cX4_lineBit : ByteArray := prog_6_method_7_code
def yX4_lineBit : MethodName := ⟨RX4, "lineBit", "(I)I"⟩
abbrev cX4_earsOf : ByteArray := prog_6_method_8_code
def yX4_earsOf : MethodName := ⟨RX4, "earsOf", "(I)I"⟩
abbrev cX4_onLine : ByteArray := prog_6_method_9_code
def yX4_onLine : MethodName := ⟨RX4, "onLine", "(I)I"⟩
abbrev cX4_way : ByteArray := prog_6_method_10_code
def yX4_way : MethodName := ⟨RX4, "way", "(II)J"⟩
abbrev cX4_farthest : ByteArray := prog_6_method_11_code
def yX4_farthest : MethodName := ⟨RX4, "farthest", "(I)I"⟩
abbrev cX4_wires : ByteArray := prog_6_method_12_code
def yX4_wires : MethodName := ⟨RX4, "wires", "(III)J"⟩
abbrev cX4_fallOut : ByteArray := prog_6_method_13_code
def yX4_fallOut : MethodName := ⟨RX4, "fallOut", "(II)Z"⟩
abbrev cX4_quarrelsWith : ByteArray := prog_6_method_14_code
def yX4_quarrelsWith : MethodName := ⟨RX4, "quarrelsWith", "(II)Z"⟩
def RX5 : String := "OneWire$Ledger"
def TX5 : u_T := fun k => match k with
  | 0 => ("OneWire$Ledger", "size", "I", false)
  | 1 => ("OneWire$Ledger", "farm", "[I", true)
  | 2 => ("OneWire$Ledger", "what", "[I", true)
  | 3 => ("OneWire$Ledger", "much", "[I", true)
  | _ => ("OneWire$Ledger", "day", "[I", true)
def tyX5 : Nat → FieldType := fun k => match k with
  | 0 => .int
  | 1 => .array .int
  | 2 => .array .int
  | 3 => .array .int
  | _ => .array .int
abbrev wsX50 : List Cond := u_ws RX5 TX5 5
theorem nmX5 : ∀ a, a < 5 → ∀ b, b < 5 → a ≠ b → (TX5 a).2.1 ≠ (TX5 b).2.1 := by decide +kernel
theorem tyX5_ok : ∀ k, k < 5 → parseFieldDescriptor (TX5 k).2.2.1 = some (tyX5 k) := by decide +kernel
abbrev cX5_init : ByteArray := prog_7_method_1_code
def yX5_init : MethodName := ⟨RX5, "<init>", "()V"⟩
abbrev cX5_copyFrom : ByteArray := prog_7_method_2_code
def yX5_copyFrom : MethodName := ⟨RX5, "copyFrom", "(LOneWire$Ledger;)V"⟩
abbrev cX5_add : ByteArray := prog_7_method_3_code
def yX5_add : MethodName := ⟨RX5, "add", "(IIII)V"⟩
abbrev cX5_paid : ByteArray := prog_7_method_4_code
def yX5_paid : MethodName := ⟨RX5, "paid", "(II)I"⟩
abbrev cX5_worth : ByteArray := prog_7_method_5_code
def yX5_worth : MethodName := ⟨RX5, "worth", "(III)I"⟩
def RX6 : String := "OneWire$Meetings"
def TX6 : u_T := fun k => match k with
  | 0 => ("OneWire$Meetings", "size", "I", false)
  | 1 => ("OneWire$Meetings", "annulled", "I", false)
  | 2 => ("OneWire$Meetings", "came", "[I", true)
  | 3 => ("OneWire$Meetings", "fors", "[I", true)
  | 4 => ("OneWire$Meetings", "hangsOn", "[I", true)
  | _ => ("OneWire$Meetings", "farms", "[I", true)
def tyX6 : Nat → FieldType := fun k => match k with
  | 0 => .int
  | 1 => .int
  | 2 => .array .int
  | 3 => .array .int
  | 4 => .array .int
  | _ => .array .int
abbrev wsX60 : List Cond := u_ws RX6 TX6 6
theorem nmX6 : ∀ a, a < 6 → ∀ b, b < 6 → a ≠ b → (TX6 a).2.1 ≠ (TX6 b).2.1 := by decide +kernel
theorem tyX6_ok : ∀ k, k < 6 → parseFieldDescriptor (TX6 k).2.2.1 = some (tyX6 k) := by decide +kernel
abbrev cX6_init : ByteArray := prog_8_method_1_code
def yX6_init : MethodName := ⟨RX6, "<init>", "()V"⟩
abbrev cX6_copyFrom : ByteArray := prog_8_method_2_code
def yX6_copyFrom : MethodName := ⟨RX6, "copyFrom", "(LOneWire$Meetings;)V"⟩
abbrev cX6_add : ByteArray := prog_8_method_3_code
def yX6_add : MethodName := ⟨RX6, "add", "(IIII)I"⟩
abbrev cX6_annul : ByteArray := prog_8_method_4_code
def yX6_annul : MethodName := ⟨RX6, "annul", "(I)Z"⟩
abbrev cX6_valid : ByteArray := prog_8_method_5_code
def yX6_valid : MethodName := ⟨RX6, "valid", "()I"⟩
def RX7 : String := "OneWire$Rules"
def TX7 : u_T := fun k => match k with
  | 0 => ("OneWire$Rules", "size", "I", false)
  | 1 => ("OneWire$Rules", "tape", "LOneWire$Tape;", true)
  | 2 => ("OneWire$Rules", "amount", "[I", true)
  | 3 => ("OneWire$Rules", "day", "[I", true)
  | 4 => ("OneWire$Rules", "clauses", "[I", true)
  | 5 => ("OneWire$Rules", "word", "[I", true)
  | 6 => ("OneWire$Rules", "start", "[I", true)
  | 7 => ("OneWire$Rules", "end", "[I", true)
  | _ => ("OneWire$Rules", "regarded", "[I", true)
def tyX7 : Nat → FieldType := fun k => match k with
  | 0 => .int
  | 1 => .object "OneWire$Tape"
  | 2 => .array .int
  | 3 => .array .int
  | 4 => .array .int
  | 5 => .array .int
  | 6 => .array .int
  | 7 => .array .int
  | _ => .array .int
abbrev wsX70 : List Cond := u_ws RX7 TX7 9
theorem nmX7 : ∀ a, a < 9 → ∀ b, b < 9 → a ≠ b → (TX7 a).2.1 ≠ (TX7 b).2.1 := by decide +kernel
theorem tyX7_ok : ∀ k, k < 9 → parseFieldDescriptor (TX7 k).2.2.1 = some (tyX7 k) := by decide +kernel
abbrev cX7_init : ByteArray := prog_9_method_1_code
def yX7_init : MethodName := ⟨RX7, "<init>", "()V"⟩
abbrev cX7_copyFrom : ByteArray := prog_9_method_2_code
def yX7_copyFrom : MethodName := ⟨RX7, "copyFrom", "(LOneWire$Rules;)V"⟩
abbrev cX7_asksCall : ByteArray := prog_9_method_3_code
def yX7_asksCall : MethodName := ⟨RX7, "asksCall", "(I)Z"⟩
abbrev cX7_usual : ByteArray := prog_9_method_4_code
def yX7_usual : MethodName := ⟨RX7, "usual", "(I)I"⟩
abbrev cX7_readTape : ByteArray := prog_9_method_5_code
def yX7_readTape : MethodName := ⟨RX7, "readTape", "()I"⟩
abbrev cX7_readClause : ByteArray := prog_9_method_6_code
def yX7_readClause : MethodName := ⟨RX7, "readClause", "(I)V"⟩
abbrev cX7_keep : ByteArray := prog_9_method_7_code
def yX7_keep : MethodName := ⟨RX7, "keep", "(I)I"⟩
abbrev cX7_dropLast : ByteArray := prog_9_method_8_code
def yX7_dropLast : MethodName := ⟨RX7, "dropLast", "()V"⟩
abbrev cX7_regard : ByteArray := prog_9_method_9_code
def yX7_regard : MethodName := ⟨RX7, "regard", "(IIIII)V"⟩
abbrev cX7_ruling : ByteArray := prog_9_method_10_code
def yX7_ruling : MethodName := ⟨RX7, "ruling", "(II)I"⟩
abbrev cX7_isTrue : ByteArray := prog_9_method_11_code
def yX7_isTrue : MethodName := ⟨RX7, "isTrue", "(I)Z"⟩
abbrev cX7_fits : ByteArray := prog_9_method_12_code
def yX7_fits : MethodName := ⟨RX7, "fits", "(II)Z"⟩
def RX8 : String := "OneWire$Tape"
def TX8 : u_T := fun k => match k with
  | 0 => ("OneWire$Tape", "size", "I", false)
  | 1 => ("OneWire$Tape", "place", "I", false)
  | 2 => ("OneWire$Tape", "written", "I", false)
  | 3 => ("OneWire$Tape", "isFault", "Z", false)
  | 4 => ("OneWire$Tape", "program", "[I", true)
  | _ => ("OneWire$Tape", "bytes", "[B", true)
def tyX8 : Nat → FieldType := fun k => match k with
  | 0 => .int
  | 1 => .int
  | 2 => .int
  | 3 => .boolean
  | 4 => .array .int
  | _ => .array .byte
abbrev wsX80 : List Cond := u_ws RX8 TX8 6
theorem nmX8 : ∀ a, a < 6 → ∀ b, b < 6 → a ≠ b → (TX8 a).2.1 ≠ (TX8 b).2.1 := by decide +kernel
theorem tyX8_ok : ∀ k, k < 6 → parseFieldDescriptor (TX8 k).2.2.1 = some (tyX8 k) := by decide +kernel
abbrev cX8_init : ByteArray := prog_10_method_1_code
def yX8_init : MethodName := ⟨RX8, "<init>", "()V"⟩
abbrev cX8_copyFrom : ByteArray := prog_10_method_2_code
def yX8_copyFrom : MethodName := ⟨RX8, "copyFrom", "(LOneWire$Tape;)V"⟩
abbrev cX8_take : ByteArray := prog_10_method_3_code
def yX8_take : MethodName := ⟨RX8, "take", "(JI)I"⟩
abbrev cX8_begin : ByteArray := prog_10_method_4_code
def yX8_begin : MethodName := ⟨RX8, "begin", "(I)V"⟩
abbrev cX8_isRead : ByteArray := prog_10_method_5_code
def yX8_isRead : MethodName := ⟨RX8, "isRead", "()Z"⟩
abbrev cX8_next : ByteArray := prog_10_method_6_code
def yX8_next : MethodName := ⟨RX8, "next", "()I"⟩
abbrev cX8_expect : ByteArray := prog_10_method_7_code
def yX8_expect : MethodName := ⟨RX8, "expect", "(I)V"⟩
abbrev cX8_write : ByteArray := prog_10_method_8_code
def yX8_write : MethodName := ⟨RX8, "write", "(I)V"⟩
abbrev cX8_word : ByteArray := prog_10_method_9_code
def yX8_word : MethodName := ⟨RX8, "word", "()I"⟩
abbrev cX8_spelled : ByteArray := prog_10_method_10_code
def yX8_spelled : MethodName := ⟨RX8, "spelled", "(I)Ljava/lang/String;"⟩
abbrev cX8_number : ByteArray := prog_10_method_11_code
def yX8_number : MethodName := ⟨RX8, "number", "()I"⟩
abbrev cX8_any : ByteArray := prog_10_method_12_code
def yX8_any : MethodName := ⟨RX8, "any", "(I)V"⟩
abbrev cX8_all : ByteArray := prog_10_method_13_code
def yX8_all : MethodName := ⟨RX8, "all", "(I)V"⟩
abbrev cX8_one : ByteArray := prog_10_method_14_code
def yX8_one : MethodName := ⟨RX8, "one", "(I)V"⟩
abbrev cX8_letter : ByteArray := prog_10_method_15_code
def yX8_letter : MethodName := ⟨RX8, "letter", "(I)I"⟩
def RX9 : String := "OneWire$Wires"
def TX9 : u_T := fun k => match k with
  | 0 => ("OneWire$Wires", "down", "J", false)
  | 1 => ("OneWire$Wires", "rings", "I", false)
  | 2 => ("OneWire$Wires", "maybes", "I", false)
  | 3 => ("OneWire$Wires", "fewest", "I", false)
  | 4 => ("OneWire$Wires", "rivals", "I", false)
  | 5 => ("OneWire$Wires", "could", "I", false)
  | 6 => ("OneWire$Wires", "way", "[J", true)
  | 7 => ("OneWire$Wires", "maybe", "[I", true)
  | _ => ("OneWire$Wires", "cuts", "[I", true)
def tyX9 : Nat → FieldType := fun k => match k with
  | 0 => .long
  | 1 => .int
  | 2 => .int
  | 3 => .int
  | 4 => .int
  | 5 => .int
  | 6 => .array .long
  | 7 => .array .int
  | _ => .array .int
abbrev wsX90 : List Cond := u_ws RX9 TX9 9
theorem nmX9 : ∀ a, a < 9 → ∀ b, b < 9 → a ≠ b → (TX9 a).2.1 ≠ (TX9 b).2.1 := by decide +kernel
theorem tyX9_ok : ∀ k, k < 9 → parseFieldDescriptor (TX9 k).2.2.1 = some (tyX9 k) := by decide +kernel
abbrev cX9_init : ByteArray := prog_11_method_1_code
def yX9_init : MethodName := ⟨RX9, "<init>", "()V"⟩
abbrev cX9_copyFrom : ByteArray := prog_11_method_2_code
def yX9_copyFrom : MethodName := ⟨RX9, "copyFrom", "(LOneWire$Wires;)V"⟩
abbrev cX9_turn : ByteArray := prog_11_method_3_code
def yX9_turn : MethodName := ⟨RX9, "turn", "(IZ)Z"⟩
abbrev cX9_addRing : ByteArray := prog_11_method_4_code
def yX9_addRing : MethodName := ⟨RX9, "addRing", "(JZ)I"⟩
abbrev cX9_isMaybe : ByteArray := prog_11_method_5_code
def yX9_isMaybe : MethodName := ⟨RX9, "isMaybe", "(I)Z"⟩
abbrev cX9_addMaybe : ByteArray := prog_11_method_6_code
def yX9_addMaybe : MethodName := ⟨RX9, "addMaybe", "(I)I"⟩
abbrev cX9_explain : ByteArray := prog_11_method_7_code
def yX9_explain : MethodName := ⟨RX9, "explain", "()V"⟩
abbrev cX9_cutsOf : ByteArray := prog_11_method_8_code
def yX9_cutsOf : MethodName := ⟨RX9, "cutsOf", "(I)I"⟩
abbrev cX9_explains : ByteArray := prog_11_method_9_code
def yX9_explains : MethodName := ⟨RX9, "explains", "(I)Z"⟩
def RX10 : String := "OneWire$World"
def TX10 : u_T := fun k => match k with
  | 0 => ("OneWire$World", "now", "I", false)
  | 1 => ("OneWire$World", "farms", "LOneWire$Farms;", true)
  | 2 => ("OneWire$World", "rules", "LOneWire$Rules;", true)
  | 3 => ("OneWire$World", "calls", "LOneWire$Calls;", true)
  | 4 => ("OneWire$World", "wires", "LOneWire$Wires;", true)
  | 5 => ("OneWire$World", "ledger", "LOneWire$Ledger;", true)
  | _ => ("OneWire$World", "meetings", "LOneWire$Meetings;", true)
def tyX10 : Nat → FieldType := fun k => match k with
  | 0 => .int
  | 1 => .object "OneWire$Farms"
  | 2 => .object "OneWire$Rules"
  | 3 => .object "OneWire$Calls"
  | 4 => .object "OneWire$Wires"
  | 5 => .object "OneWire$Ledger"
  | _ => .object "OneWire$Meetings"
abbrev wsX100 : List Cond := u_ws RX10 TX10 7
theorem nmX10 : ∀ a, a < 7 → ∀ b, b < 7 → a ≠ b → (TX10 a).2.1 ≠ (TX10 b).2.1 := by decide +kernel
theorem tyX10_ok : ∀ k, k < 7 → parseFieldDescriptor (TX10 k).2.2.1 = some (tyX10 k) := by decide +kernel
abbrev cX10_init : ByteArray := prog_12_method_1_code
def yX10_init : MethodName := ⟨RX10, "<init>", "()V"⟩
abbrev cX10_today : ByteArray := prog_12_method_2_code
def yX10_today : MethodName := ⟨RX10, "today", "()I"⟩
abbrev cX10_copyFrom : ByteArray := prog_12_method_3_code
def yX10_copyFrom : MethodName := ⟨RX10, "copyFrom", "(LOneWire$World;)V"⟩
abbrev cX10_regard : ByteArray := prog_12_method_4_code
def yX10_regard : MethodName := ⟨RX10, "regard", "(I)V"⟩
abbrev cX10_ruled : ByteArray := prog_12_method_5_code
def yX10_ruled : MethodName := ⟨RX10, "ruled", "(III)I"⟩
abbrev cX10_rankOn : ByteArray := prog_12_method_6_code
def yX10_rankOn : MethodName := ⟨RX10, "rankOn", "(II)I"⟩
abbrev cX10_isFaint : ByteArray := prog_12_method_7_code
def yX10_isFaint : MethodName := ⟨RX10, "isFaint", "(I)Z"⟩
abbrev cX10_tellable : ByteArray := prog_12_method_8_code
def yX10_tellable : MethodName := ⟨RX10, "tellable", "(I)I"⟩
abbrev cX10_dueOn : ByteArray := prog_12_method_9_code
def yX10_dueOn : MethodName := ⟨RX10, "dueOn", "(II)I"⟩
abbrev cX10_behindOn : ByteArray := prog_12_method_10_code
def yX10_behindOn : MethodName := ⟨RX10, "behindOn", "(II)I"⟩
abbrev cX10_behindFrom : ByteArray := prog_12_method_11_code
def yX10_behindFrom : MethodName := ⟨RX10, "behindFrom", "(I)I"⟩
def RX11 : String := "OneWire"
def TX11 : u_T := fun k => match k with
  | 0 => ("OneWire", "world", "LOneWire$World;", true)
  | 1 => ("OneWire", "exchange", "LOneWire$Exchange;", true)
  | 2 => ("OneWire", "codes", "LOneWire$Codes;", true)
  | 3 => ("OneWire", "division", "LOneWire$Division;", true)
  | _ => ("OneWire", "kept", "LOneWire$World;", false)
def tyX11 : Nat → FieldType := fun k => match k with
  | 0 => .object "OneWire$World"
  | 1 => .object "OneWire$Exchange"
  | 2 => .object "OneWire$Codes"
  | 3 => .object "OneWire$Division"
  | _ => .object "OneWire$World"
abbrev wsX110 : List Cond := u_ws RX11 TX11 5
theorem nmX11 : ∀ a, a < 5 → ∀ b, b < 5 → a ≠ b → (TX11 a).2.1 ≠ (TX11 b).2.1 := by decide +kernel
theorem tyX11_ok : ∀ k, k < 5 → parseFieldDescriptor (TX11 k).2.2.1 = some (tyX11 k) := by decide +kernel
abbrev cX11_init : ByteArray := prog_1_method_1_code
def yX11_init : MethodName := ⟨RX11, "<init>", "()V"⟩
abbrev cX11_farm : ByteArray := prog_1_method_2_code
def yX11_farm : MethodName := ⟨RX11, "farm", "(III)I"⟩
abbrev cX11_code : ByteArray := prog_1_method_3_code
def yX11_code : MethodName := ⟨RX11, "code", "(III)I"⟩
abbrev cX11_like : ByteArray := prog_1_method_4_code
def yX11_like : MethodName := ⟨RX11, "like", "(II)I"⟩
abbrev cX11_mistakes : ByteArray := prog_1_method_5_code
def yX11_mistakes : MethodName := ⟨RX11, "mistakes", "(I)I"⟩
abbrev cX11_best : ByteArray := prog_1_method_6_code
def yX11_best : MethodName := ⟨RX11, "best", "(III)I"⟩
abbrev cX11_feed : ByteArray := prog_1_method_7_code
def yX11_feed : MethodName := ⟨RX11, "feed", "(JI)I"⟩
abbrev cX11_text : ByteArray := prog_1_method_8_code
def yX11_text : MethodName := ⟨RX11, "text", "(I)I"⟩
abbrev cX11_force : ByteArray := prog_1_method_9_code
def yX11_force : MethodName := ⟨RX11, "force", "(III)I"⟩
abbrev cX11_why : ByteArray := prog_1_method_10_code
def yX11_why : MethodName := ⟨RX11, "why", "(III)I"⟩
abbrev cX11_ring : ByteArray := prog_1_method_11_code
def yX11_ring : MethodName := ⟨RX11, "ring", "(III)I"⟩
abbrev cX11_call : ByteArray := prog_1_method_12_code
def yX11_call : MethodName := ⟨RX11, "call", "(III)I"⟩
abbrev cX11_of : ByteArray := prog_1_method_13_code
def yX11_of : MethodName := ⟨RX11, "of", "(II)I"⟩
abbrev cX11_as : ByteArray := prog_1_method_14_code
def yX11_as : MethodName := ⟨RX11, "as", "(II)I"⟩
abbrev cX11_minute : ByteArray := prog_1_method_15_code
def yX11_minute : MethodName := ⟨RX11, "minute", "(I)I"⟩
abbrev cX11_board : ByteArray := prog_1_method_16_code
def yX11_board : MethodName := ⟨RX11, "board", "(II)I"⟩
abbrev cX11_listen : ByteArray := prog_1_method_17_code
def yX11_listen : MethodName := ⟨RX11, "listen", "(II)I"⟩
abbrev cX11_heard : ByteArray := prog_1_method_18_code
def yX11_heard : MethodName := ⟨RX11, "heard", "(I)I"⟩
abbrev cX11_down : ByteArray := prog_1_method_19_code
def yX11_down : MethodName := ⟨RX11, "down", "(IIZ)I"⟩
abbrev cX11_reach : ByteArray := prog_1_method_20_code
def yX11_reach : MethodName := ⟨RX11, "reach", "(II)I"⟩
abbrev cX11_told : ByteArray := prog_1_method_21_code
def yX11_told : MethodName := ⟨RX11, "told", "(IIZ)I"⟩
abbrev cX11_maybe : ByteArray := prog_1_method_22_code
def yX11_maybe : MethodName := ⟨RX11, "maybe", "(II)I"⟩
abbrev cX11_storm : ByteArray := prog_1_method_23_code
def yX11_storm : MethodName := ⟨RX11, "storm", "(I)I"⟩
abbrev cX11_pay : ByteArray := prog_1_method_24_code
def yX11_pay : MethodName := ⟨RX11, "pay", "(III)I"⟩
abbrev cX11_behind : ByteArray := prog_1_method_25_code
def yX11_behind : MethodName := ⟨RX11, "behind", "(II)I"⟩
abbrev cX11_since : ByteArray := prog_1_method_26_code
def yX11_since : MethodName := ⟨RX11, "since", "(I)I"⟩
abbrev cX11_town : ByteArray := prog_1_method_27_code
def yX11_town : MethodName := ⟨RX11, "town", "(III)I"⟩
abbrev cX11_quarrel : ByteArray := prog_1_method_28_code
def yX11_quarrel : MethodName := ⟨RX11, "quarrel", "(II)I"⟩
abbrev cX11_divide : ByteArray := prog_1_method_29_code
def yX11_divide : MethodName := ⟨RX11, "divide", "(III)I"⟩
abbrev cX11_vote : ByteArray := prog_1_method_30_code
def yX11_vote : MethodName := ⟨RX11, "vote", "(III)I"⟩
abbrev cX11_nought : ByteArray := prog_1_method_31_code
def yX11_nought : MethodName := ⟨RX11, "nought", "(I)I"⟩
abbrev cX11_counting : ByteArray := prog_1_method_32_code
def yX11_counting : MethodName := ⟨RX11, "counting", "()I"⟩
abbrev cX11_tried : ByteArray := prog_1_method_33_code
def yX11_tried : MethodName := ⟨RX11, "tried", "(II)I"⟩
abbrev cX11_image : ByteArray := prog_1_method_34_code
def yX11_image : MethodName := ⟨RX11, "image", "()I"⟩
abbrev cX11_undo : ByteArray := prog_1_method_35_code
def yX11_undo : MethodName := ⟨RX11, "undo", "()I"⟩
abbrev cX11_count : ByteArray := prog_1_method_36_code
def yX11_count : MethodName := ⟨RX11, "count", "(I)I"⟩
abbrev cX11_within : ByteArray := prog_1_method_37_code
def yX11_within : MethodName := ⟨RX11, "within", "(III)Z"⟩
abbrev cX11_isWire : ByteArray := prog_1_method_38_code
def yX11_isWire : MethodName := ⟨RX11, "isWire", "(II)Z"⟩
abbrev cX11_hasWord : ByteArray := prog_1_method_39_code
def yX11_hasWord : MethodName := ⟨RX11, "hasWord", "(II)Z"⟩
abbrev cX11_mayLast : ByteArray := prog_1_method_40_code
def yX11_mayLast : MethodName := ⟨RX11, "mayLast", "(I)Z"⟩
def RX12 : String := "OneWireModel"
def TX12 : u_T := fun k => match k with
  | 0 => ("OneWireModel", "thrown", "I", false)
  | 1 => ("OneWireModel", "s", "[I", true)
  | 2 => ("OneWireModel", "row", "[I", true)
  | 3 => ("OneWireModel", "best", "[I", true)
  | 4 => ("OneWireModel", "least", "I", false)
  | 5 => ("OneWireModel", "leastSigns", "I", false)
  | 6 => ("OneWireModel", "begin", "I", false)
  | 7 => ("OneWireModel", "size", "I", false)
  | 8 => ("OneWireModel", "here", "I", false)
  | 9 => ("OneWireModel", "open", "I", false)
  | 10 => ("OneWireModel", "bad", "Z", false)
  | 11 => ("OneWireModel", "about", "I", false)
  | 12 => ("OneWireModel", "found", "Z", false)
  | 13 => ("OneWireModel", "value", "I", false)
  | 14 => ("OneWireModel", "place", "I", false)
  | 15 => ("OneWireModel", "looked", "[Z", true)
  | 16 => ("OneWireModel", "ranks", "[I", true)
  | 17 => ("OneWireModel", "askedOf", "[I", true)
  | 18 => ("OneWireModel", "kept", "[I", true)
  | _ => ("OneWireModel", "hasImage", "Z", false)
def tyX12 : Nat → FieldType := fun k => match k with
  | 0 => .int
  | 1 => .array .int
  | 2 => .array .int
  | 3 => .array .int
  | 4 => .int
  | 5 => .int
  | 6 => .int
  | 7 => .int
  | 8 => .int
  | 9 => .int
  | 10 => .boolean
  | 11 => .int
  | 12 => .boolean
  | 13 => .int
  | 14 => .int
  | 15 => .array .boolean
  | 16 => .array .int
  | 17 => .array .int
  | 18 => .array .int
  | _ => .boolean
abbrev wsX120 : List Cond := u_ws RX12 TX12 20
theorem nmX12 : ∀ a, a < 20 → ∀ b, b < 20 → a ≠ b → (TX12 a).2.1 ≠ (TX12 b).2.1 := by decide +kernel
theorem tyX12_ok : ∀ k, k < 20 → parseFieldDescriptor (TX12 k).2.2.1 = some (tyX12 k) := by decide +kernel
abbrev cX12_in : ByteArray := prog_14_method_2_code
def yX12_in : MethodName := ⟨RX12, "in", "(III)Z"⟩
abbrev cX12_init : ByteArray := prog_14_method_3_code
def yX12_init : MethodName := ⟨RX12, "<init>", "()V"⟩
abbrev cX12_isLine : ByteArray := prog_14_method_4_code
def yX12_isLine : MethodName := ⟨RX12, "isLine", "(I)Z"⟩
abbrev cX12_isFarm : ByteArray := prog_14_method_5_code
def yX12_isFarm : MethodName := ⟨RX12, "isFarm", "(I)Z"⟩
abbrev cX12_isCall : ByteArray := prog_14_method_6_code
def yX12_isCall : MethodName := ⟨RX12, "isCall", "(I)Z"⟩
abbrev cX12_f : ByteArray := prog_14_method_7_code
def yX12_f : MethodName := ⟨RX12, "f", "(II)I"⟩
abbrev cX12_c : ByteArray := prog_14_method_8_code
def yX12_c : MethodName := ⟨RX12, "c", "(II)I"⟩
abbrev cX12_day : ByteArray := prog_14_method_9_code
def yX12_day : MethodName := ⟨RX12, "day", "()I"⟩
abbrev cX12_isDay : ByteArray := prog_14_method_10_code
def yX12_isDay : MethodName := ⟨RX12, "isDay", "(I)Z"⟩
abbrev cX12_farm : ByteArray := prog_14_method_11_code
def yX12_farm : MethodName := ⟨RX12, "farm", "(III)I"⟩
abbrev cX12_code : ByteArray := prog_14_method_12_code
def yX12_code : MethodName := ⟨RX12, "code", "(III)I"⟩
abbrev cX12_bitsOf : ByteArray := prog_14_method_13_code
def yX12_bitsOf : MethodName := ⟨RX12, "bitsOf", "(I)I"⟩
abbrev cX12_alike : ByteArray := prog_14_method_14_code
def yX12_alike : MethodName := ⟨RX12, "alike", "(II)I"⟩
abbrev cX12_like : ByteArray := prog_14_method_15_code
def yX12_like : MethodName := ⟨RX12, "like", "(II)I"⟩
abbrev cX12_mistakes : ByteArray := prog_14_method_16_code
def yX12_mistakes : MethodName := ⟨RX12, "mistakes", "(I)I"⟩
abbrev cX12_give : ByteArray := prog_14_method_17_code
def yX12_give : MethodName := ⟨RX12, "give", "(IIIII)V"⟩
abbrev cX12_best : ByteArray := prog_14_method_18_code
def yX12_best : MethodName := ⟨RX12, "best", "(III)I"⟩
abbrev cX12_byteHere : ByteArray := prog_14_method_19_code
def yX12_byteHere : MethodName := ⟨RX12, "byteHere", "()I"⟩
abbrev cX12_sign : ByteArray := prog_14_method_20_code
def yX12_sign : MethodName := ⟨RX12, "sign", "(I)V"⟩
abbrev cX12_spell : ByteArray := prog_14_method_21_code
def yX12_spell : MethodName := ⟨RX12, "spell", "(IIIII)V"⟩
abbrev cX12_word : ByteArray := prog_14_method_22_code
def yX12_word : MethodName := ⟨RX12, "word", "()I"⟩
abbrev cX12_isDigit : ByteArray := prog_14_method_23_code
def yX12_isDigit : MethodName := ⟨RX12, "isDigit", "(I)Z"⟩
abbrev cX12_number : ByteArray := prog_14_method_24_code
def yX12_number : MethodName := ⟨RX12, "number", "()I"⟩
abbrev cX12_opens : ByteArray := prog_14_method_25_code
def yX12_opens : MethodName := ⟨RX12, "opens", "()V"⟩
abbrev cX12_fact : ByteArray := prog_14_method_26_code
def yX12_fact : MethodName := ⟨RX12, "fact", "(I)I"⟩
abbrev cX12_one : ByteArray := prog_14_method_27_code
def yX12_one : MethodName := ⟨RX12, "one", "()Z"⟩
abbrev cX12_both : ByteArray := prog_14_method_28_code
def yX12_both : MethodName := ⟨RX12, "both", "()Z"⟩
abbrev cX12_either : ByteArray := prog_14_method_29_code
def yX12_either : MethodName := ⟨RX12, "either", "()Z"⟩
abbrev cX12_goesThrough : ByteArray := prog_14_method_30_code
def yX12_goesThrough : MethodName := ⟨RX12, "goesThrough", "(IIII)V"⟩
abbrev cX12_feed : ByteArray := prog_14_method_31_code
def yX12_feed : MethodName := ⟨RX12, "feed", "(JI)I"⟩
abbrev cX12_text : ByteArray := prog_14_method_32_code
def yX12_text : MethodName := ⟨RX12, "text", "(I)I"⟩
abbrev cX12_plain : ByteArray := prog_14_method_33_code
def yX12_plain : MethodName := ⟨RX12, "plain", "(I)I"⟩
abbrev cX12_nextRule : ByteArray := prog_14_method_34_code
def yX12_nextRule : MethodName := ⟨RX12, "nextRule", "(II)I"⟩
abbrev cX12_rules : ByteArray := prog_14_method_35_code
def yX12_rules : MethodName := ⟨RX12, "rules", "(III)I"⟩
abbrev cX12_says : ByteArray := prog_14_method_36_code
def yX12_says : MethodName := ⟨RX12, "says", "(III)I"⟩
abbrev cX12_isAsked : ByteArray := prog_14_method_37_code
def yX12_isAsked : MethodName := ⟨RX12, "isAsked", "(II)Z"⟩
abbrev cX12_force : ByteArray := prog_14_method_38_code
def yX12_force : MethodName := ⟨RX12, "force", "(III)I"⟩
abbrev cX12_why : ByteArray := prog_14_method_39_code
def yX12_why : MethodName := ⟨RX12, "why", "(III)I"⟩
abbrev cX12_asks : ByteArray := prog_14_method_40_code
def yX12_asks : MethodName := ⟨RX12, "asks", "(IIII)I"⟩
abbrev cX12_ring : ByteArray := prog_14_method_41_code
def yX12_ring : MethodName := ⟨RX12, "ring", "(III)I"⟩
abbrev cX12_call : ByteArray := prog_14_method_42_code
def yX12_call : MethodName := ⟨RX12, "call", "(III)I"⟩
abbrev cX12_shifted : ByteArray := prog_14_method_43_code
def yX12_shifted : MethodName := ⟨RX12, "shifted", "(II)I"⟩
abbrev cX12_rankOf : ByteArray := prog_14_method_44_code
def yX12_rankOf : MethodName := ⟨RX12, "rankOf", "(I)I"⟩
abbrev cX12_costOf : ByteArray := prog_14_method_45_code
def yX12_costOf : MethodName := ⟨RX12, "costOf", "(I)I"⟩
abbrev cX12_lineOf : ByteArray := prog_14_method_46_code
def yX12_lineOf : MethodName := ⟨RX12, "lineOf", "(I)I"⟩
abbrev cX12_needs : ByteArray := prog_14_method_47_code
def yX12_needs : MethodName := ⟨RX12, "needs", "(II)Z"⟩
abbrev cX12_isByBoard : ByteArray := prog_14_method_48_code
def yX12_isByBoard : MethodName := ⟨RX12, "isByBoard", "(I)Z"⟩
abbrev cX12_onLine : ByteArray := prog_14_method_49_code
def yX12_onLine : MethodName := ⟨RX12, "onLine", "(I)I"⟩
abbrev cX12_off : ByteArray := prog_14_method_50_code
def yX12_off : MethodName := ⟨RX12, "off", "(II)I"⟩
abbrev cX12_loudOf : ByteArray := prog_14_method_51_code
def yX12_loudOf : MethodName := ⟨RX12, "loudOf", "(I)I"⟩
abbrev cX12_of : ByteArray := prog_14_method_52_code
def yX12_of : MethodName := ⟨RX12, "of", "(II)I"⟩
abbrev cX12_over : ByteArray := prog_14_method_53_code
def yX12_over : MethodName := ⟨RX12, "over", "(I)I"⟩
abbrev cX12_as : ByteArray := prog_14_method_54_code
def yX12_as : MethodName := ⟨RX12, "as", "(II)I"⟩
abbrev cX12_isDown : ByteArray := prog_14_method_55_code
def yX12_isDown : MethodName := ⟨RX12, "isDown", "(III)Z"⟩
abbrev cX12_isUp : ByteArray := prog_14_method_56_code
def yX12_isUp : MethodName := ⟨RX12, "isUp", "(IIII)Z"⟩
abbrev cX12_toBoard : ByteArray := prog_14_method_57_code
def yX12_toBoard : MethodName := ⟨RX12, "toBoard", "(II)Z"⟩
abbrev cX12_between : ByteArray := prog_14_method_58_code
def yX12_between : MethodName := ⟨RX12, "between", "(III)Z"⟩
abbrev cX12_reaches : ByteArray := prog_14_method_59_code
def yX12_reaches : MethodName := ⟨RX12, "reaches", "(III)Z"⟩
abbrev cX12_isFree : ByteArray := prog_14_method_60_code
def yX12_isFree : MethodName := ⟨RX12, "isFree", "(I)Z"⟩
abbrev cX12_goesBy : ByteArray := prog_14_method_61_code
def yX12_goesBy : MethodName := ⟨RX12, "goesBy", "()V"⟩
abbrev cX12_nextWaiting : ByteArray := prog_14_method_62_code
def yX12_nextWaiting : MethodName := ⟨RX12, "nextWaiting", "()I"⟩
abbrev cX12_minute : ByteArray := prog_14_method_63_code
def yX12_minute : MethodName := ⟨RX12, "minute", "(I)I"⟩
abbrev cX12_board : ByteArray := prog_14_method_64_code
def yX12_board : MethodName := ⟨RX12, "board", "(II)I"⟩
abbrev cX12_inCall : ByteArray := prog_14_method_65_code
def yX12_inCall : MethodName := ⟨RX12, "inCall", "(I)I"⟩
abbrev cX12_listen : ByteArray := prog_14_method_66_code
def yX12_listen : MethodName := ⟨RX12, "listen", "(II)I"⟩
abbrev cX12_heard : ByteArray := prog_14_method_67_code
def yX12_heard : MethodName := ⟨RX12, "heard", "(I)I"⟩
abbrev cX12_isWire : ByteArray := prog_14_method_68_code
def yX12_isWire : MethodName := ⟨RX12, "isWire", "(II)Z"⟩
abbrev cX12_down : ByteArray := prog_14_method_69_code
def yX12_down : MethodName := ⟨RX12, "down", "(IIZ)I"⟩
abbrev cX12_isEnd : ByteArray := prog_14_method_70_code
def yX12_isEnd : MethodName := ⟨RX12, "isEnd", "(I)Z"⟩
abbrev cX12_reach : ByteArray := prog_14_method_71_code
def yX12_reach : MethodName := ⟨RX12, "reach", "(II)I"⟩
abbrev cX12_told : ByteArray := prog_14_method_72_code
def yX12_told : MethodName := ⟨RX12, "told", "(IIZ)I"⟩
abbrev cX12_maybe : ByteArray := prog_14_method_73_code
def yX12_maybe : MethodName := ⟨RX12, "maybe", "(II)I"⟩
abbrev cX12_explains : ByteArray := prog_14_method_74_code
def yX12_explains : MethodName := ⟨RX12, "explains", "(I)Z"⟩
abbrev cX12_storm : ByteArray := prog_14_method_75_code
def yX12_storm : MethodName := ⟨RX12, "storm", "(I)I"⟩
abbrev cX12_pay : ByteArray := prog_14_method_76_code
def yX12_pay : MethodName := ⟨RX12, "pay", "(III)I"⟩
abbrev cX12_paid : ByteArray := prog_14_method_77_code
def yX12_paid : MethodName := ⟨RX12, "paid", "(III)I"⟩
abbrev cX12_behindOn : ByteArray := prog_14_method_78_code
def yX12_behindOn : MethodName := ⟨RX12, "behindOn", "(II)I"⟩
abbrev cX12_behind : ByteArray := prog_14_method_79_code
def yX12_behind : MethodName := ⟨RX12, "behind", "(II)I"⟩
abbrev cX12_since : ByteArray := prog_14_method_80_code
def yX12_since : MethodName := ⟨RX12, "since", "(I)I"⟩
abbrev cX12_town : ByteArray := prog_14_method_81_code
def yX12_town : MethodName := ⟨RX12, "town", "(III)I"⟩
abbrev cX12_quarrel : ByteArray := prog_14_method_82_code
def yX12_quarrel : MethodName := ⟨RX12, "quarrel", "(II)I"⟩
abbrev cX12_asked : ByteArray := prog_14_method_83_code
def yX12_asked : MethodName := ⟨RX12, "asked", "(II)I"⟩
abbrev cX12_part : ByteArray := prog_14_method_84_code
def yX12_part : MethodName := ⟨RX12, "part", "(IIII)V"⟩
abbrev cX12_divide : ByteArray := prog_14_method_85_code
def yX12_divide : MethodName := ⟨RX12, "divide", "(III)I"⟩
abbrev cX12_vote : ByteArray := prog_14_method_86_code
def yX12_vote : MethodName := ⟨RX12, "vote", "(III)I"⟩
abbrev cX12_nought : ByteArray := prog_14_method_87_code
def yX12_nought : MethodName := ⟨RX12, "nought", "(I)I"⟩
abbrev cX12_counting : ByteArray := prog_14_method_88_code
def yX12_counting : MethodName := ⟨RX12, "counting", "()I"⟩
abbrev cX12_triedSays : ByteArray := prog_14_method_89_code
def yX12_triedSays : MethodName := ⟨RX12, "triedSays", "(III)I"⟩
abbrev cX12_tried : ByteArray := prog_14_method_90_code
def yX12_tried : MethodName := ⟨RX12, "tried", "(II)I"⟩
abbrev cX12_image : ByteArray := prog_14_method_91_code
def yX12_image : MethodName := ⟨RX12, "image", "()I"⟩
abbrev cX12_undo : ByteArray := prog_14_method_92_code
def yX12_undo : MethodName := ⟨RX12, "undo", "()I"⟩
abbrev cX12_inState : ByteArray := prog_14_method_93_code
def yX12_inState : MethodName := ⟨RX12, "inState", "(I)I"⟩
abbrev cX12_count : ByteArray := prog_14_method_94_code
def yX12_count : MethodName := ⟨RX12, "count", "(I)I"⟩
def RJ6 : String := "java/lang/Integer"
def TJ6 : u_T := fun k => match k with
  | _ => ("", "", "", false)
def tyJ6 : Nat → FieldType := fun k => match k with
  | _ => .int
abbrev wsJ60 : List Cond := u_ws RJ6 TJ6 0
theorem nmJ6 : ∀ a, a < 0 → ∀ b, b < 0 → a ≠ b → (TJ6 a).2.1 ≠ (TJ6 b).2.1 := by decide +kernel
theorem tyJ6_ok : ∀ k, k < 0 → parseFieldDescriptor (TJ6 k).2.2.1 = some (tyJ6 k) := by decide +kernel
abbrev cJ6_bitCount_0f7a4 : ByteArray := prog_15_method_49_code
def yJ6_bitCount_0f7a4 : MethodName := ⟨RJ6, "bitCount", "(I)I"⟩
def RJ13 : String := "java/lang/Long"
def TJ13 : u_T := fun k => match k with
  | _ => ("", "", "", false)
def tyJ13 : Nat → FieldType := fun k => match k with
  | _ => .int
abbrev wsJ130 : List Cond := u_ws RJ13 TJ13 0
theorem nmJ13 : ∀ a, a < 0 → ∀ b, b < 0 → a ≠ b → (TJ13 a).2.1 ≠ (TJ13 b).2.1 := by decide +kernel
theorem tyJ13_ok : ∀ k, k < 0 → parseFieldDescriptor (TJ13 k).2.2.1 = some (tyJ13 k) := by decide +kernel
abbrev cJ13_bitCount_95d88 : ByteArray := prog_16_method_50_code
def yJ13_bitCount_95d88 : MethodName := ⟨RJ13, "bitCount", "(J)I"⟩
def RJ9 : String := "java/lang/Math"
def TJ9 : u_T := fun k => match k with
  | _ => ("", "", "", false)
def tyJ9 : Nat → FieldType := fun k => match k with
  | _ => .int
abbrev wsJ90 : List Cond := u_ws RJ9 TJ9 0
theorem nmJ9 : ∀ a, a < 0 → ∀ b, b < 0 → a ≠ b → (TJ9 a).2.1 ≠ (TJ9 b).2.1 := by decide +kernel
theorem tyJ9_ok : ∀ k, k < 0 → parseFieldDescriptor (TJ9 k).2.2.1 = some (tyJ9 k) := by decide +kernel
abbrev cJ9_max_7cf53 : ByteArray := prog_17_method_65_code
def yJ9_max_7cf53 : MethodName := ⟨RJ9, "max", "(II)I"⟩
abbrev cJ9_min_7cf53 : ByteArray := prog_17_method_69_code
def yJ9_min_7cf53 : MethodName := ⟨RJ9, "min", "(II)I"⟩
def RJ0 : String := "java/lang/String"
def TJ0 : u_T := fun k => match k with
  | _ => ("", "", "", false)
def tyJ0 : Nat → FieldType := fun k => match k with
  | _ => .int
abbrev wsJ00 : List Cond := u_ws RJ0 TJ0 0
theorem nmJ0 : ∀ a, a < 0 → ∀ b, b < 0 → a ≠ b → (TJ0 a).2.1 ≠ (TJ0 b).2.1 := by decide +kernel
theorem tyJ0_ok : ∀ k, k < 0 → parseFieldDescriptor (TJ0 k).2.2.1 = some (tyJ0 k) := by decide +kernel
abbrev cJ0_length_8abf5 : ByteArray := prog_18_method_54_code
def yJ0_length_8abf5 : MethodName := ⟨RJ0, "length", "()I"⟩
abbrev cJ0_charAt_5068e : ByteArray := prog_18_method_56_code
def yJ0_charAt_5068e : MethodName := ⟨RJ0, "charAt", "(I)C"⟩
abbrev cJ0_coder_7d493 : ByteArray := prog_18_method_152_code
def yJ0_coder_7d493 : MethodName := ⟨RJ0, "coder", "()B"⟩
abbrev cJ0_isLatin1_aae02 : ByteArray := prog_18_method_154_code
def yJ0_isLatin1_aae02 : MethodName := ⟨RJ0, "isLatin1", "()Z"⟩
abbrev cJ0_checkIndex_df160 : ByteArray := prog_18_method_155_code
def yJ0_checkIndex_df160 : MethodName := ⟨RJ0, "checkIndex", "(II)V"⟩
def RJ1 : String := "java/lang/StringLatin1"
def TJ1 : u_T := fun k => match k with
  | _ => ("", "", "", false)
def tyJ1 : Nat → FieldType := fun k => match k with
  | _ => .int
abbrev wsJ10 : List Cond := u_ws RJ1 TJ1 0
theorem nmJ1 : ∀ a, a < 0 → ∀ b, b < 0 → a ≠ b → (TJ1 a).2.1 ≠ (TJ1 b).2.1 := by decide +kernel
theorem tyJ1_ok : ∀ k, k < 0 → parseFieldDescriptor (TJ1 k).2.2.1 = some (tyJ1 k) := by decide +kernel
abbrev cJ1_charAt_3b067 : ByteArray := prog_19_method_2_code
def yJ1_charAt_3b067 : MethodName := ⟨RJ1, "charAt", "([BI)C"⟩
def RJ2 : String := "java/lang/StringUTF16"
def TJ2 : u_T := fun k => match k with
  | _ => ("", "", "", false)
def tyJ2 : Nat → FieldType := fun k => match k with
  | _ => .int
abbrev wsJ20 : List Cond := u_ws RJ2 TJ2 0
theorem nmJ2 : ∀ a, a < 0 → ∀ b, b < 0 → a ≠ b → (TJ2 a).2.1 ≠ (TJ2 b).2.1 := by decide +kernel
theorem tyJ2_ok : ∀ k, k < 0 → parseFieldDescriptor (TJ2 k).2.2.1 = some (tyJ2 k) := by decide +kernel
abbrev cJ2_getChar_3b067 : ByteArray := prog_20_method_5_code
def yJ2_getChar_3b067 : MethodName := ⟨RJ2, "getChar", "([BI)C"⟩
abbrev cJ2_length_9d52b : ByteArray := prog_20_method_6_code
def yJ2_length_9d52b : MethodName := ⟨RJ2, "length", "([B)I"⟩
abbrev cJ2_charAt_3b067 : ByteArray := prog_20_method_83_code
def yJ2_charAt_3b067 : MethodName := ⟨RJ2, "charAt", "([BI)C"⟩
abbrev cJ2_checkIndex_2214a : ByteArray := prog_20_method_91_code
def yJ2_checkIndex_2214a : MethodName := ⟨RJ2, "checkIndex", "(I[B)V"⟩
def RJ10 : String := "java/lang/System"
def TJ10 : u_T := fun k => match k with
  | _ => ("", "", "", false)
def tyJ10 : Nat → FieldType := fun k => match k with
  | _ => .int
abbrev wsJ100 : List Cond := u_ws RJ10 TJ10 0
theorem nmJ10 : ∀ a, a < 0 → ∀ b, b < 0 → a ≠ b → (TJ10 a).2.1 ≠ (TJ10 b).2.1 := by decide +kernel
theorem tyJ10_ok : ∀ k, k < 0 → parseFieldDescriptor (TJ10 k).2.2.1 = some (tyJ10 k) := by decide +kernel
def RJ3 : String := "jdk/internal/util/Preconditions"
def TJ3 : u_T := fun k => match k with
  | _ => ("", "", "", false)
def tyJ3 : Nat → FieldType := fun k => match k with
  | _ => .int
abbrev wsJ30 : List Cond := u_ws RJ3 TJ3 0
theorem nmJ3 : ∀ a, a < 0 → ∀ b, b < 0 → a ≠ b → (TJ3 a).2.1 ≠ (TJ3 b).2.1 := by decide +kernel
theorem tyJ3_ok : ∀ k, k < 0 → parseFieldDescriptor (TJ3 k).2.2.1 = some (tyJ3 k) := by decide +kernel
abbrev cJ3_checkIndex_8e157 : ByteArray := prog_22_method_11_code
def yJ3_checkIndex_8e157 : MethodName := ⟨RJ3, "checkIndex", "(IILjava/util/function/BiFunction;)I"⟩
def RL : String := "OneWireLaw"
abbrev cL_law : ByteArray := code
def yL_law : MethodName := ⟨RL, "law", "([I)Z"⟩
abbrev vwCl : List vw_C := [(RX0, TX0, 11), (RX1, TX1, 6), (RX2, TX2, 7), (RX3, TX3, 6), (RX4, TX4, 7), (RX5, TX5, 5), (RX6, TX6, 6), (RX7, TX7, 9), (RX8, TX8, 6), (RX9, TX9, 9), (RX10, TX10, 7), (RX11, TX11, 5), (RX12, TX12, 20)]
