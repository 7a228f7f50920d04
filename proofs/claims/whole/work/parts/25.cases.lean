/-! a case of the law out of a run of the class and one of the model (by wip/whole/gencase.py) -/
def Md (d m : Nat) (L : List (Option aV)) (x : Int) (G : aG) (I J : aI) : Prop := At d m 0 L [] G I J (fun v G2 I2 J2 => v = some (vI x) ∧ ∃ b, LV b G2 I2 J2 ∧ Sc I I2)
def Cl (d m m2 : Nat) (L L2 : List (Option aV)) (G : aG) (I J : aI) : Prop := At d m 0 L [] G I J (fun v G2 I2 J2 => ∃ x b, v = some (vI x) ∧ GW b G2 ∧ Sc I I2 ∧ Md d m2 L2 x G2 I2 J2)
section CW
variable {d : Nat} {b : Bool} {G : aG} {I J : aI} {Q : Option aV → aG → aI → aI → Prop}
theorem lawc_0 {x3 : Int} (hG : GW b G) (h0 : 0 ≤ x3) (h1 : x3 + 3 < I 1061 0) (h2 : I 1061 0 ≤ 256) (h : Cl d 109 157 [some (vR 0), some (vI (I 1060 (x3 + 1))), some (vI (I 1060 (x3 + 2))), some (vI (I 1060 (x3 + 3)))] [some (vR 56), some (vI (I 1060 (x3 + 1))), some (vI (I 1060 (x3 + 2))), some (vI (I 1060 (x3 + 3))), none] G I J) (K : ∀ b2 G2 I2 J2, LV b2 G2 I2 J2 → Sc I I2 → At (d + 1) 0 1395 [some (vR 1060), some (vR 0), some (vR 56), some (vI x3)] [] G2 I2 J2 Q) : At (d + 1) 0 188 [some (vR 1060), some (vR 0), some (vR 56), some (vI x3)] [] G I J Q := by
  refine b_L_188 hG ?_ ?_ ?_ ?_ ?_ ?_ ?_ ?_ ?_ ?_
  · (try unfold ok32); omega
  · (try unfold ok32); omega
  · (try unfold ok32); omega
  · (try unfold ok32); omega
  · (try unfold ok32); omega
  · (try unfold ok32); omega
  · (try unfold ok32); omega
  · (try unfold ok32); omega
  · (try unfold ok32); omega
  refine At.imp h ?_
  rintro v G2 I2 J2 ⟨x, b2, rfl, hG2, hS, hM⟩
  have e2 := congrFun hS.2 0
  refine b_L_207 hG2 ?_ ?_ ?_ ?_ ?_ ?_ ?_ ?_ ?_ ?_
  · (try unfold ok32); omega
  · (try unfold ok32); omega
  · (try unfold ok32); omega
  · (try unfold ok32); omega
  · (try unfold ok32); omega
  · (try unfold ok32); omega
  · (try unfold ok32); omega
  · (try unfold ok32); omega
  · (try unfold ok32); omega
  rw [hS.1]
  refine At.imp hM ?_
  rintro v G3 I3 J3 ⟨rfl, b3, hV3, hS3⟩
  exact b_L_226 hV3.1 (fun _ => K b3 G3 I3 J3 hV3 ⟨hS3.1.trans hS.1, hS3.2.trans hS.2⟩) (fun q => absurd rfl q)
theorem lawc_1 {x3 : Int} (hG : GW b G) (h0 : 0 ≤ x3) (h1 : x3 + 3 < I 1061 0) (h2 : I 1061 0 ≤ 256) (h : Cl d 110 158 [some (vR 0), some (vI (I 1060 (x3 + 1))), some (vI (I 1060 (x3 + 2))), some (vI (I 1060 (x3 + 3))), none] [some (vR 56), some (vI (I 1060 (x3 + 1))), some (vI (I 1060 (x3 + 2))), some (vI (I 1060 (x3 + 3))), none] G I J) (K : ∀ b2 G2 I2 J2, LV b2 G2 I2 J2 → Sc I I2 → At (d + 1) 0 1395 [some (vR 1060), some (vR 0), some (vR 56), some (vI x3)] [] G2 I2 J2 Q) : At (d + 1) 0 231 [some (vR 1060), some (vR 0), some (vR 56), some (vI x3)] [] G I J Q := by
  refine b_L_231 hG ?_ ?_ ?_ ?_ ?_ ?_ ?_ ?_ ?_ ?_
  · (try unfold ok32); omega
  · (try unfold ok32); omega
  · (try unfold ok32); omega
  · (try unfold ok32); omega
  · (try unfold ok32); omega
  · (try unfold ok32); omega
  · (try unfold ok32); omega
  · (try unfold ok32); omega
  · (try unfold ok32); omega
  refine At.imp h ?_
  rintro v G2 I2 J2 ⟨x, b2, rfl, hG2, hS, hM⟩
  have e2 := congrFun hS.2 0
  refine b_L_250 hG2 ?_ ?_ ?_ ?_ ?_ ?_ ?_ ?_ ?_ ?_
  · (try unfold ok32); omega
  · (try unfold ok32); omega
  · (try unfold ok32); omega
  · (try unfold ok32); omega
  · (try unfold ok32); omega
  · (try unfold ok32); omega
  · (try unfold ok32); omega
  · (try unfold ok32); omega
  · (try unfold ok32); omega
  rw [hS.1]
  refine At.imp hM ?_
  rintro v G3 I3 J3 ⟨rfl, b3, hV3, hS3⟩
  exact b_L_269 hV3.1 (fun _ => K b3 G3 I3 J3 hV3 ⟨hS3.1.trans hS.1, hS3.2.trans hS.2⟩) (fun q => absurd rfl q)
theorem lawc_2 {x3 : Int} (hG : GW b G) (h0 : 0 ≤ x3) (h1 : x3 + 3 < I 1061 0) (h2 : I 1061 0 ≤ 256) (h : Cl d 111 161 [some (vR 0), some (vI (I 1060 (x3 + 1))), some (vI (I 1060 (x3 + 2)))] [some (vR 56), some (vI (I 1060 (x3 + 1))), some (vI (I 1060 (x3 + 2)))] G I J) (K : ∀ b2 G2 I2 J2, LV b2 G2 I2 J2 → Sc I I2 → At (d + 1) 0 1395 [some (vR 1060), some (vR 0), some (vR 56), some (vI x3)] [] G2 I2 J2 Q) : At (d + 1) 0 274 [some (vR 1060), some (vR 0), some (vR 56), some (vI x3)] [] G I J Q := by
  refine b_L_274 hG ?_ ?_ ?_ ?_ ?_ ?_ ?_
  · (try unfold ok32); omega
  · (try unfold ok32); omega
  · (try unfold ok32); omega
  · (try unfold ok32); omega
  · (try unfold ok32); omega
  · (try unfold ok32); omega
  refine At.imp h ?_
  rintro v G2 I2 J2 ⟨x, b2, rfl, hG2, hS, hM⟩
  have e2 := congrFun hS.2 0
  refine b_L_288 hG2 ?_ ?_ ?_ ?_ ?_ ?_ ?_
  · (try unfold ok32); omega
  · (try unfold ok32); omega
  · (try unfold ok32); omega
  · (try unfold ok32); omega
  · (try unfold ok32); omega
  · (try unfold ok32); omega
  rw [hS.1]
  refine At.imp hM ?_
  rintro v G3 I3 J3 ⟨rfl, b3, hV3, hS3⟩
  exact b_L_302 hV3.1 (fun _ => K b3 G3 I3 J3 hV3 ⟨hS3.1.trans hS.1, hS3.2.trans hS.2⟩) (fun q => absurd rfl q)
theorem lawc_3 {x3 : Int} (hG : GW b G) (h0 : 0 ≤ x3) (h1 : x3 + 3 < I 1061 0) (h2 : I 1061 0 ≤ 256) (h : Cl d 112 162 [some (vR 0), some (vI (I 1060 (x3 + 1)))] [some (vR 56), some (vI (I 1060 (x3 + 1))), none, none, none] G I J) (K : ∀ b2 G2 I2 J2, LV b2 G2 I2 J2 → Sc I I2 → At (d + 1) 0 1395 [some (vR 1060), some (vR 0), some (vR 56), some (vI x3)] [] G2 I2 J2 Q) : At (d + 1) 0 307 [some (vR 1060), some (vR 0), some (vR 56), some (vI x3)] [] G I J Q := by
  refine b_L_307 hG ?_ ?_ ?_ ?_
  · (try unfold ok32); omega
  · (try unfold ok32); omega
  · (try unfold ok32); omega
  refine At.imp h ?_
  rintro v G2 I2 J2 ⟨x, b2, rfl, hG2, hS, hM⟩
  have e2 := congrFun hS.2 0
  refine b_L_316 hG2 ?_ ?_ ?_ ?_
  · (try unfold ok32); omega
  · (try unfold ok32); omega
  · (try unfold ok32); omega
  rw [hS.1]
  refine At.imp hM ?_
  rintro v G3 I3 J3 ⟨rfl, b3, hV3, hS3⟩
  exact b_L_325 hV3.1 (fun _ => K b3 G3 I3 J3 hV3 ⟨hS3.1.trans hS.1, hS3.2.trans hS.2⟩) (fun q => absurd rfl q)
theorem lawc_4 {x3 : Int} (hG : GW b G) (h0 : 0 ≤ x3) (h1 : x3 + 3 < I 1061 0) (h2 : I 1061 0 ≤ 256) (h : Cl d 113 164 [some (vR 0), some (vI (I 1060 (x3 + 1))), some (vI (I 1060 (x3 + 2))), some (vI (I 1060 (x3 + 3))), none] [some (vR 56), some (vI (I 1060 (x3 + 1))), some (vI (I 1060 (x3 + 2))), some (vI (I 1060 (x3 + 3))), none, none] G I J) (K : ∀ b2 G2 I2 J2, LV b2 G2 I2 J2 → Sc I I2 → At (d + 1) 0 1395 [some (vR 1060), some (vR 0), some (vR 56), some (vI x3)] [] G2 I2 J2 Q) : At (d + 1) 0 330 [some (vR 1060), some (vR 0), some (vR 56), some (vI x3)] [] G I J Q := by
  refine b_L_330 hG ?_ ?_ ?_ ?_ ?_ ?_ ?_ ?_ ?_ ?_
  · (try unfold ok32); omega
  · (try unfold ok32); omega
  · (try unfold ok32); omega
  · (try unfold ok32); omega
  · (try unfold ok32); omega
  · (try unfold ok32); omega
  · (try unfold ok32); omega
  · (try unfold ok32); omega
  · (try unfold ok32); omega
  refine At.imp h ?_
  rintro v G2 I2 J2 ⟨x, b2, rfl, hG2, hS, hM⟩
  have e2 := congrFun hS.2 0
  refine b_L_349 hG2 ?_ ?_ ?_ ?_ ?_ ?_ ?_ ?_ ?_ ?_
  · (try unfold ok32); omega
  · (try unfold ok32); omega
  · (try unfold ok32); omega
  · (try unfold ok32); omega
  · (try unfold ok32); omega
  · (try unfold ok32); omega
  · (try unfold ok32); omega
  · (try unfold ok32); omega
  · (try unfold ok32); omega
  rw [hS.1]
  refine At.imp hM ?_
  rintro v G3 I3 J3 ⟨rfl, b3, hV3, hS3⟩
  exact b_L_368 hV3.1 (fun _ => K b3 G3 I3 J3 hV3 ⟨hS3.1.trans hS.1, hS3.2.trans hS.2⟩) (fun q => absurd rfl q)
theorem lawc_5 {x3 : Int} (hG : GW b G) (h0 : 0 ≤ x3) (h1 : x3 + 3 < I 1061 0) (h2 : I 1061 0 ≤ 256) (h : Cl d 114 177 [some (vR 0), some (vL (lOr (lShl (I 1060 (x3 + 1)) 32) (lAnd (I 1060 (x3 + 2)) 4294967295))), none, some (vI (I 1060 (x3 + 3)))] [some (vR 56), some (vL (lOr (lShl (I 1060 (x3 + 1)) 32) (lAnd (I 1060 (x3 + 2)) 4294967295))), none, some (vI (I 1060 (x3 + 3))), none] G I J) (K : ∀ b2 G2 I2 J2, LV b2 G2 I2 J2 → Sc I I2 → At (d + 1) 0 1395 [some (vR 1060), some (vR 0), some (vR 56), some (vI x3)] [] G2 I2 J2 Q) : At (d + 1) 0 373 [some (vR 1060), some (vR 0), some (vR 56), some (vI x3)] [] G I J Q := by
  refine b_L_373 hG ?_ ?_ ?_ ?_ ?_ ?_ ?_ ?_ ?_ ?_
  · (try unfold ok32); omega
  · (try unfold ok32); omega
  · (try unfold ok32); omega
  · (try unfold ok32); omega
  · (try unfold ok32); omega
  · (try unfold ok32); omega
  · (try unfold ok32); omega
  · (try unfold ok32); omega
  · (try unfold ok32); omega
  refine At.imp h ?_
  rintro v G2 I2 J2 ⟨x, b2, rfl, hG2, hS, hM⟩
  have e2 := congrFun hS.2 0
  refine b_L_402 hG2 ?_ ?_ ?_ ?_ ?_ ?_ ?_ ?_ ?_ ?_
  · (try unfold ok32); omega
  · (try unfold ok32); omega
  · (try unfold ok32); omega
  · (try unfold ok32); omega
  · (try unfold ok32); omega
  · (try unfold ok32); omega
  · (try unfold ok32); omega
  · (try unfold ok32); omega
  · (try unfold ok32); omega
  rw [hS.1]
  refine At.imp hM ?_
  rintro v G3 I3 J3 ⟨rfl, b3, hV3, hS3⟩
  exact b_L_431 hV3.1 (fun _ => K b3 G3 I3 J3 hV3 ⟨hS3.1.trans hS.1, hS3.2.trans hS.2⟩) (fun q => absurd rfl q)
theorem lawc_6 {x3 : Int} (hG : GW b G) (h0 : 0 ≤ x3) (h1 : x3 + 3 < I 1061 0) (h2 : I 1061 0 ≤ 256) (h : Cl d 115 178 [some (vR 0), some (vI (I 1060 (x3 + 1))), none] [some (vR 56), some (vI (I 1060 (x3 + 1))), none, none, none] G I J) (K : ∀ b2 G2 I2 J2, LV b2 G2 I2 J2 → Sc I I2 → At (d + 1) 0 1395 [some (vR 1060), some (vR 0), some (vR 56), some (vI x3)] [] G2 I2 J2 Q) : At (d + 1) 0 436 [some (vR 1060), some (vR 0), some (vR 56), some (vI x3)] [] G I J Q := by
  refine b_L_436 hG ?_ ?_ ?_ ?_
  · (try unfold ok32); omega
  · (try unfold ok32); omega
  · (try unfold ok32); omega
  refine At.imp h ?_
  rintro v G2 I2 J2 ⟨x, b2, rfl, hG2, hS, hM⟩
  have e2 := congrFun hS.2 0
  refine b_L_445 hG2 ?_ ?_ ?_ ?_
  · (try unfold ok32); omega
  · (try unfold ok32); omega
  · (try unfold ok32); omega
  rw [hS.1]
  refine At.imp hM ?_
  rintro v G3 I3 J3 ⟨rfl, b3, hV3, hS3⟩
  exact b_L_454 hV3.1 (fun _ => K b3 G3 I3 J3 hV3 ⟨hS3.1.trans hS.1, hS3.2.trans hS.2⟩) (fun q => absurd rfl q)
theorem lawc_7 {x3 : Int} (hG : GW b G) (h0 : 0 ≤ x3) (h1 : x3 + 3 < I 1061 0) (h2 : I 1061 0 ≤ 256) (h : Cl d 116 184 [some (vR 0), some (vI (I 1060 (x3 + 1))), some (vI (I 1060 (x3 + 2))), some (vI (I 1060 (x3 + 3)))] [some (vR 56), some (vI (I 1060 (x3 + 1))), some (vI (I 1060 (x3 + 2))), some (vI (I 1060 (x3 + 3)))] G I J) (K : ∀ b2 G2 I2 J2, LV b2 G2 I2 J2 → Sc I I2 → At (d + 1) 0 1395 [some (vR 1060), some (vR 0), some (vR 56), some (vI x3)] [] G2 I2 J2 Q) : At (d + 1) 0 459 [some (vR 1060), some (vR 0), some (vR 56), some (vI x3)] [] G I J Q := by
  refine b_L_459 hG ?_ ?_ ?_ ?_ ?_ ?_ ?_ ?_ ?_ ?_
  · (try unfold ok32); omega
  · (try unfold ok32); omega
  · (try unfold ok32); omega
  · (try unfold ok32); omega
  · (try unfold ok32); omega
  · (try unfold ok32); omega
  · (try unfold ok32); omega
  · (try unfold ok32); omega
  · (try unfold ok32); omega
  refine At.imp h ?_
  rintro v G2 I2 J2 ⟨x, b2, rfl, hG2, hS, hM⟩
  have e2 := congrFun hS.2 0
  refine b_L_478 hG2 ?_ ?_ ?_ ?_ ?_ ?_ ?_ ?_ ?_ ?_
  · (try unfold ok32); omega
  · (try unfold ok32); omega
  · (try unfold ok32); omega
  · (try unfold ok32); omega
  · (try unfold ok32); omega
  · (try unfold ok32); omega
  · (try unfold ok32); omega
  · (try unfold ok32); omega
  · (try unfold ok32); omega
  rw [hS.1]
  refine At.imp hM ?_
  rintro v G3 I3 J3 ⟨rfl, b3, hV3, hS3⟩
  exact b_L_497 hV3.1 (fun _ => K b3 G3 I3 J3 hV3 ⟨hS3.1.trans hS.1, hS3.2.trans hS.2⟩) (fun q => absurd rfl q)
theorem lawc_8 {x3 : Int} (hG : GW b G) (h0 : 0 ≤ x3) (h1 : x3 + 3 < I 1061 0) (h2 : I 1061 0 ≤ 256) (h : Cl d 117 185 [some (vR 0), some (vI (I 1060 (x3 + 1))), some (vI (I 1060 (x3 + 2))), some (vI (I 1060 (x3 + 3))), none] [some (vR 56), some (vI (I 1060 (x3 + 1))), some (vI (I 1060 (x3 + 2))), some (vI (I 1060 (x3 + 3))), none] G I J) (K : ∀ b2 G2 I2 J2, LV b2 G2 I2 J2 → Sc I I2 → At (d + 1) 0 1395 [some (vR 1060), some (vR 0), some (vR 56), some (vI x3)] [] G2 I2 J2 Q) : At (d + 1) 0 502 [some (vR 1060), some (vR 0), some (vR 56), some (vI x3)] [] G I J Q := by
  refine b_L_502 hG ?_ ?_ ?_ ?_ ?_ ?_ ?_ ?_ ?_ ?_
  · (try unfold ok32); omega
  · (try unfold ok32); omega
  · (try unfold ok32); omega
  · (try unfold ok32); omega
  · (try unfold ok32); omega
  · (try unfold ok32); omega
  · (try unfold ok32); omega
  · (try unfold ok32); omega
  · (try unfold ok32); omega
  refine At.imp h ?_
  rintro v G2 I2 J2 ⟨x, b2, rfl, hG2, hS, hM⟩
  have e2 := congrFun hS.2 0
  refine b_L_521 hG2 ?_ ?_ ?_ ?_ ?_ ?_ ?_ ?_ ?_ ?_
  · (try unfold ok32); omega
  · (try unfold ok32); omega
  · (try unfold ok32); omega
  · (try unfold ok32); omega
  · (try unfold ok32); omega
  · (try unfold ok32); omega
  · (try unfold ok32); omega
  · (try unfold ok32); omega
  · (try unfold ok32); omega
  rw [hS.1]
  refine At.imp hM ?_
  rintro v G3 I3 J3 ⟨rfl, b3, hV3, hS3⟩
  exact b_L_540 hV3.1 (fun _ => K b3 G3 I3 J3 hV3 ⟨hS3.1.trans hS.1, hS3.2.trans hS.2⟩) (fun q => absurd rfl q)
theorem lawc_9 {x3 : Int} (hG : GW b G) (h0 : 0 ≤ x3) (h1 : x3 + 3 < I 1061 0) (h2 : I 1061 0 ≤ 256) (h : Cl d 118 187 [some (vR 0), some (vI (I 1060 (x3 + 1))), some (vI (I 1060 (x3 + 2))), some (vI (I 1060 (x3 + 3))), none] [some (vR 56), some (vI (I 1060 (x3 + 1))), some (vI (I 1060 (x3 + 2))), some (vI (I 1060 (x3 + 3)))] G I J) (K : ∀ b2 G2 I2 J2, LV b2 G2 I2 J2 → Sc I I2 → At (d + 1) 0 1395 [some (vR 1060), some (vR 0), some (vR 56), some (vI x3)] [] G2 I2 J2 Q) : At (d + 1) 0 545 [some (vR 1060), some (vR 0), some (vR 56), some (vI x3)] [] G I J Q := by
  refine b_L_545 hG ?_ ?_ ?_ ?_ ?_ ?_ ?_ ?_ ?_ ?_
  · (try unfold ok32); omega
  · (try unfold ok32); omega
  · (try unfold ok32); omega
  · (try unfold ok32); omega
  · (try unfold ok32); omega
  · (try unfold ok32); omega
  · (try unfold ok32); omega
  · (try unfold ok32); omega
  · (try unfold ok32); omega
  refine At.imp h ?_
  rintro v G2 I2 J2 ⟨x, b2, rfl, hG2, hS, hM⟩
  have e2 := congrFun hS.2 0
  refine b_L_564 hG2 ?_ ?_ ?_ ?_ ?_ ?_ ?_ ?_ ?_ ?_
  · (try unfold ok32); omega
  · (try unfold ok32); omega
  · (try unfold ok32); omega
  · (try unfold ok32); omega
  · (try unfold ok32); omega
  · (try unfold ok32); omega
  · (try unfold ok32); omega
  · (try unfold ok32); omega
  · (try unfold ok32); omega
  rw [hS.1]
  refine At.imp hM ?_
  rintro v G3 I3 J3 ⟨rfl, b3, hV3, hS3⟩
  exact b_L_583 hV3.1 (fun _ => K b3 G3 I3 J3 hV3 ⟨hS3.1.trans hS.1, hS3.2.trans hS.2⟩) (fun q => absurd rfl q)
theorem lawc_10 {x3 : Int} (hG : GW b G) (h0 : 0 ≤ x3) (h1 : x3 + 3 < I 1061 0) (h2 : I 1061 0 ≤ 256) (h : Cl d 119 188 [some (vR 0), some (vI (I 1060 (x3 + 1))), some (vI (I 1060 (x3 + 2))), some (vI (I 1060 (x3 + 3)))] [some (vR 56), some (vI (I 1060 (x3 + 1))), some (vI (I 1060 (x3 + 2))), some (vI (I 1060 (x3 + 3)))] G I J) (K : ∀ b2 G2 I2 J2, LV b2 G2 I2 J2 → Sc I I2 → At (d + 1) 0 1395 [some (vR 1060), some (vR 0), some (vR 56), some (vI x3)] [] G2 I2 J2 Q) : At (d + 1) 0 588 [some (vR 1060), some (vR 0), some (vR 56), some (vI x3)] [] G I J Q := by
  refine b_L_588 hG ?_ ?_ ?_ ?_ ?_ ?_ ?_ ?_ ?_ ?_
  · (try unfold ok32); omega
  · (try unfold ok32); omega
  · (try unfold ok32); omega
  · (try unfold ok32); omega
  · (try unfold ok32); omega
  · (try unfold ok32); omega
  · (try unfold ok32); omega
  · (try unfold ok32); omega
  · (try unfold ok32); omega
  refine At.imp h ?_
  rintro v G2 I2 J2 ⟨x, b2, rfl, hG2, hS, hM⟩
  have e2 := congrFun hS.2 0
  refine b_L_607 hG2 ?_ ?_ ?_ ?_ ?_ ?_ ?_ ?_ ?_ ?_
  · (try unfold ok32); omega
  · (try unfold ok32); omega
  · (try unfold ok32); omega
  · (try unfold ok32); omega
  · (try unfold ok32); omega
  · (try unfold ok32); omega
  · (try unfold ok32); omega
  · (try unfold ok32); omega
  · (try unfold ok32); omega
  rw [hS.1]
  refine At.imp hM ?_
  rintro v G3 I3 J3 ⟨rfl, b3, hV3, hS3⟩
  exact b_L_626 hV3.1 (fun _ => K b3 G3 I3 J3 hV3 ⟨hS3.1.trans hS.1, hS3.2.trans hS.2⟩) (fun q => absurd rfl q)
theorem lawc_11 {x3 : Int} (hG : GW b G) (h0 : 0 ≤ x3) (h1 : x3 + 3 < I 1061 0) (h2 : I 1061 0 ≤ 256) (h : Cl d 120 198 [some (vR 0), some (vI (I 1060 (x3 + 1))), some (vI (I 1060 (x3 + 2)))] [some (vR 56), some (vI (I 1060 (x3 + 1))), some (vI (I 1060 (x3 + 2)))] G I J) (K : ∀ b2 G2 I2 J2, LV b2 G2 I2 J2 → Sc I I2 → At (d + 1) 0 1395 [some (vR 1060), some (vR 0), some (vR 56), some (vI x3)] [] G2 I2 J2 Q) : At (d + 1) 0 631 [some (vR 1060), some (vR 0), some (vR 56), some (vI x3)] [] G I J Q := by
  refine b_L_631 hG ?_ ?_ ?_ ?_ ?_ ?_ ?_
  · (try unfold ok32); omega
  · (try unfold ok32); omega
  · (try unfold ok32); omega
  · (try unfold ok32); omega
  · (try unfold ok32); omega
  · (try unfold ok32); omega
  refine At.imp h ?_
  rintro v G2 I2 J2 ⟨x, b2, rfl, hG2, hS, hM⟩
  have e2 := congrFun hS.2 0
  refine b_L_645 hG2 ?_ ?_ ?_ ?_ ?_ ?_ ?_
  · (try unfold ok32); omega
  · (try unfold ok32); omega
  · (try unfold ok32); omega
  · (try unfold ok32); omega
  · (try unfold ok32); omega
  · (try unfold ok32); omega
  rw [hS.1]
  refine At.imp hM ?_
  rintro v G3 I3 J3 ⟨rfl, b3, hV3, hS3⟩
  exact b_L_659 hV3.1 (fun _ => K b3 G3 I3 J3 hV3 ⟨hS3.1.trans hS.1, hS3.2.trans hS.2⟩) (fun q => absurd rfl q)
theorem lawc_12 {x3 : Int} (hG : GW b G) (h0 : 0 ≤ x3) (h1 : x3 + 3 < I 1061 0) (h2 : I 1061 0 ≤ 256) (h : Cl d 121 200 [some (vR 0), some (vI (I 1060 (x3 + 1))), some (vI (I 1060 (x3 + 2)))] [some (vR 56), some (vI (I 1060 (x3 + 1))), some (vI (I 1060 (x3 + 2))), none] G I J) (K : ∀ b2 G2 I2 J2, LV b2 G2 I2 J2 → Sc I I2 → At (d + 1) 0 1395 [some (vR 1060), some (vR 0), some (vR 56), some (vI x3)] [] G2 I2 J2 Q) : At (d + 1) 0 664 [some (vR 1060), some (vR 0), some (vR 56), some (vI x3)] [] G I J Q := by
  refine b_L_664 hG ?_ ?_ ?_ ?_ ?_ ?_ ?_
  · (try unfold ok32); omega
  · (try unfold ok32); omega
  · (try unfold ok32); omega
  · (try unfold ok32); omega
  · (try unfold ok32); omega
  · (try unfold ok32); omega
  refine At.imp h ?_
  rintro v G2 I2 J2 ⟨x, b2, rfl, hG2, hS, hM⟩
  have e2 := congrFun hS.2 0
  refine b_L_678 hG2 ?_ ?_ ?_ ?_ ?_ ?_ ?_
  · (try unfold ok32); omega
  · (try unfold ok32); omega
  · (try unfold ok32); omega
  · (try unfold ok32); omega
  · (try unfold ok32); omega
  · (try unfold ok32); omega
  rw [hS.1]
  refine At.imp hM ?_
  rintro v G3 I3 J3 ⟨rfl, b3, hV3, hS3⟩
  exact b_L_692 hV3.1 (fun _ => K b3 G3 I3 J3 hV3 ⟨hS3.1.trans hS.1, hS3.2.trans hS.2⟩) (fun q => absurd rfl q)
theorem lawc_13 {x3 : Int} (hG : GW b G) (h0 : 0 ≤ x3) (h1 : x3 + 3 < I 1061 0) (h2 : I 1061 0 ≤ 256) (h : Cl d 122 209 [some (vR 0), some (vI (I 1060 (x3 + 1)))] [some (vR 56), some (vI (I 1060 (x3 + 1))), none] G I J) (K : ∀ b2 G2 I2 J2, LV b2 G2 I2 J2 → Sc I I2 → At (d + 1) 0 1395 [some (vR 1060), some (vR 0), some (vR 56), some (vI x3)] [] G2 I2 J2 Q) : At (d + 1) 0 697 [some (vR 1060), some (vR 0), some (vR 56), some (vI x3)] [] G I J Q := by
  refine b_L_697 hG ?_ ?_ ?_ ?_
  · (try unfold ok32); omega
  · (try unfold ok32); omega
  · (try unfold ok32); omega
  refine At.imp h ?_
  rintro v G2 I2 J2 ⟨x, b2, rfl, hG2, hS, hM⟩
  have e2 := congrFun hS.2 0
  refine b_L_706 hG2 ?_ ?_ ?_ ?_
  · (try unfold ok32); omega
  · (try unfold ok32); omega
  · (try unfold ok32); omega
  rw [hS.1]
  refine At.imp hM ?_
  rintro v G3 I3 J3 ⟨rfl, b3, hV3, hS3⟩
  exact b_L_715 hV3.1 (fun _ => K b3 G3 I3 J3 hV3 ⟨hS3.1.trans hS.1, hS3.2.trans hS.2⟩) (fun q => absurd rfl q)
theorem lawc_14 {x3 : Int} (hG : GW b G) (h0 : 0 ≤ x3) (h1 : x3 + 3 < I 1061 0) (h2 : I 1061 0 ≤ 256) (h : Cl d 123 210 [some (vR 0), some (vI (I 1060 (x3 + 1))), some (vI (I 1060 (x3 + 2)))] [some (vR 56), some (vI (I 1060 (x3 + 1))), some (vI (I 1060 (x3 + 2))), none, none] G I J) (K : ∀ b2 G2 I2 J2, LV b2 G2 I2 J2 → Sc I I2 → At (d + 1) 0 1395 [some (vR 1060), some (vR 0), some (vR 56), some (vI x3)] [] G2 I2 J2 Q) : At (d + 1) 0 720 [some (vR 1060), some (vR 0), some (vR 56), some (vI x3)] [] G I J Q := by
  refine b_L_720 hG ?_ ?_ ?_ ?_ ?_ ?_ ?_
  · (try unfold ok32); omega
  · (try unfold ok32); omega
  · (try unfold ok32); omega
  · (try unfold ok32); omega
  · (try unfold ok32); omega
  · (try unfold ok32); omega
  refine At.imp h ?_
  rintro v G2 I2 J2 ⟨x, b2, rfl, hG2, hS, hM⟩
  have e2 := congrFun hS.2 0
  refine b_L_734 hG2 ?_ ?_ ?_ ?_ ?_ ?_ ?_
  · (try unfold ok32); omega
  · (try unfold ok32); omega
  · (try unfold ok32); omega
  · (try unfold ok32); omega
  · (try unfold ok32); omega
  · (try unfold ok32); omega
  rw [hS.1]
  refine At.imp hM ?_
  rintro v G3 I3 J3 ⟨rfl, b3, hV3, hS3⟩
  exact b_L_748 hV3.1 (fun _ => K b3 G3 I3 J3 hV3 ⟨hS3.1.trans hS.1, hS3.2.trans hS.2⟩) (fun q => absurd rfl q)
theorem lawc_15 {x3 : Int} (hG : GW b G) (h0 : 0 ≤ x3) (h1 : x3 + 3 < I 1061 0) (h2 : I 1061 0 ≤ 256) (h : Cl d 124 212 [some (vR 0), some (vI (I 1060 (x3 + 1))), some (vI (I 1060 (x3 + 2)))] [some (vR 56), some (vI (I 1060 (x3 + 1))), some (vI (I 1060 (x3 + 2)))] G I J) (K : ∀ b2 G2 I2 J2, LV b2 G2 I2 J2 → Sc I I2 → At (d + 1) 0 1395 [some (vR 1060), some (vR 0), some (vR 56), some (vI x3)] [] G2 I2 J2 Q) : At (d + 1) 0 753 [some (vR 1060), some (vR 0), some (vR 56), some (vI x3)] [] G I J Q := by
  refine b_L_753 hG ?_ ?_ ?_ ?_ ?_ ?_ ?_
  · (try unfold ok32); omega
  · (try unfold ok32); omega
  · (try unfold ok32); omega
  · (try unfold ok32); omega
  · (try unfold ok32); omega
  · (try unfold ok32); omega
  refine At.imp h ?_
  rintro v G2 I2 J2 ⟨x, b2, rfl, hG2, hS, hM⟩
  have e2 := congrFun hS.2 0
  refine b_L_767 hG2 ?_ ?_ ?_ ?_ ?_ ?_ ?_
  · (try unfold ok32); omega
  · (try unfold ok32); omega
  · (try unfold ok32); omega
  · (try unfold ok32); omega
  · (try unfold ok32); omega
  · (try unfold ok32); omega
  rw [hS.1]
  refine At.imp hM ?_
  rintro v G3 I3 J3 ⟨rfl, b3, hV3, hS3⟩
  exact b_L_781 hV3.1 (fun _ => K b3 G3 I3 J3 hV3 ⟨hS3.1.trans hS.1, hS3.2.trans hS.2⟩) (fun q => absurd rfl q)
theorem lawc_16 {x3 : Int} (hG : GW b G) (h0 : 0 ≤ x3) (h1 : x3 + 3 < I 1061 0) (h2 : I 1061 0 ≤ 256) (h : Cl d 125 213 [some (vR 0), some (vI (I 1060 (x3 + 1)))] [some (vR 56), some (vI (I 1060 (x3 + 1)))] G I J) (K : ∀ b2 G2 I2 J2, LV b2 G2 I2 J2 → Sc I I2 → At (d + 1) 0 1395 [some (vR 1060), some (vR 0), some (vR 56), some (vI x3)] [] G2 I2 J2 Q) : At (d + 1) 0 786 [some (vR 1060), some (vR 0), some (vR 56), some (vI x3)] [] G I J Q := by
  refine b_L_786 hG ?_ ?_ ?_ ?_
  · (try unfold ok32); omega
  · (try unfold ok32); omega
  · (try unfold ok32); omega
  refine At.imp h ?_
  rintro v G2 I2 J2 ⟨x, b2, rfl, hG2, hS, hM⟩
  have e2 := congrFun hS.2 0
  refine b_L_795 hG2 ?_ ?_ ?_ ?_
  · (try unfold ok32); omega
  · (try unfold ok32); omega
  · (try unfold ok32); omega
  rw [hS.1]
  refine At.imp hM ?_
  rintro v G3 I3 J3 ⟨rfl, b3, hV3, hS3⟩
  exact b_L_804 hV3.1 (fun _ => K b3 G3 I3 J3 hV3 ⟨hS3.1.trans hS.1, hS3.2.trans hS.2⟩) (fun q => absurd rfl q)
theorem lawc_18 {x3 : Int} (hG : GW b G) (h0 : 0 ≤ x3) (h1 : x3 + 3 < I 1061 0) (h2 : I 1061 0 ≤ 256) (h : Cl d 127 217 [some (vR 0), some (vI (I 1060 (x3 + 1))), some (vI (I 1060 (x3 + 2)))] [some (vR 56), some (vI (I 1060 (x3 + 1))), some (vI (I 1060 (x3 + 2)))] G I J) (K : ∀ b2 G2 I2 J2, LV b2 G2 I2 J2 → Sc I I2 → At (d + 1) 0 1395 [some (vR 1060), some (vR 0), some (vR 56), some (vI x3)] [] G2 I2 J2 Q) : At (d + 1) 0 868 [some (vR 1060), some (vR 0), some (vR 56), some (vI x3)] [] G I J Q := by
  refine b_L_868 hG ?_ ?_ ?_ ?_ ?_ ?_ ?_
  · (try unfold ok32); omega
  · (try unfold ok32); omega
  · (try unfold ok32); omega
  · (try unfold ok32); omega
  · (try unfold ok32); omega
  · (try unfold ok32); omega
  refine At.imp h ?_
  rintro v G2 I2 J2 ⟨x, b2, rfl, hG2, hS, hM⟩
  have e2 := congrFun hS.2 0
  refine b_L_882 hG2 ?_ ?_ ?_ ?_ ?_ ?_ ?_
  · (try unfold ok32); omega
  · (try unfold ok32); omega
  · (try unfold ok32); omega
  · (try unfold ok32); omega
  · (try unfold ok32); omega
  · (try unfold ok32); omega
  rw [hS.1]
  refine At.imp hM ?_
  rintro v G3 I3 J3 ⟨rfl, b3, hV3, hS3⟩
  exact b_L_896 hV3.1 (fun _ => K b3 G3 I3 J3 hV3 ⟨hS3.1.trans hS.1, hS3.2.trans hS.2⟩) (fun q => absurd rfl q)
theorem lawc_20 {x3 : Int} (hG : GW b G) (h0 : 0 ≤ x3) (h1 : x3 + 3 < I 1061 0) (h2 : I 1061 0 ≤ 256) (h : Cl d 129 219 [some (vR 0), some (vI (I 1060 (x3 + 1))), some (vI (I 1060 (x3 + 2)))] [some (vR 56), some (vI (I 1060 (x3 + 1))), some (vI (I 1060 (x3 + 2))), none] G I J) (K : ∀ b2 G2 I2 J2, LV b2 G2 I2 J2 → Sc I I2 → At (d + 1) 0 1395 [some (vR 1060), some (vR 0), some (vR 56), some (vI x3)] [] G2 I2 J2 Q) : At (d + 1) 0 960 [some (vR 1060), some (vR 0), some (vR 56), some (vI x3)] [] G I J Q := by
  refine b_L_960 hG ?_ ?_ ?_ ?_ ?_ ?_ ?_
  · (try unfold ok32); omega
  · (try unfold ok32); omega
  · (try unfold ok32); omega
  · (try unfold ok32); omega
  · (try unfold ok32); omega
  · (try unfold ok32); omega
  refine At.imp h ?_
  rintro v G2 I2 J2 ⟨x, b2, rfl, hG2, hS, hM⟩
  have e2 := congrFun hS.2 0
  refine b_L_974 hG2 ?_ ?_ ?_ ?_ ?_ ?_ ?_
  · (try unfold ok32); omega
  · (try unfold ok32); omega
  · (try unfold ok32); omega
  · (try unfold ok32); omega
  · (try unfold ok32); omega
  · (try unfold ok32); omega
  rw [hS.1]
  refine At.imp hM ?_
  rintro v G3 I3 J3 ⟨rfl, b3, hV3, hS3⟩
  exact b_L_988 hV3.1 (fun _ => K b3 G3 I3 J3 hV3 ⟨hS3.1.trans hS.1, hS3.2.trans hS.2⟩) (fun q => absurd rfl q)
theorem lawc_21 {x3 : Int} (hG : GW b G) (h0 : 0 ≤ x3) (h1 : x3 + 3 < I 1061 0) (h2 : I 1061 0 ≤ 256) (h : Cl d 130 221 [some (vR 0), some (vI (I 1060 (x3 + 1)))] [some (vR 56), some (vI (I 1060 (x3 + 1))), none, none, none] G I J) (K : ∀ b2 G2 I2 J2, LV b2 G2 I2 J2 → Sc I I2 → At (d + 1) 0 1395 [some (vR 1060), some (vR 0), some (vR 56), some (vI x3)] [] G2 I2 J2 Q) : At (d + 1) 0 993 [some (vR 1060), some (vR 0), some (vR 56), some (vI x3)] [] G I J Q := by
  refine b_L_993 hG ?_ ?_ ?_ ?_
  · (try unfold ok32); omega
  · (try unfold ok32); omega
  · (try unfold ok32); omega
  refine At.imp h ?_
  rintro v G2 I2 J2 ⟨x, b2, rfl, hG2, hS, hM⟩
  have e2 := congrFun hS.2 0
  refine b_L_1002 hG2 ?_ ?_ ?_ ?_
  · (try unfold ok32); omega
  · (try unfold ok32); omega
  · (try unfold ok32); omega
  rw [hS.1]
  refine At.imp hM ?_
  rintro v G3 I3 J3 ⟨rfl, b3, hV3, hS3⟩
  exact b_L_1011 hV3.1 (fun _ => K b3 G3 I3 J3 hV3 ⟨hS3.1.trans hS.1, hS3.2.trans hS.2⟩) (fun q => absurd rfl q)
theorem lawc_22 {x3 : Int} (hG : GW b G) (h0 : 0 ≤ x3) (h1 : x3 + 3 < I 1061 0) (h2 : I 1061 0 ≤ 256) (h : Cl d 131 222 [some (vR 0), some (vI (I 1060 (x3 + 1))), some (vI (I 1060 (x3 + 2))), some (vI (I 1060 (x3 + 3)))] [some (vR 56), some (vI (I 1060 (x3 + 1))), some (vI (I 1060 (x3 + 2))), some (vI (I 1060 (x3 + 3))), none] G I J) (K : ∀ b2 G2 I2 J2, LV b2 G2 I2 J2 → Sc I I2 → At (d + 1) 0 1395 [some (vR 1060), some (vR 0), some (vR 56), some (vI x3)] [] G2 I2 J2 Q) : At (d + 1) 0 1016 [some (vR 1060), some (vR 0), some (vR 56), some (vI x3)] [] G I J Q := by
  refine b_L_1016 hG ?_ ?_ ?_ ?_ ?_ ?_ ?_ ?_ ?_ ?_
  · (try unfold ok32); omega
  · (try unfold ok32); omega
  · (try unfold ok32); omega
  · (try unfold ok32); omega
  · (try unfold ok32); omega
  · (try unfold ok32); omega
  · (try unfold ok32); omega
  · (try unfold ok32); omega
  · (try unfold ok32); omega
  refine At.imp h ?_
  rintro v G2 I2 J2 ⟨x, b2, rfl, hG2, hS, hM⟩
  have e2 := congrFun hS.2 0
  refine b_L_1035 hG2 ?_ ?_ ?_ ?_ ?_ ?_ ?_ ?_ ?_ ?_
  · (try unfold ok32); omega
  · (try unfold ok32); omega
  · (try unfold ok32); omega
  · (try unfold ok32); omega
  · (try unfold ok32); omega
  · (try unfold ok32); omega
  · (try unfold ok32); omega
  · (try unfold ok32); omega
  · (try unfold ok32); omega
  rw [hS.1]
  refine At.imp hM ?_
  rintro v G3 I3 J3 ⟨rfl, b3, hV3, hS3⟩
  exact b_L_1054 hV3.1 (fun _ => K b3 G3 I3 J3 hV3 ⟨hS3.1.trans hS.1, hS3.2.trans hS.2⟩) (fun q => absurd rfl q)
theorem lawc_23 {x3 : Int} (hG : GW b G) (h0 : 0 ≤ x3) (h1 : x3 + 3 < I 1061 0) (h2 : I 1061 0 ≤ 256) (h : Cl d 132 225 [some (vR 0), some (vI (I 1060 (x3 + 1))), some (vI (I 1060 (x3 + 2)))] [some (vR 56), some (vI (I 1060 (x3 + 1))), some (vI (I 1060 (x3 + 2)))] G I J) (K : ∀ b2 G2 I2 J2, LV b2 G2 I2 J2 → Sc I I2 → At (d + 1) 0 1395 [some (vR 1060), some (vR 0), some (vR 56), some (vI x3)] [] G2 I2 J2 Q) : At (d + 1) 0 1059 [some (vR 1060), some (vR 0), some (vR 56), some (vI x3)] [] G I J Q := by
  refine b_L_1059 hG ?_ ?_ ?_ ?_ ?_ ?_ ?_
  · (try unfold ok32); omega
  · (try unfold ok32); omega
  · (try unfold ok32); omega
  · (try unfold ok32); omega
  · (try unfold ok32); omega
  · (try unfold ok32); omega
  refine At.imp h ?_
  rintro v G2 I2 J2 ⟨x, b2, rfl, hG2, hS, hM⟩
  have e2 := congrFun hS.2 0
  refine b_L_1073 hG2 ?_ ?_ ?_ ?_ ?_ ?_ ?_
  · (try unfold ok32); omega
  · (try unfold ok32); omega
  · (try unfold ok32); omega
  · (try unfold ok32); omega
  · (try unfold ok32); omega
  · (try unfold ok32); omega
  rw [hS.1]
  refine At.imp hM ?_
  rintro v G3 I3 J3 ⟨rfl, b3, hV3, hS3⟩
  exact b_L_1087 hV3.1 (fun _ => K b3 G3 I3 J3 hV3 ⟨hS3.1.trans hS.1, hS3.2.trans hS.2⟩) (fun q => absurd rfl q)
theorem lawc_24 {x3 : Int} (hG : GW b G) (h0 : 0 ≤ x3) (h1 : x3 + 3 < I 1061 0) (h2 : I 1061 0 ≤ 256) (h : Cl d 133 226 [some (vR 0), some (vI (I 1060 (x3 + 1)))] [some (vR 56), some (vI (I 1060 (x3 + 1))), none, none] G I J) (K : ∀ b2 G2 I2 J2, LV b2 G2 I2 J2 → Sc I I2 → At (d + 1) 0 1395 [some (vR 1060), some (vR 0), some (vR 56), some (vI x3)] [] G2 I2 J2 Q) : At (d + 1) 0 1092 [some (vR 1060), some (vR 0), some (vR 56), some (vI x3)] [] G I J Q := by
  refine b_L_1092 hG ?_ ?_ ?_ ?_
  · (try unfold ok32); omega
  · (try unfold ok32); omega
  · (try unfold ok32); omega
  refine At.imp h ?_
  rintro v G2 I2 J2 ⟨x, b2, rfl, hG2, hS, hM⟩
  have e2 := congrFun hS.2 0
  refine b_L_1101 hG2 ?_ ?_ ?_ ?_
  · (try unfold ok32); omega
  · (try unfold ok32); omega
  · (try unfold ok32); omega
  rw [hS.1]
  refine At.imp hM ?_
  rintro v G3 I3 J3 ⟨rfl, b3, hV3, hS3⟩
  exact b_L_1110 hV3.1 (fun _ => K b3 G3 I3 J3 hV3 ⟨hS3.1.trans hS.1, hS3.2.trans hS.2⟩) (fun q => absurd rfl q)
theorem lawc_25 {x3 : Int} (hG : GW b G) (h0 : 0 ≤ x3) (h1 : x3 + 3 < I 1061 0) (h2 : I 1061 0 ≤ 256) (h : Cl d 134 227 [some (vR 0), some (vI (I 1060 (x3 + 1))), some (vI (I 1060 (x3 + 2))), some (vI (I 1060 (x3 + 3))), none] [some (vR 56), some (vI (I 1060 (x3 + 1))), some (vI (I 1060 (x3 + 2))), some (vI (I 1060 (x3 + 3))), none, none, none] G I J) (K : ∀ b2 G2 I2 J2, LV b2 G2 I2 J2 → Sc I I2 → At (d + 1) 0 1395 [some (vR 1060), some (vR 0), some (vR 56), some (vI x3)] [] G2 I2 J2 Q) : At (d + 1) 0 1115 [some (vR 1060), some (vR 0), some (vR 56), some (vI x3)] [] G I J Q := by
  refine b_L_1115 hG ?_ ?_ ?_ ?_ ?_ ?_ ?_ ?_ ?_ ?_
  · (try unfold ok32); omega
  · (try unfold ok32); omega
  · (try unfold ok32); omega
  · (try unfold ok32); omega
  · (try unfold ok32); omega
  · (try unfold ok32); omega
  · (try unfold ok32); omega
  · (try unfold ok32); omega
  · (try unfold ok32); omega
  refine At.imp h ?_
  rintro v G2 I2 J2 ⟨x, b2, rfl, hG2, hS, hM⟩
  have e2 := congrFun hS.2 0
  refine b_L_1134 hG2 ?_ ?_ ?_ ?_ ?_ ?_ ?_ ?_ ?_ ?_
  · (try unfold ok32); omega
  · (try unfold ok32); omega
  · (try unfold ok32); omega
  · (try unfold ok32); omega
  · (try unfold ok32); omega
  · (try unfold ok32); omega
  · (try unfold ok32); omega
  · (try unfold ok32); omega
  · (try unfold ok32); omega
  rw [hS.1]
  refine At.imp hM ?_
  rintro v G3 I3 J3 ⟨rfl, b3, hV3, hS3⟩
  exact b_L_1153 hV3.1 (fun _ => K b3 G3 I3 J3 hV3 ⟨hS3.1.trans hS.1, hS3.2.trans hS.2⟩) (fun q => absurd rfl q)
theorem lawc_26 {x3 : Int} (hG : GW b G) (h0 : 0 ≤ x3) (h1 : x3 + 3 < I 1061 0) (h2 : I 1061 0 ≤ 256) (h : Cl d 135 228 [some (vR 0), some (vI (I 1060 (x3 + 1))), some (vI (I 1060 (x3 + 2)))] [some (vR 56), some (vI (I 1060 (x3 + 1))), some (vI (I 1060 (x3 + 2))), none] G I J) (K : ∀ b2 G2 I2 J2, LV b2 G2 I2 J2 → Sc I I2 → At (d + 1) 0 1395 [some (vR 1060), some (vR 0), some (vR 56), some (vI x3)] [] G2 I2 J2 Q) : At (d + 1) 0 1158 [some (vR 1060), some (vR 0), some (vR 56), some (vI x3)] [] G I J Q := by
  refine b_L_1158 hG ?_ ?_ ?_ ?_ ?_ ?_ ?_
  · (try unfold ok32); omega
  · (try unfold ok32); omega
  · (try unfold ok32); omega
  · (try unfold ok32); omega
  · (try unfold ok32); omega
  · (try unfold ok32); omega
  refine At.imp h ?_
  rintro v G2 I2 J2 ⟨x, b2, rfl, hG2, hS, hM⟩
  have e2 := congrFun hS.2 0
  refine b_L_1172 hG2 ?_ ?_ ?_ ?_ ?_ ?_ ?_
  · (try unfold ok32); omega
  · (try unfold ok32); omega
  · (try unfold ok32); omega
  · (try unfold ok32); omega
  · (try unfold ok32); omega
  · (try unfold ok32); omega
  rw [hS.1]
  refine At.imp hM ?_
  rintro v G3 I3 J3 ⟨rfl, b3, hV3, hS3⟩
  exact b_L_1186 hV3.1 (fun _ => K b3 G3 I3 J3 hV3 ⟨hS3.1.trans hS.1, hS3.2.trans hS.2⟩) (fun q => absurd rfl q)
theorem lawc_27 {x3 : Int} (hG : GW b G) (h0 : 0 ≤ x3) (h1 : x3 + 3 < I 1061 0) (h2 : I 1061 0 ≤ 256) (h : Cl d 136 231 [some (vR 0), some (vI (I 1060 (x3 + 1))), some (vI (I 1060 (x3 + 2))), some (vI (I 1060 (x3 + 3)))] [some (vR 56), some (vI (I 1060 (x3 + 1))), some (vI (I 1060 (x3 + 2))), some (vI (I 1060 (x3 + 3))), none, none] G I J) (K : ∀ b2 G2 I2 J2, LV b2 G2 I2 J2 → Sc I I2 → At (d + 1) 0 1395 [some (vR 1060), some (vR 0), some (vR 56), some (vI x3)] [] G2 I2 J2 Q) : At (d + 1) 0 1191 [some (vR 1060), some (vR 0), some (vR 56), some (vI x3)] [] G I J Q := by
  refine b_L_1191 hG ?_ ?_ ?_ ?_ ?_ ?_ ?_ ?_ ?_ ?_
  · (try unfold ok32); omega
  · (try unfold ok32); omega
  · (try unfold ok32); omega
  · (try unfold ok32); omega
  · (try unfold ok32); omega
  · (try unfold ok32); omega
  · (try unfold ok32); omega
  · (try unfold ok32); omega
  · (try unfold ok32); omega
  refine At.imp h ?_
  rintro v G2 I2 J2 ⟨x, b2, rfl, hG2, hS, hM⟩
  have e2 := congrFun hS.2 0
  refine b_L_1210 hG2 ?_ ?_ ?_ ?_ ?_ ?_ ?_ ?_ ?_ ?_
  · (try unfold ok32); omega
  · (try unfold ok32); omega
  · (try unfold ok32); omega
  · (try unfold ok32); omega
  · (try unfold ok32); omega
  · (try unfold ok32); omega
  · (try unfold ok32); omega
  · (try unfold ok32); omega
  · (try unfold ok32); omega
  rw [hS.1]
  refine At.imp hM ?_
  rintro v G3 I3 J3 ⟨rfl, b3, hV3, hS3⟩
  exact b_L_1229 hV3.1 (fun _ => K b3 G3 I3 J3 hV3 ⟨hS3.1.trans hS.1, hS3.2.trans hS.2⟩) (fun q => absurd rfl q)
theorem lawc_28 {x3 : Int} (hG : GW b G) (h0 : 0 ≤ x3) (h1 : x3 + 3 < I 1061 0) (h2 : I 1061 0 ≤ 256) (h : Cl d 137 232 [some (vR 0), some (vI (I 1060 (x3 + 1))), some (vI (I 1060 (x3 + 2))), some (vI (I 1060 (x3 + 3)))] [some (vR 56), some (vI (I 1060 (x3 + 1))), some (vI (I 1060 (x3 + 2))), some (vI (I 1060 (x3 + 3))), none] G I J) (K : ∀ b2 G2 I2 J2, LV b2 G2 I2 J2 → Sc I I2 → At (d + 1) 0 1395 [some (vR 1060), some (vR 0), some (vR 56), some (vI x3)] [] G2 I2 J2 Q) : At (d + 1) 0 1234 [some (vR 1060), some (vR 0), some (vR 56), some (vI x3)] [] G I J Q := by
  refine b_L_1234 hG ?_ ?_ ?_ ?_ ?_ ?_ ?_ ?_ ?_ ?_
  · (try unfold ok32); omega
  · (try unfold ok32); omega
  · (try unfold ok32); omega
  · (try unfold ok32); omega
  · (try unfold ok32); omega
  · (try unfold ok32); omega
  · (try unfold ok32); omega
  · (try unfold ok32); omega
  · (try unfold ok32); omega
  refine At.imp h ?_
  rintro v G2 I2 J2 ⟨x, b2, rfl, hG2, hS, hM⟩
  have e2 := congrFun hS.2 0
  refine b_L_1253 hG2 ?_ ?_ ?_ ?_ ?_ ?_ ?_ ?_ ?_ ?_
  · (try unfold ok32); omega
  · (try unfold ok32); omega
  · (try unfold ok32); omega
  · (try unfold ok32); omega
  · (try unfold ok32); omega
  · (try unfold ok32); omega
  · (try unfold ok32); omega
  · (try unfold ok32); omega
  · (try unfold ok32); omega
  rw [hS.1]
  refine At.imp hM ?_
  rintro v G3 I3 J3 ⟨rfl, b3, hV3, hS3⟩
  exact b_L_1272 hV3.1 (fun _ => K b3 G3 I3 J3 hV3 ⟨hS3.1.trans hS.1, hS3.2.trans hS.2⟩) (fun q => absurd rfl q)
theorem lawc_29 {x3 : Int} (hG : GW b G) (h0 : 0 ≤ x3) (h1 : x3 + 3 < I 1061 0) (h2 : I 1061 0 ≤ 256) (h : Cl d 138 233 [some (vR 0), some (vI (I 1060 (x3 + 1)))] [some (vR 56), some (vI (I 1060 (x3 + 1))), none] G I J) (K : ∀ b2 G2 I2 J2, LV b2 G2 I2 J2 → Sc I I2 → At (d + 1) 0 1395 [some (vR 1060), some (vR 0), some (vR 56), some (vI x3)] [] G2 I2 J2 Q) : At (d + 1) 0 1277 [some (vR 1060), some (vR 0), some (vR 56), some (vI x3)] [] G I J Q := by
  refine b_L_1277 hG ?_ ?_ ?_ ?_
  · (try unfold ok32); omega
  · (try unfold ok32); omega
  · (try unfold ok32); omega
  refine At.imp h ?_
  rintro v G2 I2 J2 ⟨x, b2, rfl, hG2, hS, hM⟩
  have e2 := congrFun hS.2 0
  refine b_L_1286 hG2 ?_ ?_ ?_ ?_
  · (try unfold ok32); omega
  · (try unfold ok32); omega
  · (try unfold ok32); omega
  rw [hS.1]
  refine At.imp hM ?_
  rintro v G3 I3 J3 ⟨rfl, b3, hV3, hS3⟩
  exact b_L_1295 hV3.1 (fun _ => K b3 G3 I3 J3 hV3 ⟨hS3.1.trans hS.1, hS3.2.trans hS.2⟩) (fun q => absurd rfl q)
theorem lawc_30 {x3 : Int} (hG : GW b G) (h0 : 0 ≤ x3) (h1 : x3 + 3 < I 1061 0) (h2 : I 1061 0 ≤ 256) (h : Cl d 139 234 [some (vR 0)] [some (vR 56), none, none, none, none] G I J) (K : ∀ b2 G2 I2 J2, LV b2 G2 I2 J2 → Sc I I2 → At (d + 1) 0 1395 [some (vR 1060), some (vR 0), some (vR 56), some (vI x3)] [] G2 I2 J2 Q) : At (d + 1) 0 1300 [some (vR 1060), some (vR 0), some (vR 56), some (vI x3)] [] G I J Q := by
  refine b_L_1300 hG ?_
  refine At.imp h ?_
  rintro v G2 I2 J2 ⟨x, b2, rfl, hG2, hS, hM⟩
  have e2 := congrFun hS.2 0
  refine b_L_1304 hG2 ?_
  refine At.imp hM ?_
  rintro v G3 I3 J3 ⟨rfl, b3, hV3, hS3⟩
  exact b_L_1308 hV3.1 (fun _ => K b3 G3 I3 J3 hV3 ⟨hS3.1.trans hS.1, hS3.2.trans hS.2⟩) (fun q => absurd rfl q)
theorem lawc_31 {x3 : Int} (hG : GW b G) (h0 : 0 ≤ x3) (h1 : x3 + 3 < I 1061 0) (h2 : I 1061 0 ≤ 256) (h : Cl d 140 236 [some (vR 0), some (vI (I 1060 (x3 + 1))), some (vI (I 1060 (x3 + 2))), none, none, none] [some (vR 56), some (vI (I 1060 (x3 + 1))), some (vI (I 1060 (x3 + 2))), none, none, none] G I J) (K : ∀ b2 G2 I2 J2, LV b2 G2 I2 J2 → Sc I I2 → At (d + 1) 0 1395 [some (vR 1060), some (vR 0), some (vR 56), some (vI x3)] [] G2 I2 J2 Q) : At (d + 1) 0 1313 [some (vR 1060), some (vR 0), some (vR 56), some (vI x3)] [] G I J Q := by
  refine b_L_1313 hG ?_ ?_ ?_ ?_ ?_ ?_ ?_
  · (try unfold ok32); omega
  · (try unfold ok32); omega
  · (try unfold ok32); omega
  · (try unfold ok32); omega
  · (try unfold ok32); omega
  · (try unfold ok32); omega
  refine At.imp h ?_
  rintro v G2 I2 J2 ⟨x, b2, rfl, hG2, hS, hM⟩
  have e2 := congrFun hS.2 0
  refine b_L_1327 hG2 ?_ ?_ ?_ ?_ ?_ ?_ ?_
  · (try unfold ok32); omega
  · (try unfold ok32); omega
  · (try unfold ok32); omega
  · (try unfold ok32); omega
  · (try unfold ok32); omega
  · (try unfold ok32); omega
  rw [hS.1]
  refine At.imp hM ?_
  rintro v G3 I3 J3 ⟨rfl, b3, hV3, hS3⟩
  exact b_L_1341 hV3.1 (fun _ => K b3 G3 I3 J3 hV3 ⟨hS3.1.trans hS.1, hS3.2.trans hS.2⟩) (fun q => absurd rfl q)
theorem lawc_32 {x3 : Int} (hG : GW b G) (h0 : 0 ≤ x3) (h1 : x3 + 3 < I 1061 0) (h2 : I 1061 0 ≤ 256) (h : Cl d 141 237 [some (vR 0)] [some (vR 56), none] G I J) (K : ∀ b2 G2 I2 J2, LV b2 G2 I2 J2 → Sc I I2 → At (d + 1) 0 1395 [some (vR 1060), some (vR 0), some (vR 56), some (vI x3)] [] G2 I2 J2 Q) : At (d + 1) 0 1346 [some (vR 1060), some (vR 0), some (vR 56), some (vI x3)] [] G I J Q := by
  refine b_L_1346 hG ?_
  refine At.imp h ?_
  rintro v G2 I2 J2 ⟨x, b2, rfl, hG2, hS, hM⟩
  have e2 := congrFun hS.2 0
  refine b_L_1350 hG2 ?_
  refine At.imp hM ?_
  rintro v G3 I3 J3 ⟨rfl, b3, hV3, hS3⟩
  exact b_L_1354 hV3.1 (fun _ => K b3 G3 I3 J3 hV3 ⟨hS3.1.trans hS.1, hS3.2.trans hS.2⟩) (fun q => absurd rfl q)
theorem lawc_33 {x3 : Int} (hG : GW b G) (h0 : 0 ≤ x3) (h1 : x3 + 3 < I 1061 0) (h2 : I 1061 0 ≤ 256) (h : Cl d 142 238 [some (vR 0)] [some (vR 56), none] G I J) (K : ∀ b2 G2 I2 J2, LV b2 G2 I2 J2 → Sc I I2 → At (d + 1) 0 1395 [some (vR 1060), some (vR 0), some (vR 56), some (vI x3)] [] G2 I2 J2 Q) : At (d + 1) 0 1359 [some (vR 1060), some (vR 0), some (vR 56), some (vI x3)] [] G I J Q := by
  refine b_L_1359 hG ?_
  refine At.imp h ?_
  rintro v G2 I2 J2 ⟨x, b2, rfl, hG2, hS, hM⟩
  have e2 := congrFun hS.2 0
  refine b_L_1363 hG2 ?_
  refine At.imp hM ?_
  rintro v G3 I3 J3 ⟨rfl, b3, hV3, hS3⟩
  exact b_L_1367 hV3.1 (fun _ => K b3 G3 I3 J3 hV3 ⟨hS3.1.trans hS.1, hS3.2.trans hS.2⟩) (fun q => absurd rfl q)
theorem lawc_34 {x3 : Int} (hG : GW b G) (h0 : 0 ≤ x3) (h1 : x3 + 3 < I 1061 0) (h2 : I 1061 0 ≤ 256) (h : Cl d 143 240 [some (vR 0), some (vI (I 1060 (x3 + 1)))] [some (vR 56), some (vI (I 1060 (x3 + 1)))] G I J) (K : ∀ b2 G2 I2 J2, LV b2 G2 I2 J2 → Sc I I2 → At (d + 1) 0 1395 [some (vR 1060), some (vR 0), some (vR 56), some (vI x3)] [] G2 I2 J2 Q) : At (d + 1) 0 1372 [some (vR 1060), some (vR 0), some (vR 56), some (vI x3)] [] G I J Q := by
  refine b_L_1372 hG ?_ ?_ ?_ ?_
  · (try unfold ok32); omega
  · (try unfold ok32); omega
  · (try unfold ok32); omega
  refine At.imp h ?_
  rintro v G2 I2 J2 ⟨x, b2, rfl, hG2, hS, hM⟩
  have e2 := congrFun hS.2 0
  refine b_L_1381 hG2 ?_ ?_ ?_ ?_
  · (try unfold ok32); omega
  · (try unfold ok32); omega
  · (try unfold ok32); omega
  rw [hS.1]
  refine At.imp hM ?_
  rintro v G3 I3 J3 ⟨rfl, b3, hV3, hS3⟩
  exact b_L_1390 hV3.1 (fun _ => K b3 G3 I3 J3 hV3 ⟨hS3.1.trans hS.1, hS3.2.trans hS.2⟩) (fun q => absurd rfl q)
end CW
