/-! best codes: the class adds up mistakes -/
section SM
variable {d : Nat} {b : Bool} {G : aG} {I J : aI} {Q : Option aV → aG → aI → aI → Prop}
theorem cod_b : ∀ c ∈ codN 3, 16 ≤ c ∧ c < 56 := by decide
theorem lp_csum {c : Nat} {l : List Nat} {w q : Int} (hG : GW b G) (hl : RowN 50 l I) (hn : l.length ≤ 4) (hw : 0 ≤ w ∧ w ≤ 10000) (hm : ∀ a ∈ l, a ∈ codN 3) (hc : c ∈ codN 3) (k : At (d + 2) 25 44 [some (vR 48), some (vI (l.length : Int)), some (vI (c : Int)), some (vI w), some (vI q), some (vI (w + (sL c l : Nat))), some (vI (l.length : Int))] [] G I J Q) : ∀ (j y : Nat) (x : Int), y + j = l.length → x = w + (sL c (l.reverse.take y) : Nat) → At (d + 2) 25 16 [some (vR 48), some (vI (l.length : Int)), some (vI (c : Int)), some (vI w), some (vI q), some (vI x), some (vI (y : Int))] [] G I J Q
  | 0, y, x, hy, hx => by
    refine b_X1_put_16 hG (fun _ => ?_) (fun h => absurd h (by omega))
    have e : y = l.length := by omega
    rw [hx, e, List.take_of_length_le (by rw [List.length_reverse]; exact Nat.le_refl _), sL_rev]
    exact k
  | j + 1, y, x, hy, hx => by
    obtain ⟨a, ha⟩ : ∃ a, l.reverse[y]? = some a := ⟨l.reverse[y]'(by rw [List.length_reverse]; omega), List.getElem?_eq_getElem _⟩
    have ea := hl y a ha
    have hma := hm a (List.mem_reverse.1 (List.mem_of_getElem? ha))
    have ba := cod_b a hma
    have bc := cod_b c hc
    have ok := (alN_ok a hma c hc).1
    have bs := sL_b (c := c) (l.reverse.take y)
    have bl : (l.reverse.take y).length ≤ 4 := by
      rw [List.length_take, List.length_reverse]
      omega
    have bn := alN_b (a := a) (c := c)
    have nx := lp_csum hG hl hn hw hm hc k j (y + 1) (x + (alN a c : Nat)) (by omega) (by
      rw [List.take_add_one, ha, sL_app, hx]
      show _ = w + ((sL c (l.reverse.take y) + (alN a c + 0) : Nat) : Int)
      omega)
    refine b_X1_put_16 hG (fun h => absurd h (by omega)) (fun _ => b_X1_put_22 hG (by omega) (by omega) ?_)
    rw [ea]
    refine sp_mistaken hG (by omega) (by omega) ?_
    rw [ok]
    refine b_X1_put_35 hG (by unfold ok32; omega) (by unfold ok32; omega) ?_
    exact nx
end SM
