/-! what steps say: a machine of truths -/
def fitsV (V : Int → Int) (x : Int) : Bool := if x / 1000 = 4 then decide (V 4 < x % 1000) else if x / 1000 = 5 then decide (x % 1000 < V 5) else decide (V (x / 1000) = x % 1000)
def stepV (V : Int → Int) (t : Int) (st : List Bool) : Option (List Bool) :=
  if t = -1 then (match st with | a :: r => some ((!a) :: r) | [] => none)
  else if t = -2 then (match st with | a :: c :: r => some ((c && a) :: r) | _ => none)
  else if t = -3 then (match st with | a :: c :: r => some ((c || a) :: r) | _ => none)
  else if 0 ≤ t ∧ st.length < 13 then some (fitsV V t :: st) else none
def run (V : Int → Int) : List Int → List Bool → Option (List Bool)
  | [], st => some st
  | t :: ts, st => (stepV V t st).bind (run V ts)
theorem run_app {V : Int → Int} {c : List Int} : ∀ (a : List Int) (st : List Bool), run V (a ++ c) st = (run V a st).bind (run V c)
  | [], st => rfl
  | t :: ts, st => by
    show (stepV V t st).bind (run V (ts ++ c)) = ((stepV V t st).bind (run V ts)).bind (run V c)
    cases stepV V t st with
    | none => rfl
    | some s => exact run_app ts s
def Wf (V : Int → Int) (h : Nat) (ts : List Int) (v : Bool) : Prop := ∀ st : List Bool, st.length + h ≤ 13 → run V ts st = some (v :: st)
theorem Wf.up {V : Int → Int} {h h' : Nat} {ts : List Int} {v : Bool} (w : Wf V h ts v) (l : h ≤ h') : Wf V h' ts v := fun st q => w st (by omega)
theorem Wf.fact {V : Int → Int} {x : Int} (hx : 0 ≤ x) : Wf V 1 [x] (fitsV V x) := fun st q => by
  show (stepV V x st).bind (run V []) = _
  unfold stepV
  rw [if_neg (by omega), if_neg (by omega), if_neg (by omega), if_pos ⟨hx, by omega⟩]
  rfl
theorem Wf.no {V : Int → Int} {h : Nat} {ts : List Int} {v : Bool} (w : Wf V h ts v) : Wf V h (ts ++ [-1]) (!v) := fun st q => by
  rw [run_app, w st q]
  rfl
theorem Wf.an {V : Int → Int} {h : Nat} {a c : List Int} {v u : Bool} (w : Wf V (h + 1) a v) (z : Wf V h c u) : Wf V (h + 1) (a ++ c ++ [-2]) (v && u) := fun st q => by
  rw [run_app, run_app, w st q]
  show Option.bind (run V c (v :: st)) _ = _
  rw [z (v :: st) (by rw [List.length_cons]; omega)]
  rfl
theorem Wf.oo {V : Int → Int} {h : Nat} {a c : List Int} {v u : Bool} (w : Wf V (h + 1) a v) (z : Wf V h c u) : Wf V (h + 1) (a ++ c ++ [-3]) (v || u) := fun st q => by
  rw [run_app, run_app, w st q]
  show Option.bind (run V c (v :: st)) _ = _
  rw [z (v :: st) (by rw [List.length_cons]; omega)]
  rfl
theorem byt_b {bs : Int → Int} {n p : Int} (h : byt bs n p ≠ -1) : 0 ≤ p ∧ p < n := by
  unfold byt at h
  split at h
  · assumption
  · exact absurd rfl h
theorem pEx_t {bs : Int → Int} {n c p : Int} : pEx bs n c (true, p) = (true, p) := rfl
theorem pEx_y {bs : Int → Int} {n c p : Int} (h : byt bs n p = c) : pEx bs n c (false, p) = (false, p + 1) := by
  simp [pEx, h]
theorem pEx_n {bs : Int → Int} {n c p : Int} (h : byt bs n p ≠ c) : pEx bs n c (false, p) = (true, p) := by
  simp [pEx, h]
theorem pEx_f {bs : Int → Int} {n c p : Int} {f : Bool} (h : (pEx bs n c (f, p)).1 = false) : f = false := by
  cases f
  · rfl
  · cases h
theorem pEx_ge {bs : Int → Int} {n c p : Int} {f : Bool} : p ≤ (pEx bs n c (f, p)).2 := by
  unfold pEx
  split
  · exact Int.le_refl _
  · split
    · dsimp only
      omega
    · exact Int.le_refl _
theorem pNum_b {bs : Int → Int} {n p : Int} : 0 ≤ (pNum bs n p).2.2 ∧ (pNum bs n p).2.2 ≤ 999 ∧ p ≤ (pNum bs n p).2.1 := by
  unfold pNum
  repeat' split
  all_goals (dsimp only; omega)
theorem pFact_ge {bs : Int → Int} {n p : Int} : p ≤ (pFact bs n p).2.1 := by
  have := pNum_b (bs := bs) (n := n) (p := p + 1 + 1)
  unfold pFact
  repeat' split
  all_goals (dsimp only; omega)
theorem pLoop_ge {bs : Int → Int} {n c tok : Int} {one : Int → Bool × Int × List Int} (h : ∀ p, p ≤ (one p).2.1) : ∀ (f : Nat) (r : Bool × Int × List Int), r.2.1 ≤ (pLoop bs n one c tok f r).2.1
  | 0, r => Int.le_refl _
  | f + 1, r => by
    unfold pLoop
    split
    · have h1 := h (r.2.1 + 1)
      have h2 := pLoop_ge (bs := bs) (n := n) (c := c) (tok := tok) h f ((one (r.2.1 + 1)).1, (one (r.2.1 + 1)).2.1, r.2.2 ++ (one (r.2.1 + 1)).2.2 ++ [tok])
      dsimp only at h2
      omega
    · exact Int.le_refl _
theorem pAll_ge {bs : Int → Int} {n p : Int} {one : Int → Bool × Int × List Int} (h : ∀ p, p ≤ (one p).2.1) : p ≤ (pAll bs n one p).2.1 := by
  have h1 := h p
  have h2 := pLoop_ge (bs := bs) (n := n) (c := 38) (tok := -2) h 121 (one p)
  unfold pAll
  omega
theorem pAny_ge {bs : Int → Int} {n p : Int} {one : Int → Bool × Int × List Int} (h : ∀ p, p ≤ (one p).2.1) : p ≤ (pAny bs n one p).2.1 := by
  have h1 := pAll_ge (bs := bs) (n := n) (p := p) h
  have h2 := pLoop_ge (bs := bs) (n := n) (c := 124) (tok := -3) (one := pAll bs n one) (fun p => pAll_ge h) 121 (pAll bs n one p)
  unfold pAny
  omega
theorem pOne_ge {bs : Int → Int} {n : Int} : ∀ (k : Nat) (p : Int), p ≤ (pOne bs n k p).2.1
  | 0, p => by
    unfold pOne
    split
    · exact Int.le_refl _
    · exact pFact_ge
  | k + 1, p => by
    have h1 := pOne_ge (bs := bs) (n := n) k (p + 1)
    have h2 := pAny_ge (bs := bs) (n := n) (p := p + 1) (one := pOne bs n k) (pOne_ge k)
    have h3 := pEx_ge (bs := bs) (n := n) (c := 41) (p := (pAny bs n (pOne bs n k) (p + 1)).2.1) (f := (pAny bs n (pOne bs n k) (p + 1)).1)
    unfold pOne
    split
    · dsimp only
      omega
    · split
      · dsimp only
        omega
      · exact pFact_ge
theorem pFact_wf {bs : Int → Int} {n p : Int} {V : Int → Int} (h : (pFact bs n p).1 = false) : ∃ v, Wf V 1 (pFact bs n p).2.2 v := by
  have := pNum_b (bs := bs) (n := n) (p := p + 1 + 1)
  unfold pFact at h ⊢
  split
  · rename_i q
    rw [if_pos q] at h
    cases h
  · rename_i q
    rw [if_neg q] at h
    split
    · rename_i q2
      rw [if_pos q2] at h
      cases h
    · exact ⟨_, Wf.fact (by omega)⟩
theorem pLoop_wf {bs : Int → Int} {n c tok : Int} {one : Int → Bool × Int × List Int} {V : Int → Int} {h : Nat} (h1 : ∀ p, (one p).1 = false → ∃ v, Wf V h (one p).2.2 v) (h2 : ∀ a c v u, Wf V (h + 1) a v → Wf V h c u → ∃ x, Wf V (h + 1) (a ++ c ++ [tok]) x) : ∀ (f : Nat) (r : Bool × Int × List Int), (r.1 = false → ∃ v, Wf V (h + 1) r.2.2 v) → (pLoop bs n one c tok f r).1 = false → ∃ v, Wf V (h + 1) (pLoop bs n one c tok f r).2.2 v
  | 0, r, hr, hf => hr hf
  | f + 1, r, hr, hf => by
    unfold pLoop at hf ⊢
    split
    · rename_i q
      rw [if_pos q] at hf
      refine pLoop_wf h1 h2 f _ (fun e => ?_) hf
      obtain ⟨v, hv⟩ := hr q.1
      obtain ⟨u, hu⟩ := h1 _ e
      exact h2 _ _ _ _ hv hu
    · rename_i q
      rw [if_neg q] at hf
      exact hr hf
theorem pAll_wf {bs : Int → Int} {n p : Int} {one : Int → Bool × Int × List Int} {V : Int → Int} {h : Nat} (h1 : ∀ p, (one p).1 = false → ∃ v, Wf V h (one p).2.2 v) (hf : (pAll bs n one p).1 = false) : ∃ v, Wf V (h + 1) (pAll bs n one p).2.2 v :=
  pLoop_wf h1 (fun _ _ _ _ a c => ⟨_, a.an c⟩) 121 _ (fun e => (h1 _ e).imp fun _ w => w.up (by omega)) hf
theorem pAny_wf {bs : Int → Int} {n p : Int} {one : Int → Bool × Int × List Int} {V : Int → Int} {h : Nat} (h1 : ∀ p, (one p).1 = false → ∃ v, Wf V h (one p).2.2 v) (hf : (pAny bs n one p).1 = false) : ∃ v, Wf V (h + 2) (pAny bs n one p).2.2 v :=
  pLoop_wf (h := h + 1) (fun _ e => pAll_wf h1 e) (fun _ _ _ _ a c => ⟨_, a.oo c⟩) 121 _ (fun e => (pAll_wf h1 e).imp fun _ w => w.up (by omega)) hf
theorem pOne_wf {bs : Int → Int} {n : Int} {V : Int → Int} : ∀ (k : Nat) (p : Int), (pOne bs n k p).1 = false → ∃ v, Wf V (2 * k + 1) (pOne bs n k p).2.2 v
  | 0, p, hf => by
    unfold pOne at hf ⊢
    split
    · rename_i q
      rw [if_pos q] at hf
      cases hf
    · rename_i q
      rw [if_neg q] at hf
      exact pFact_wf hf
  | k + 1, p, hf => by
    unfold pOne at hf ⊢
    split
    · rename_i q
      rw [if_pos q] at hf
      obtain ⟨v, hv⟩ := pOne_wf (V := V) k (p + 1) hf
      exact ⟨_, hv.no.up (by omega)⟩
    · rename_i q
      rw [if_neg q] at hf
      split
      · rename_i q2
        rw [if_pos q2] at hf
        obtain ⟨v, hv⟩ := pAny_wf (pOne_wf (V := V) k) (pEx_f hf)
        exact ⟨v, hv.up (by omega)⟩
      · rename_i q2
        rw [if_neg q2] at hf
        obtain ⟨v, hv⟩ := pFact_wf (V := V) hf
        exact ⟨v, hv.up (by omega)⟩
/-- what steps say in the end -/
def evT (V : Int → Int) (ts : List Int) : Bool := match run V ts [] with
  | some (v :: _) => v
  | _ => false
theorem Wf.ev {V : Int → Int} {h : Nat} {ts : List Int} {v : Bool} (w : Wf V h ts v) (hh : h ≤ 13) : evT V ts = v := by
  unfold evT
  rw [w [] (by rw [List.length_nil]; omega)]
