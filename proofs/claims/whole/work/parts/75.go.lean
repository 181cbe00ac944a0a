/-! A book gone through, on numbers -/
def upN (ν : Nat → aN) (x : Nat) (a : aN) : Nat → aN := fun y => if y = x then a else ν y
/-- over all machines -/
def fY (f : aN → Nat) (ν : Nat → aN) : Nat := f (ν 0) + f (ν 1) + f (ν 2) + f (ν 3) + f (ν 4) + f (ν 5) + f (ν 6) + f (ν 7) + f (ν 8)
theorem fY_upd {f : aN → Nat} {ν : Nat → aN} {x : Nat} (hx : x < 9) (a : aN) : fY f (upN ν x a) + f (ν x) = fY f ν + f a := by
  have h9 : x = 0 ∨ x = 1 ∨ x = 2 ∨ x = 3 ∨ x = 4 ∨ x = 5 ∨ x = 6 ∨ x = 7 ∨ x = 8 := by omega
  unfold fY
  rcases h9 with rfl | rfl | rfl | rfl | rfl | rfl | rfl | rfl | rfl <;> simp only [upN, Nat.reduceEqDiff, if_true, if_false, ↓reduceIte] <;> omega
/-- open parts (owner, set), the newest first; the part without brackets yet; the flaw; letters; depth; the machines -/
abbrev kB : Type := List (Nat × Nat) × Option Nat × aQ × Nat × Nat × (Nat → aN)
def stR (ν : Nat → aN) (ow st : Nat → Int32) : List (Nat × Nat) → Prop
  | [] => True
  | t :: R => ow R.length = nI t.1 ∧ t.1 < 9 ∧ (∃ s, st R.length = nI s ∧ (ν t.1).2.1.1[s]? = some t.2) ∧ stR ν ow st R
theorem stR_mono {ν ν' : Nat → aN} {ow st : Nat → Int32} (h : ∀ x, extL (ν x).2.1.1 (ν' x).2.1.1) : ∀ {R : List (Nat × Nat)}, stR ν ow st R → stR ν' ow st R
  | [], _ => trivial
  | t :: R, q => by
    obtain ⟨q1, q2, ⟨s, q3, q4⟩, q5⟩ := q
    exact ⟨q1, q2, ⟨s, q3, h t.1 s t.2 q4⟩, stR_mono h q5⟩
theorem stR_push {ν : Nat → aN} {ow st : Nat → Int32} {a b : Int32} {n : Nat} : ∀ {R : List (Nat × Nat)}, R.length ≤ n → stR ν ow st R → stR ν (upd ow n a) (upd st n b) R
  | [], _, _ => trivial
  | t :: R, h, q => by
    rw [List.length_cons] at h
    obtain ⟨q1, q2, ⟨s, q3, q4⟩, q5⟩ := q
    exact ⟨by rw [upd_n (by omega)]; exact q1, q2, ⟨s, by rw [upd_n (by omega)]; exact q3, q4⟩, stR_push (by omega) q5⟩
theorem stR_st {ν : Nat → aN} {ow st : Nat → Int32} {b : Int32} {n : Nat} : ∀ {R : List (Nat × Nat)}, R.length ≤ n → stR ν ow st R → stR ν ow (upd st n b) R
  | [], _, _ => trivial
  | t :: R, h, q => by
    rw [List.length_cons] at h
    obtain ⟨q1, q2, ⟨s, q3, q4⟩, q5⟩ := q
    exact ⟨q1, q2, ⟨s, by rw [upd_n (by omega)]; exact q3, q4⟩, stR_st (by omega) q5⟩
/-- a letter -/
noncomputable def kbL (κ : kB) (so pl : Nat) : kB := match ebA κ.2.2.2.2.2 κ.2.1 κ.2.2.1 pl κ.2.2.2.1, κ.1 with
  | some t, R => (R, some so, some t, κ.2.2.2.1 + 1, max κ.2.2.2.2.1 R.length, κ.2.2.2.2.2)
  | none, [] => κ
  | none, (x, m) :: R => if (trM (dT (κ.2.2.2.2.2 x).1) m).testBit so = true
      then ((x, dltM (dG (κ.2.2.2.2.2 x).1) so m) :: R, some so, none, κ.2.2.2.1 + 1, max κ.2.2.2.2.1 (R.length + 1), upN κ.2.2.2.2.2 x (sY (κ.2.2.2.2.2 x) (dltM (dG (κ.2.2.2.2.2 x).1) so m)))
      else ((x, m) :: R, some so, some (pl, trM (dT (κ.2.2.2.2.2 x).1) m &&& 255, (trM (dT (κ.2.2.2.2.2 x).1) m).testBit 8, κ.2.2.2.1), κ.2.2.2.1 + 1, max κ.2.2.2.2.1 (R.length + 1), κ.2.2.2.2.2)
/-- a bracket behind a letter -/
def kbO (κ : kB) (b : Nat) : kB := ((b, 1) :: κ.1, none, κ.2.2)
/-- the end of the newest part -/
noncomputable def kbE (κ : kB) (pl : Nat) : aQ := match κ.1 with
  | [] => none
  | (x, m) :: _ => eaA (ebA κ.2.2.2.2.2 κ.2.1 κ.2.2.1 pl κ.2.2.2.1) pl (κ.2.2.2.2.2 x).1 m κ.2.2.2.1
noncomputable def kbC (κ : kB) (pl : Nat) : kB := (κ.1.tail, none, kbE κ pl, κ.2.2.2)
noncomputable def kbT (κ : kB) (c pl : Nat) : Option kB := if 97 ≤ c ∧ c ≤ 104 then some (kbL κ (c - 97) pl) else match κ.2.1 with
  | some b => if c = 40 ∧ κ.1.length ≤ 8 then some (kbO κ b) else if c = 41 ∧ 2 ≤ κ.1.length then some (kbC κ pl) else if c = 32 then some κ else none
  | none => if c = 41 ∧ 2 ≤ κ.1.length then some (kbC κ pl) else if c = 32 then some κ else none
/-- a text: the place that can't stand there, the state there or behind all -/
noncomputable def kbF : kB → List Nat → Nat → Option Nat × kB
  | κ, [], _ => (none, κ)
  | κ, c :: cs, i => match kbT κ c i with
    | none => (some i, κ)
    | some κ' => kbF κ' cs (i + 1)
/-- the state as the cells have it -/
def kbR (κ : kB) (ow st : Nat → Int32) (PM : Nat → PS × MS) : Prop := stR κ.2.2.2.2.2 ow st κ.1 ∧ 1 ≤ κ.1.length ∧ κ.1.length ≤ 9 ∧ (∀ b, κ.2.1 = some b → b < 8) ∧ qOK κ.2.2.1 ∧ κ.2.2.2.2.1 < 2 ^ 20 ∧ ∀ x, x < 9 → yR (PM x) (κ.2.2.2.2.2 x)
theorem sY_ext (ν : aN) (m : Nat) : extL ν.2.1.1 (sY ν m).2.1.1 := sZ_ext (nZ ν (fun _ => 0)) m
theorem upN_ext {ν : Nat → aN} {x m : Nat} (y : Nat) : extL (ν y).2.1.1 (upN ν x (sY (ν x) m) y).2.1.1 := by
  unfold upN
  by_cases q : y = x
  · subst q
    rw [if_pos rfl]
    exact sY_ext _ _
  · rw [if_neg q]
    exact extL_rf _
/-- nothing is lost of the machines -/
def leV (ν ν' : Nat → aN) : Prop := fY yS ν ≤ fY yS ν' ∧ fY yC ν ≤ fY yC ν' ∧ ∀ x, extL (ν x).2.1.1 (ν' x).2.1.1 ∧ (ν x).1 = (ν' x).1
theorem leV_rf (ν : Nat → aN) : leV ν ν := ⟨Nat.le_refl _, Nat.le_refl _, fun x => ⟨extL_rf _, rfl⟩⟩
theorem leV_tr {ν ν' ν2 : Nat → aN} (h : leV ν ν') (h2 : leV ν' ν2) : leV ν ν2 := ⟨Nat.le_trans h.1 h2.1, Nat.le_trans h.2.1 h2.2.1, fun x => ⟨extL_tr (h.2.2 x).1 (h2.2.2 x).1, (h.2.2 x).2.trans (h2.2.2 x).2⟩⟩
/-- a machine's rooms are as they are made -/
def okN (ν : aN) : Prop := okA (nZ ν (fun _ => 0))
theorem okN_s {ν : aN} (h : okN ν) (m : Nat) : okN (sY ν m) := okA_s h m
theorem yR_N {Z : PS × MS} {ν : aN} (h : yR Z ν) : okN ν := by
  obtain ⟨co, hz, -, -⟩ := h
  have := zR_A hz
  exact this
theorem sY_le {ν : aN} (h : okN ν) (m : Nat) : yS ν ≤ yS (sY ν m) ∧ yC ν ≤ yC (sY ν m) := by
  have := sZ_cost (α := nZ ν (fun _ => 0)) (m := m) h.1 h.2.1 h.2.2.1 h.2.2.2
  exact ⟨this.1, this.2.1⟩
theorem upN_le {ν : Nat → aN} {x m : Nat} (hx : x < 9) (h : okN (ν x)) : leV ν (upN ν x (sY (ν x) m)) := by
  obtain ⟨h1, h2⟩ := sY_le h m
  have e1 := fY_upd (f := yS) (ν := ν) hx (sY (ν x) m)
  have e2 := fY_upd (f := yC) (ν := ν) hx (sY (ν x) m)
  refine ⟨by omega, by omega, fun y => ⟨upN_ext y, ?_⟩⟩
  unfold upN
  by_cases q : y = x
  · subst q
    rw [if_pos rfl]
    rfl
  · rw [if_neg q]
def okK (κ : kB) : Prop := (∀ x, okN (κ.2.2.2.2.2 x)) ∧ ∀ t ∈ κ.1, t.1 < 9
theorem kbL_le {κ : kB} (h : okK κ) (so pl : Nat) : leV κ.2.2.2.2.2 (kbL κ so pl).2.2.2.2.2 ∧ okK (kbL κ so pl) := by
  obtain ⟨stk, br, q, le, de, ν⟩ := κ
  unfold kbL
  dsimp only
  cases ebA ν br q pl le with
  | some t => exact ⟨leV_rf _, h⟩
  | none =>
    cases stk with
    | nil => exact ⟨leV_rf _, h⟩
    | cons p R =>
      obtain ⟨x, m⟩ := p
      have hx : x < 9 := h.2 (x, m) (List.mem_cons_self ..)
      dsimp only
      split
      · refine ⟨upN_le hx (h.1 x), fun y => ?_, fun t ht => ?_⟩
        · show okN (upN ν x _ y)
          unfold upN
          split
          · exact okN_s (h.1 x) _
          · exact h.1 y
        · rcases List.mem_cons.mp ht with z | z
          · rw [z]
            exact hx
          · exact h.2 t (List.mem_cons_of_mem _ z)
      · exact ⟨leV_rf _, h⟩
theorem kbT_le {κ κ' : kB} {c pl : Nat} (h : okK κ) (hb : ∀ b, κ.2.1 = some b → b < 9) (e : kbT κ c pl = some κ') : leV κ.2.2.2.2.2 κ'.2.2.2.2.2 ∧ okK κ' := by
  have hC : leV κ.2.2.2.2.2 (kbC κ pl).2.2.2.2.2 ∧ okK (kbC κ pl) := ⟨leV_rf _, h.1, fun t ht => h.2 t (List.mem_of_mem_tail ht)⟩
  unfold kbT at e
  split at e
  · have := Option.some.inj e
    subst this
    exact kbL_le h _ _
  · split at e
    next b hbb =>
      split at e
      · have := Option.some.inj e
        subst this
        refine ⟨leV_rf _, h.1, fun t ht => ?_⟩
        rcases List.mem_cons.mp ht with z | z
        · rw [z]
          exact hb b hbb
        · exact h.2 t z
      · split at e
        · have := Option.some.inj e
          subst this
          exact hC
        · split at e
          · have := Option.some.inj e
            subst this
            exact ⟨leV_rf _, h⟩
          · exact absurd e (by simp)
    · split at e
      · have := Option.some.inj e
        subst this
        exact hC
      · split at e
        · have := Option.some.inj e
          subst this
          exact ⟨leV_rf _, h⟩
        · exact absurd e (by simp)
theorem kbL_br (κ : kB) (so pl : Nat) (h : 1 ≤ κ.1.length) : (kbL κ so pl).2.1 = some so := by
  obtain ⟨stk, br, q, le, de, ν⟩ := κ
  unfold kbL
  dsimp only
  cases ebA ν br q pl le with
  | some t => rfl
  | none =>
    cases stk with
    | nil => simp at h
    | cons p R =>
      obtain ⟨x, m⟩ := p
      dsimp only
      split <;> rfl
