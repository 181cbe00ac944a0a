/-! Room: what the sets of rows hold -/
section MK
variable {p : Int64}
theorem rowM_app : ∀ (xs ys : List Nat) (m : Nat), rowM p m (xs ++ ys) = rowM p (rowM p m xs) ys
  | [], _, _ => rfl
  | _ :: xs, ys, m => rowM_app xs ys _
theorem dlt_0 (x : Nat) : dltM (dG p) x 0 = 0 := by
  apply Nat.eq_of_testBit_eq
  intro b
  rw [Nat.zero_testBit, ← Bool.not_eq_true]
  intro q
  obtain ⟨a, -, h, -⟩ := dltM_bit.mp q
  rw [Nat.zero_testBit] at h
  exact absurd h (by decide)
theorem rowM_0 : ∀ xs : List Nat, rowM p 0 xs = 0
  | [] => rfl
  | x :: xs => by
    show rowM p (dltM (dG p) x 0) xs = 0
    rw [dlt_0]
    exact rowM_0 xs
theorem gm_ok (hp : okP p) : ∀ q, q < dS p → ∀ m ∈ dG p q, m.2 < dS p := fun q hq m hm => by
  have hn := (dwf hp).1
  exact (pmv_ok (dwf hp) (dN p - 1) (by omega) q hq m ((gm_mem (dN p) q m).mp hm)).2.2
theorem rowM_lt (hp : okP p) : ∀ (xs : List Nat) (m : Nat), m < 2 ^ dS p → rowM p m xs < 2 ^ dS p
  | [], _, h => h
  | x :: xs, m, h => rowM_lt hp xs _ (dltM_lt h (gm_ok hp))
/-- a step, letter by letter -/
theorem dlt_ph (hp : okP p) {x m q : Nat} (hm : m < 2 ^ dS p) (h : (dltM (dG p) x m).testBit q = true) : ∃ a j, m.testBit a = true ∧ a < dS p ∧ q < dS p ∧ j < dN p ∧ dK p j ≤ 8 ∧ dK p j = x + 1 ∧ (j, q) ∈ pml (dK p) (dL p) (dN p - 1) a ∧ ∃ R, phi (dK p) (dL p) (dN p - 1) q = sbM (phi (dK p) (dL p) (dN p - 1) a) R ||| owM (dK p) j := by
  have hw := dwf hp
  have hn := hw.1
  obtain ⟨a, -, h2, h3⟩ := dltM_bit.mp h
  have ha := tb_lt hm h2
  have h4 := (gm_mem (dN p) a _).mp h3
  rw [pml_pmv hw (dN p - 1) (by omega) a] at h4
  obtain ⟨⟨j, q'⟩, m1, m2⟩ := List.mem_map.mp h4
  obtain ⟨e1, e2⟩ := Prod.mk.inj m2
  dsimp only at e1 e2
  subst e2
  obtain ⟨i1, i2, i3⟩ := pml_in hw (dN p - 1) (by omega) a _ m1
  dsimp only at i1 i2 i3
  have hk1 := (hw.2.2.1 j (by omega)).1
  have hq := (pml_ok hw (show dN p - 1 < dN p by omega) ha m1).2
  obtain ⟨R, -, hR⟩ := (tg_iff hw ha (show j < dN p by omega) i3 _).mpr ⟨q', hq, m1, rfl⟩
  exact ⟨a, j, h2, ha, hq, by omega, i3, by omega, m1, R, hR⟩
/-- places made of the letters of some sorts alone -/
def inS (p : Int64) (Sg : List Nat) (m : Nat) : Prop := ∀ q, m.testBit q = true → q < dS p ∧ ∀ b, (phi (dK p) (dL p) (dN p - 1) q).testBit b = true → ∃ j, j < dN p ∧ dK p j ≤ 8 ∧ cntL (dK p) j = b ∧ ∃ y ∈ Sg, dK p j = y + 1
theorem inS_s (hp : okP p) {Sg : List Nat} {x m : Nat} (hx : x ∈ Sg) (hm : m < 2 ^ dS p) (h : inS p Sg m) : inS p Sg (dltM (dG p) x m) := by
  intro q hq
  obtain ⟨a, j, a1, a2, a3, a4, a5, a6, -, R, a7⟩ := dlt_ph hp hm hq
  refine ⟨a3, fun b hb => ?_⟩
  rw [a7, Nat.testBit_or, sb_bit, ow_bit a5] at hb
  simp only [Bool.or_eq_true, Bool.and_eq_true, decide_eq_true_eq] at hb
  rcases hb with hb | hb
  · exact (h a a1).2 b hb.1
  · exact ⟨j, a4, a5, hb, x, hx, a6⟩
theorem inS_row (hp : okP p) {Sg : List Nat} : ∀ (xs : List Nat) (m : Nat), (∀ x ∈ xs, x ∈ Sg) → m < 2 ^ dS p → inS p Sg m → inS p Sg (rowM p m xs)
  | [], _, _, _, h => h
  | x :: xs, m, hx, hm, h => inS_row hp xs _ (fun y hy => hx y (List.mem_cons_of_mem _ hy)) (dltM_lt hm (gm_ok hp)) (inS_s hp (hx x (List.mem_cons_self ..)) hm h)
theorem one_lt (hp : okP p) : 1 < 2 ^ dS p := Nat.lt_of_lt_of_le (show 1 < 2 ^ 1 by decide) (Nat.pow_le_pow_right (by decide) (psp_pos _ _ _))
theorem inS_1 (hp : okP p) (Sg : List Nat) : inS p Sg 1 := by
  have hw := dwf hp
  have hn := hw.1
  intro q hq
  have e : q = 0 := by
    rw [show (1 : Nat) = 2 ^ 0 by decide, Nat.testBit_two_pow] at hq
    simp only [decide_eq_true_eq] at hq
    omega
  subst e
  refine ⟨psp_pos _ _ _, fun b hb => ?_⟩
  rw [phi_0 hw (dN p - 1) (by omega), Nat.zero_testBit] at hb
  exact absurd hb (by decide)
/-- a sort with one letter alone -/
def uqS (p : Int64) (x j : Nat) : Prop := j < dN p ∧ dK p j = x + 1 ∧ dK p j ≤ 8 ∧ ∀ i, i < dN p → dK p i = x + 1 → i = j
theorem two_v {v a b : Nat} (h : ∀ i, v.testBit i = true → i = a ∨ i = b) (hb : v.testBit b = true) : v = 2 ^ b ∨ v = 2 ^ a ||| 2 ^ b := by
  cases ha : v.testBit a
  · left
    apply Nat.eq_of_testBit_eq
    intro i
    rw [Nat.testBit_two_pow]
    by_cases q : b = i
    · subst q
      rw [hb]; simp
    · cases hv : v.testBit i
      · simp [q]
      · rcases h i hv with e | e
        · rw [e, ha] at hv
          exact absurd hv (by decide)
        · exact absurd e.symm q
  · right
    apply Nat.eq_of_testBit_eq
    intro i
    rw [Nat.testBit_or, Nat.testBit_two_pow, Nat.testBit_two_pow]
    by_cases q : b = i
    · subst q
      rw [hb]; simp
    · by_cases q2 : a = i
      · subst q2
        rw [ha]; simp
      · cases hv : v.testBit i
        · simp [q, q2]
        · rcases h i hv with e | e
          · exact absurd e.symm q2
          · exact absurd e.symm q
noncomputable def pmk (p : Int64) (V : Nat) : Nat := @dite _ (∃ q, q < dS p ∧ phi (dK p) (dL p) (dN p - 1) q = V) (Classical.propDecidable _) (fun h => 2 ^ (Classical.choose h)) (fun _ => 0)
theorem pmk_bit (hp : okP p) (V q : Nat) : (pmk p V).testBit q = true ↔ q < dS p ∧ phi (dK p) (dL p) (dN p - 1) q = V := by
  have hw := dwf hp
  have hn := hw.1
  unfold pmk
  by_cases h : ∃ q, q < dS p ∧ phi (dK p) (dL p) (dN p - 1) q = V
  · rw [dif_pos h, Nat.testBit_two_pow, decide_eq_true_eq]
    obtain ⟨c1, c2⟩ := Classical.choose_spec h
    constructor
    · rintro rfl
      exact ⟨c1, c2⟩
    · rintro ⟨q1, q2⟩
      exact phi_inj hw (dN p - 1) (by omega) _ _ c1 q1 (c2.trans q2.symm)
  · rw [dif_neg h, Nat.zero_testBit]
    exact ⟨fun w => absurd w (by decide), fun w => absurd ⟨q, w⟩ h⟩
theorem mask_two (hp : okP p) {m V1 V2 : Nat} (hm : m ≠ 0) (h : ∀ q, m.testBit q = true → q < dS p ∧ (phi (dK p) (dL p) (dN p - 1) q = V1 ∨ phi (dK p) (dL p) (dN p - 1) q = V2)) : m = pmk p V1 ∨ m = pmk p V2 ∨ m = pmk p V1 ||| pmk p V2 := by
  have hw := dwf hp
  have hn := hw.1
  have key : ∀ V a, m.testBit a = true → phi (dK p) (dL p) (dN p - 1) a = V → ∀ q, (pmk p V).testBit q = true → m.testBit q = true := fun V a ha hv q hq => by
    obtain ⟨q1, q2⟩ := (pmk_bit hp V q).mp hq
    rw [phi_inj hw (dN p - 1) (by omega) q a q1 (h a ha).1 (q2.trans hv.symm)]
    exact ha
  by_cases hA : ∃ a, m.testBit a = true ∧ phi (dK p) (dL p) (dN p - 1) a = V1
  · obtain ⟨a, a1, a2⟩ := hA
    by_cases hB : ∃ b, m.testBit b = true ∧ phi (dK p) (dL p) (dN p - 1) b = V2
    · obtain ⟨b, b1, b2⟩ := hB
      refine Or.inr (Or.inr ?_)
      apply Nat.eq_of_testBit_eq
      intro i
      rw [Nat.testBit_or, Bool.eq_iff_iff, Bool.or_eq_true]
      constructor
      · intro hi
        obtain ⟨c1, c2⟩ := h i hi
        exact c2.imp (fun c => (pmk_bit hp _ _).mpr ⟨c1, c⟩) (fun c => (pmk_bit hp _ _).mpr ⟨c1, c⟩)
      · rintro (w | w)
        · exact key V1 a a1 a2 i w
        · exact key V2 b b1 b2 i w
    · refine Or.inl ?_
      apply Nat.eq_of_testBit_eq
      intro i
      rw [Bool.eq_iff_iff]
      constructor
      · intro hi
        obtain ⟨c1, c2⟩ := h i hi
        rcases c2 with c | c
        · exact (pmk_bit hp _ _).mpr ⟨c1, c⟩
        · exact absurd ⟨i, hi, c⟩ hB
      · exact key V1 a a1 a2 i
  · refine Or.inr (Or.inl ?_)
    have hB : ∃ b, m.testBit b = true ∧ phi (dK p) (dL p) (dN p - 1) b = V2 := by
      refine Classical.byContradiction fun w => hm ?_
      apply Nat.eq_of_testBit_eq
      intro i
      rw [Nat.zero_testBit, ← Bool.not_eq_true]
      intro hi
      rcases (h i hi).2 with c | c
      · exact hA ⟨i, hi, c⟩
      · exact w ⟨i, hi, c⟩
    obtain ⟨b, b1, b2⟩ := hB
    apply Nat.eq_of_testBit_eq
    intro i
    rw [Bool.eq_iff_iff]
    constructor
    · intro hi
      obtain ⟨c1, c2⟩ := h i hi
      rcases c2 with c | c
      · exact absurd ⟨i, hi, c⟩ hA
      · exact (pmk_bit hp _ _).mpr ⟨c1, c⟩
    · exact key V2 b b1 b2 i
/-- a row of two sorts with one letter each -/
theorem row_two (hp : okP p) {x y jx jy : Nat} (hx : uqS p x jx) (hy : uqS p y jy) {u : List Nat} {m : Nat} (hm : m < 2 ^ dS p) (hin : inS p [x, y] m) (hu : ∀ z ∈ u, z = x ∨ z = y) (hne : rowM p m (u ++ [y]) ≠ 0) : rowM p m (u ++ [y]) = pmk p (2 ^ cntL (dK p) jy) ∨ rowM p m (u ++ [y]) = pmk p (2 ^ cntL (dK p) jx ||| 2 ^ cntL (dK p) jy) ∨ rowM p m (u ++ [y]) = pmk p (2 ^ cntL (dK p) jy) ||| pmk p (2 ^ cntL (dK p) jx ||| 2 ^ cntL (dK p) jy) := by
  refine mask_two hp hne (fun q hq => ?_)
  have hall := inS_row hp (u ++ [y]) m (fun z hz => by
    rcases List.mem_append.mp hz with w | w
    · rcases hu z w with e | e
      · rw [e]; exact List.mem_cons_self ..
      · rw [e]; exact List.mem_cons_of_mem _ (List.mem_cons_self ..)
    · rw [List.mem_singleton] at w
      rw [w]; exact List.mem_cons_of_mem _ (List.mem_cons_self ..)) hm hin q hq
  refine ⟨hall.1, two_v (fun b hb => ?_) ?_⟩
  · obtain ⟨j, j1, j2, j3, z, hz, j4⟩ := hall.2 b hb
    rcases List.mem_cons.mp hz with e | e
    · rw [e] at j4
      rw [← j3, hx.2.2.2 j j1 j4]
      exact Or.inl rfl
    · rw [List.mem_singleton] at e
      rw [e] at j4
      rw [← j3, hy.2.2.2 j j1 j4]
      exact Or.inr rfl
  · rw [rowM_app] at hq
    obtain ⟨a, j, -, -, -, a4, a5, a6, -, R, a7⟩ := dlt_ph hp (rowM_lt hp u m hm) hq
    rw [a7, Nat.testBit_or, ow_bit a5, hy.2.2.2 j a4 a6]
    simp
/-- a row of one sort with one letter -/
theorem row_one (hp : okP p) {x jx : Nat} (hx : uqS p x jx) {u : List Nat} {m : Nat} (hm : m < 2 ^ dS p) (hin : inS p [x, x] m) (hu : ∀ z ∈ u, z = x) (hne : rowM p m (u ++ [x]) ≠ 0) : rowM p m (u ++ [x]) = pmk p (2 ^ cntL (dK p) jx) := by
  rcases row_two hp hx hx hm hin (fun z hz => Or.inl (hu z hz)) hne with e | e | e
  · exact e
  · rw [e, Nat.or_self]
  · rw [e, Nat.or_self, Nat.or_self]
end MK
