/-! RowCounter.stepOn: what it does, on numbers -/
theorem due_iff {p : Int64} (hp : okP p) {m x : Nat} (hm : m < 2 ^ dS p) (hx : x < 8) : (trM (dT p) m).testBit x = true ↔ dltM (dG p) x m ≠ 0 := by
  have hS : dS p ≤ 256 := wf_sp (dwf hp) (by have := (dwf hp).1; omega)
  rw [trM_bit]
  constructor
  · rintro ⟨q, h1, h2, h3⟩ z
    obtain ⟨t, ht⟩ := (gt_due hx).mp h3
    have := dltM_bit (gm := dG p) (x := x) (m := m) (t := t) |>.mpr ⟨q, h1, h2, ((gtP_s _ _ _ _).2.1 _).mpr ht⟩
    rw [z, Nat.zero_testBit] at this
    exact absurd this (by decide)
  · intro h
    obtain ⟨t, ht⟩ := Nat.exists_testBit_of_ne_zero h
    obtain ⟨q, h1, h2, h3⟩ := dltM_bit.mp ht
    exact ⟨q, h1, h2, (gt_due hx).mpr ⟨t, ((gtP_s _ _ _ _).2.1 _).mp h3⟩⟩
def okA (α : aZ) : Prop := pw2 α.2.1.2.1 ∧ pw3 α.2.1.2.2 ∧ 1 ≤ dW α.1 ∧ dW α.1 ≤ 4
theorem okA_s {α : aZ} (h : okA α) (m : Nat) : okA (sZ α m) := by
  obtain ⟨h1, h2, h3, h4⟩ := h
  unfold okA sZ stA
  split
  · exact ⟨h1, h2, h3, h4⟩
  · exact ⟨pw2_T h1, pw3_E h1 h2 h3 h4, h3, h4⟩
theorem zR_A {Z : PS × MS} {α : aZ} (h : zR Z α) : okA α := by
  obtain ⟨mc, lv, kd, sa, la, sp, sh, ptr, mo, ms, me, ft, se, nx, tr, ol, nw, fo, rfl, -, -, -, -, -, -, -, hI⟩ := h
  exact ⟨hI.2.1.2.2.2.2.1, hI.2.1.2.2.2.2.2, hI.1.1, hI.1.2.1⟩
theorem zR_L {Z : PS × MS} {α : aZ} (h : zR Z α) : okP α.1 ∧ α.2.1.1.Nodup ∧ ∀ m ∈ α.2.1.1, m < 2 ^ dS α.1 := by
  obtain ⟨mc, lv, kd, sa, la, sp, sh, ptr, mo, ms, me, ft, se, nx, tr, ol, nw, fo, rfl, hp, -, -, -, -, -, -, hI⟩ := h
  exact ⟨hp, hI.2.2.1, hI.2.2.2.1⟩
/-- a list goes on with another one -/
def extL (L L' : List Nat) : Prop := ∀ (i m : Nat), L[i]? = some m → L'[i]? = some m
theorem extL_rf (L : List Nat) : extL L L := fun _ _ h => h
theorem extL_tr {L L' L2 : List Nat} (h : extL L L') (h2 : extL L' L2) : extL L L2 := fun i m q => h2 i m (h i m q)
theorem extL_len {L L' : List Nat} (h : extL L L') : L.length ≤ L'.length := by
  rcases Nat.lt_or_ge L'.length L.length with q | q
  · have := gget_lt (h L'.length _ (List.getElem?_eq_getElem q))
    omega
  · exact q
theorem sZ_ext (α : aZ) (m : Nat) : extL α.2.1.1 (sZ α m).2.1.1 := by
  intro i y h
  unfold sZ stA
  split
  · exact h
  · show (α.2.1.1 ++ [m])[i]? = some y
    rw [List.getElem?_append_left (gget_lt h)]
    exact h
theorem sZ_mem (α : aZ) (m : Nat) : m ∈ (sZ α m).2.1.1 := by
  unfold sZ stA
  split
  · assumption
  · exact List.mem_append_right _ (List.mem_singleton.mpr rfl)
theorem sZ_sub {α : aZ} {m y : Nat} (h : y ∈ (sZ α m).2.1.1) : y ∈ α.2.1.1 ∨ y = m := by
  unfold sZ stA at h
  split at h
  · exact Or.inl h
  · rcases List.mem_append.mp h with q | q
    · exact Or.inl q
    · exact Or.inr (List.mem_singleton.mp q)
/-- a machine, the room of the new ways, the ways of the sets so far -/
abbrev bS : Type := aZ × Nat × (Nat → Nat)
def addC (acc : Nat → Nat) (m' v : Nat) : Nat → Nat := fun y => acc y + (if y = m' then v else 0)
noncomputable def soS (p : Int64) (c : Nat → Nat) (m x : Nat) (β : bS) : bS := if c m ≠ 0 ∧ (trM (dT p) m).testBit x = true then (sZ β.1 (dltM (dG p) x m), (if (sZ β.1 (dltM (dG p) x m)).2.1.1.idxOf (dltM (dG p) x m) < β.2.1 then β.2.1 else 2 * (sZ β.1 (dltM (dG p) x m)).2.1.1.idxOf (dltM (dG p) x m)), addC β.2.2 (dltM (dG p) x m) (c m)) else β
noncomputable def soX (p : Int64) (c : Nat → Nat) (m : Nat) : Nat → bS → bS
  | 0, β => β
  | r + 1, β => soX p c m r (soS p c m (7 - r) β)
noncomputable def soL (p : Int64) (c : Nat → Nat) : List Nat → bS → bS
  | [], β => β
  | m :: R, β => soL p c R (soX p c m 8 β)
def kS2 (β : bS) : Nat := zS β.1 + 2 * β.2.1
def kC2 (β : bS) : Nat := zC β.1 + β.2.1
/-- one state leads to another: nothing is lost -/
def leB (β β' : bS) : Prop := kS2 β ≤ kS2 β' ∧ kC2 β ≤ kC2 β' ∧ extL β.1.2.1.1 β'.1.2.1.1 ∧ β.1.1 = β'.1.1 ∧ β.1.2.2 = β'.1.2.2 ∧ β.2.1 ≤ β'.2.1
theorem leB_rf (β : bS) : leB β β := ⟨Nat.le_refl _, Nat.le_refl _, extL_rf _, rfl, rfl, Nat.le_refl _⟩
theorem leB_tr {β β' β2 : bS} (h : leB β β') (h2 : leB β' β2) : leB β β2 := ⟨Nat.le_trans h.1 h2.1, Nat.le_trans h.2.1 h2.2.1, extL_tr h.2.2.1 h2.2.2.1, h.2.2.2.1.trans h2.2.2.2.1, h.2.2.2.2.1.trans h2.2.2.2.2.1, Nat.le_trans h.2.2.2.2.2 h2.2.2.2.2.2⟩
theorem soS_le {p : Int64} {c : Nat → Nat} {m x : Nat} {β : bS} (h : okA β.1) : leB β (soS p c m x β) ∧ okA (soS p c m x β).1 := by
  have hc := sZ_cost (m := dltM (dG p) x m) h.1 h.2.1 h.2.2.1 h.2.2.2
  unfold soS
  generalize (sZ β.1 (dltM (dG p) x m)).2.1.1.idxOf (dltM (dG p) x m) = j
  split
  · refine ⟨⟨?_, ?_, sZ_ext _ _, rfl, rfl, ?_⟩, okA_s h _⟩
    · show zS β.1 + 2 * β.2.1 ≤ zS (sZ β.1 (dltM (dG p) x m)) + 2 * (if j < β.2.1 then β.2.1 else 2 * j)
      split <;> omega
    · show zC β.1 + β.2.1 ≤ zC (sZ β.1 (dltM (dG p) x m)) + (if j < β.2.1 then β.2.1 else 2 * j)
      split <;> omega
    · show β.2.1 ≤ (if j < β.2.1 then β.2.1 else 2 * j)
      split <;> omega
  · exact ⟨leB_rf _, h⟩
theorem soX_le {p : Int64} {c : Nat → Nat} {m : Nat} : ∀ (r : Nat) {β : bS}, okA β.1 → leB β (soX p c m r β) ∧ okA (soX p c m r β).1
  | 0, β, h => ⟨leB_rf _, h⟩
  | r + 1, β, h => by
    obtain ⟨h1, h2⟩ := soS_le (p := p) (c := c) (m := m) (x := 7 - r) h
    obtain ⟨h3, h4⟩ := soX_le (p := p) (c := c) (m := m) r h2
    exact ⟨leB_tr h1 h3, h4⟩
theorem soL_le {p : Int64} {c : Nat → Nat} : ∀ (R : List Nat) {β : bS}, okA β.1 → leB β (soL p c R β) ∧ okA (soL p c R β).1
  | [], β, h => ⟨leB_rf _, h⟩
  | m :: R, β, h => by
    obtain ⟨h1, h2⟩ := soX_le (p := p) (c := c) (m := m) 8 h
    obtain ⟨h3, h4⟩ := soL_le (p := p) (c := c) R h2
    exact ⟨leB_tr h1 h3, h4⟩
/-- the ways in the end -/
theorem soX_acc {p : Int64} (hp : okP p) {c : Nat → Nat} {m : Nat} (hm : m < 2 ^ dS p) (y : Nat) : ∀ (r : Nat) (β : bS), r ≤ 8 → (soX p c m r β).2.2 y + c m * hitX (dG p) m y (8 - r) = β.2.2 y + c m * hitX (dG p) m y 8
  | 0, β, _ => rfl
  | r + 1, β, hr => by
    have ih := soX_acc hp (c := c) hm y r (soS p c m (7 - r) β) (by omega)
    show (soX p c m r (soS p c m (7 - r) β)).2.2 y + _ = _
    rw [show 8 - (r + 1) = 7 - r by omega]
    rw [show 8 - r = 7 - r + 1 by omega, hitX_s, Nat.mul_add] at ih
    have hd := due_iff hp hm (show 7 - r < 8 by omega)
    have e : (soS p c m (7 - r) β).2.2 y = β.2.2 y + c m * (if dltM (dG p) (7 - r) m ≠ 0 ∧ dltM (dG p) (7 - r) m = y then 1 else 0) := by
      unfold soS
      by_cases q : c m ≠ 0 ∧ (trM (dT p) m).testBit (7 - r) = true
      · rw [if_pos q]
        show β.2.2 y + (if y = dltM (dG p) (7 - r) m then c m else 0) = _
        have q2 := hd.mp q.2
        by_cases q3 : y = dltM (dG p) (7 - r) m
        · rw [if_pos q3, if_pos ⟨q2, q3.symm⟩, Nat.mul_one]
        · rw [if_neg q3, if_neg (fun z => q3 z.2.symm), Nat.mul_zero]
      · rw [if_neg q]
        by_cases q1 : c m = 0
        · rw [q1, Nat.zero_mul, Nat.add_zero]
        · rw [if_neg (fun z => q ⟨q1, hd.mpr z.1⟩), Nat.mul_zero, Nat.add_zero]
    omega
theorem soL_acc {p : Int64} (hp : okP p) {c : Nat → Nat} (y : Nat) : ∀ (R : List Nat) (β : bS), (∀ m ∈ R, m < 2 ^ dS p) → (soL p c R β).2.2 y = β.2.2 y + sumI R c (fun m => hitX (dG p) m y 8)
  | [], β, _ => rfl
  | m :: R, β, h => by
    show (soL p c R (soX p c m 8 β)).2.2 y = _
    rw [soL_acc hp y R _ (fun a ha => h a (List.mem_cons_of_mem _ ha))]
    have := soX_acc hp (c := c) (h m (List.mem_cons_self ..)) y 8 β (Nat.le_refl _)
    rw [Nat.sub_self, hitX_0, Nat.mul_zero, Nat.add_zero] at this
    rw [this]
    simp only [sumI]
    omega
