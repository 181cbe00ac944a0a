/-! Room: eight sorts, one place at a time -/
section DT
variable {K lf : Nat → Nat} {n : Nat}
/-- an ended place has no moves, where nothing is perhaps or again -/
theorem nu_end (h : wfP K lf n) : ∀ i, i < n → (∀ j, pst K lf i ≤ j → j ≤ i → K j ≤ 12 ∧ K j ≠ 9) → 1 ≤ psh K lf i ∧ ∀ p, p < psp K lf i → pal K lf i p = true → pml K lf i p = [] := by
  intro i
  induction i using Nat.strongRecOn with
  | _ i ih =>
    intro hi hu
    rcases wf_cases h hi with q | q | ⟨q1, q2, q3, q4⟩ | ⟨q1, q2, q3, q4, q5, q6⟩
    · refine ⟨by rw [psh_let q]; exact Nat.le_refl _, fun p hp ha => ?_⟩
      rw [pal_let q, beq_iff_eq] at ha
      rw [pml_let q, if_neg (by omega)]
    · exact absurd q (hu i (pst_le K lf i) (Nat.le_refl _)).2
    · have := (hu i (pst_le K lf i) (Nat.le_refl _)).1
      omega
    · have hpl := pst_le K lf (lf i)
      obtain ⟨l1, l2⟩ := ih (lf i) (by omega) (by omega) (fun j a b => hu j (by omega) (by omega))
      obtain ⟨r1, r2⟩ := ih (i - 1) (by omega) (by omega) (fun j a b => hu j (by omega) (by omega))
      have hnl := wf_nul h (lf i) (by omega)
      by_cases k11 : K i = 11
      · refine ⟨by rw [psh_add (Or.inl k11) q3 (by omega)]; omega, fun p hp ha => ?_⟩
        rw [psp_mix k11 q3 (by omega)] at hp
        obtain ⟨m1, m2, m3⟩ := mx_lt hp
        rw [pal_mix k11 q3 (by omega), Bool.and_eq_true] at ha
        rw [pml_mix k11 q3 (by omega), l2 _ m1 ha.1, r2 _ m2 ha.2]
        rfl
      · have kp : K i = 10 ∨ K i = 12 := by omega
        refine ⟨?_, fun p hp ha => ?_⟩
        · rcases kp with k | k
          · rw [psh_min k q3 (by omega)]; omega
          · rw [psh_add (Or.inr k) q3 (by omega)]; omega
        · rw [psp_pair kp q3 (by omega)] at hp
          by_cases z : psp K lf (lf i) ≤ p
          · rw [pal_hi kp q3 (by omega) z] at ha
            rw [pml_hi kp q3 (by omega) z, r2 _ (by omega) ha]
            rfl
          · rcases kp with k | k
            · rw [pal_eit k q3 (by omega) z, Bool.or_eq_true, Bool.and_eq_true] at ha
              have ha2 : pal K lf (lf i) p = true := ha.resolve_right (fun w => by
                have := beq_iff_eq.mp w.2
                omega)
              have p0 : ¬ p = 0 := fun w => by
                rw [w] at ha2
                have := hnl.mp ha2
                omega
              rw [pml_lo (Or.inl k) q3 (by omega) z, l2 _ (by omega) ha2, if_neg (by rw [if_neg (by omega)]; exact p0)]
              rfl
            · rw [pal_beh k q3 (by omega) z, Bool.and_eq_true] at ha
              have := beq_iff_eq.mp ha.1
              omega
/-- one place from a place by a letter -/
theorem det_mv (h : wfP K lf n) (hu : ∀ i, i < n → 13 ≤ K i → ∀ j, pst K lf i ≤ j → j < i → K j ≤ 12 ∧ K j ≠ 9) : ∀ i, i < n → ∀ p, p < psp K lf i → ∀ j q q', (j, q) ∈ pml K lf i p → (j, q') ∈ pml K lf i p → q = q' := by
  intro i
  induction i using Nat.strongRecOn with
  | _ i ih =>
    intro hi p hp j q q' m1 m2
    rcases wf_cases h hi with w | w | ⟨q1, q2, q3, q4⟩ | ⟨q1, q2, q3, q4, q5, q6⟩
    · rw [pml_let w] at m1 m2
      split at m1
      · rw [if_pos (by assumption)] at m2
        rw [List.mem_singleton] at m1 m2
        exact (Prod.mk.inj m1).2.trans (Prod.mk.inj m2).2.symm
      · exact absurd m1 List.not_mem_nil
    · rw [pml_emp w] at m1
      exact absurd m1 List.not_mem_nil
    · rw [psp_un q1 q3] at hp
      have hps := psp_pos K lf (i - 1)
      obtain ⟨-, e2⟩ := nu_end h (i - 1) (by omega) (fun j a b => hu i hi q1 j (by omega) (by omega))
      rw [pml_un q1 q3, List.mem_append] at m1 m2
      by_cases c : K i ≠ 13 ∧ p ≠ 0 ∧ pal K lf (i - 1) p = true
      · rw [if_pos c, e2 p hp c.2.2] at m1 m2
        exact ih (i - 1) (by omega) (by omega) 0 (by omega) j q q' (m1.resolve_left List.not_mem_nil) (m2.resolve_left List.not_mem_nil)
      · rw [if_neg c] at m1 m2
        exact ih (i - 1) (by omega) (by omega) p hp j q q' (m1.resolve_right List.not_mem_nil) (m2.resolve_right List.not_mem_nil)
    · have il := ih (lf i) (by omega) (by omega)
      have ir := ih (i - 1) (by omega) (by omega)
      have inl := fun p m hm => pml_in h (lf i) (by omega) p m hm
      have inr := fun p m hm => pml_in h (i - 1) (by omega) p m hm
      by_cases k11 : K i = 11
      · rw [psp_mix k11 q3 (by omega)] at hp
        obtain ⟨b1, b2, b3⟩ := mx_lt hp
        rw [pml_mix k11 q3 (by omega), List.mem_append, List.mem_map, List.mem_map] at m1 m2
        rcases m1 with ⟨⟨a, b⟩, c, e⟩ | ⟨⟨a, b⟩, c, e⟩
        · obtain ⟨e1, e2⟩ := Prod.mk.inj e
          dsimp only at e1 e2
          rcases m2 with ⟨⟨a', b'⟩, c', e'⟩ | ⟨⟨a', b'⟩, c', e'⟩
          · obtain ⟨e3, e4⟩ := Prod.mk.inj e'
            dsimp only at e3 e4
            rw [e1] at c
            rw [e3] at c'
            rw [← e2, ← e4, il _ b1 j b b' c c']
          · obtain ⟨e3, e4⟩ := Prod.mk.inj e'
            have := (inl _ _ c).2.1
            have := (inr _ _ c').1
            dsimp only at *
            omega
        · obtain ⟨e1, e2⟩ := Prod.mk.inj e
          dsimp only at e1 e2
          rcases m2 with ⟨⟨a', b'⟩, c', e'⟩ | ⟨⟨a', b'⟩, c', e'⟩
          · obtain ⟨e3, e4⟩ := Prod.mk.inj e'
            have := (inl _ _ c').2.1
            have := (inr _ _ c).1
            dsimp only at *
            omega
          · obtain ⟨e3, e4⟩ := Prod.mk.inj e'
            dsimp only at e3 e4
            rw [e1] at c
            rw [e3] at c'
            rw [← e2, ← e4, ir _ b2 j b b' c c']
      · have kp : K i = 10 ∨ K i = 12 := by omega
        rw [psp_pair kp q3 (by omega)] at hp
        have hps := psp_pos K lf (i - 1)
        by_cases z : psp K lf (lf i) ≤ p
        · rw [pml_hi kp q3 (by omega) z, List.mem_map] at m1 m2
          obtain ⟨⟨a, b⟩, c, e⟩ := m1
          obtain ⟨⟨a', b'⟩, c', e'⟩ := m2
          obtain ⟨e1, e2⟩ := Prod.mk.inj e
          obtain ⟨e3, e4⟩ := Prod.mk.inj e'
          dsimp only at e1 e2 e3 e4
          rw [e1] at c
          rw [e3] at c'
          rw [← e2, ← e4, ir _ (by omega) j b b' c c']
        · rw [pml_lo kp q3 (by omega) z, List.mem_append] at m1 m2
          have hr : ∀ q, (j, q) ∈ (if (if K i = 12 then pal K lf (lf i) p = true else p = 0) then (pml K lf (i - 1) 0).map (fun m => (m.1, psp K lf (lf i) - 1 + m.2)) else []) → ∃ b, (j, b) ∈ pml K lf (i - 1) 0 ∧ q = psp K lf (lf i) - 1 + b := fun q hq => by
            by_cases c : (if K i = 12 then pal K lf (lf i) p = true else p = 0)
            · rw [if_pos c, List.mem_map] at hq
              obtain ⟨⟨a, b⟩, c, e⟩ := hq
              obtain ⟨e1, e2⟩ := Prod.mk.inj e
              dsimp only at e1 e2
              rw [e1] at c
              exact ⟨b, c, e2.symm⟩
            · rw [if_neg c] at hq
              exact absurd hq List.not_mem_nil
          rcases m1 with m1 | m1
          · rcases m2 with m2 | m2
            · exact il _ (by omega) j q q' m1 m2
            · obtain ⟨b, c, -⟩ := hr q' m2
              have := (inl _ _ m1).2.1
              have := (inr _ _ c).1
              dsimp only at *
              omega
          · obtain ⟨b, c, e⟩ := hr q m1
            rcases m2 with m2 | m2
            · have := (inl _ _ m2).2.1
              have := (inr _ _ c).1
              dsimp only at *
              omega
            · obtain ⟨b', c', e'⟩ := hr q' m2
              rw [e, e', ir 0 (by omega) j b b' c c']
end DT
section DM
variable {p : Int64}
theorem det_dlt (hp : okP p) (hu : ∀ i, i < dN p → 13 ≤ dK p i → ∀ j, pst (dK p) (dL p) i ≤ j → j < i → dK p j ≤ 12 ∧ dK p j ≠ 9) (hq1 : ∀ i j, i < dN p → j < dN p → dK p i ≤ 8 → dK p i = dK p j → i = j) {a x : Nat} (ha : a < dS p) : dltM (dG p) x (2 ^ a) = 0 ∨ ∃ b, b < dS p ∧ dltM (dG p) x (2 ^ a) = 2 ^ b := by
  have hw := dwf hp
  have hn := hw.1
  have hm : 2 ^ a < 2 ^ dS p := Nat.pow_lt_pow_right (by decide) ha
  by_cases z : dltM (dG p) x (2 ^ a) = 0
  · exact Or.inl z
  · right
    have : ∃ b, (dltM (dG p) x (2 ^ a)).testBit b = true := by
      refine Classical.byContradiction fun w => z ?_
      apply Nat.eq_of_testBit_eq
      intro b
      rw [Nat.zero_testBit, ← Bool.not_eq_true]
      exact fun q => w ⟨b, q⟩
    obtain ⟨b, hb⟩ := this
    obtain ⟨a1, j, h1, h2, h3, h4, h5, h6, h7, -⟩ := dlt_ph hp hm hb
    rw [Nat.testBit_two_pow, decide_eq_true_eq] at h1
    subst h1
    refine ⟨b, h3, ?_⟩
    apply Nat.eq_of_testBit_eq
    intro c
    rw [Nat.testBit_two_pow, Bool.eq_iff_iff, decide_eq_true_eq]
    constructor
    · intro hc
      obtain ⟨a2, j', g1, g2, g3, g4, g5, g6, g7, -⟩ := dlt_ph hp hm hc
      rw [Nat.testBit_two_pow, decide_eq_true_eq] at g1
      subst g1
      have ej : j' = j := hq1 j' j g4 h4 g5 (by omega)
      subst ej
      exact det_mv hw hu (dN p - 1) (by omega) a ha j' b c h7 g7
    · rintro rfl
      exact hb
theorem det_row (hp : okP p) (hu : ∀ i, i < dN p → 13 ≤ dK p i → ∀ j, pst (dK p) (dL p) i ≤ j → j < i → dK p j ≤ 12 ∧ dK p j ≠ 9) (hq1 : ∀ i j, i < dN p → j < dN p → dK p i ≤ 8 → dK p i = dK p j → i = j) : ∀ (xs : List Nat) (a : Nat), a < dS p → rowM p (2 ^ a) xs = 0 ∨ ∃ b, b < dS p ∧ rowM p (2 ^ a) xs = 2 ^ b
  | [], a, ha => Or.inr ⟨a, ha, rfl⟩
  | x :: xs, a, ha => by
    show rowM p (dltM (dG p) x (2 ^ a)) xs = 0 ∨ ∃ b, b < dS p ∧ rowM p (dltM (dG p) x (2 ^ a)) xs = 2 ^ b
    rcases det_dlt (x := x) hp hu hq1 ha with e | ⟨b, hb, e⟩
    · rw [e]
      exact Or.inl (rowM_0 xs)
    · rw [e]
      exact det_row hp hu hq1 xs b hb
end DM
