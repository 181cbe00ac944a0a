/-! May a set end; the moves letter by letter -/
/-- as the model finds it: whether a node may end, S being the last letters -/
def enM (K lf : Nat → Nat) (S i : Nat) : Bool :=
  if unM K lf i &&& S = 0 then psh K lf i == 0
  else if K i ≤ 9 then true
  else if 13 ≤ K i then (if h : 0 < i then enM K lf S (i - 1) else false)
  else (if h : 0 < i ∧ lf i < i then
    (if K i = 12 then (if unM K lf (i - 1) &&& S = 0 then enM K lf S (lf i) && psh K lf (i - 1) == 0 else enM K lf S (i - 1))
     else if K i = 10 then (if unM K lf (lf i) &&& S = 0 then enM K lf S (i - 1) else enM K lf S (lf i))
     else enM K lf S (lf i) && enM K lf S (i - 1)) else false)
termination_by i
section EN
variable {K lf : Nat → Nat} {S i : Nat}
theorem en_0 (h : unM K lf i &&& S = 0) : enM K lf S i = (psh K lf i == 0) := by rw [enM, if_pos h]
theorem en_let (h : ¬ unM K lf i &&& S = 0) (hk : K i ≤ 9) : enM K lf S i = true := by rw [enM, if_neg h, if_pos hk]
theorem en_un (h : ¬ unM K lf i &&& S = 0) (hk : 13 ≤ K i) (h0 : 0 < i) : enM K lf S i = enM K lf S (i - 1) := by rw [enM, if_neg h, if_neg (by omega), if_pos hk, dif_pos h0]
theorem en_beh (h : ¬ unM K lf i &&& S = 0) (hk : K i = 12) (h0 : 0 < i) (h1 : lf i < i) : enM K lf S i = if unM K lf (i - 1) &&& S = 0 then enM K lf S (lf i) && psh K lf (i - 1) == 0 else enM K lf S (i - 1) := by rw [enM, if_neg h, if_neg (by omega), if_neg (by omega), dif_pos ⟨h0, h1⟩, if_pos hk]
theorem en_eit (h : ¬ unM K lf i &&& S = 0) (hk : K i = 10) (h0 : 0 < i) (h1 : lf i < i) : enM K lf S i = if unM K lf (lf i) &&& S = 0 then enM K lf S (i - 1) else enM K lf S (lf i) := by rw [enM, if_neg h, if_neg (by omega), if_neg (by omega), dif_pos ⟨h0, h1⟩, if_neg (by omega), if_pos hk]
theorem en_mix (h : ¬ unM K lf i &&& S = 0) (hk : K i = 11) (h0 : 0 < i) (h1 : lf i < i) : enM K lf S i = (enM K lf S (lf i) && enM K lf S (i - 1)) := by rw [enM, if_neg h, if_neg (by omega), if_neg (by omega), dif_pos ⟨h0, h1⟩, if_neg (by omega), if_neg (by omega)]
end EN
theorem en_pal {K lf : Nat → Nat} {n S : Nat} (h : wfP K lf n) : ∀ i, i < n → ∀ p, p < psp K lf i → S &&& unM K lf i = phi K lf i p → enM K lf S i = pal K lf i p := by
  intro i
  induction i using Nat.strongRecOn with
  | _ i ih =>
    intro hi p hp hS
    by_cases h0 : unM K lf i &&& S = 0
    · rw [en_0 h0]
      have e : p = 0 := Decidable.byContradiction fun w => phi_ne h i hi p hp w (by rw [← hS, Nat.and_comm]; exact h0)
      subst e
      have := wf_nul h i hi
      rw [Bool.eq_iff_iff, this, beq_iff_eq]
    · have p0 : p ≠ 0 := fun w => h0 (by rw [Nat.and_comm, hS, w]; exact phi_0 h i hi)
      rcases wf_cases h hi with q | q | ⟨q1, q2, q3, q4⟩ | ⟨q1, q2, q3, q4, q5, q6⟩
      · rw [psp_let q] at hp
        rw [en_let h0 (by omega), pal_let q, show p = 1 by omega]
        rfl
      · rw [psp_emp q] at hp
        omega
      · rw [psp_un q1 q3] at hp
        rw [en_un h0 q1 q3, pal_un q1 q3, ih (i - 1) (by omega) (by omega) p hp (rs_un q1 q3 hS), beq_eq_false_iff_ne.mpr p0]
        rfl
      · by_cases q : K i = 11
        · obtain ⟨a1, a2⟩ := rs_mix h hi q hS
          rw [psp_mix q q3 (by omega)] at hp
          obtain ⟨m1, m2, m3⟩ := mx_lt hp
          rw [en_mix h0 q q3 (by omega), pal_mix q q3 (by omega), ih (lf i) (by omega) (by omega) _ m1 a1, ih (i - 1) (by omega) (by omega) _ m2 a2]
        · rw [psp_pair (by omega) q3 (by omega)] at hp
          by_cases z : psp K lf (lf i) ≤ p
          · obtain ⟨a1, a2⟩ := rs_hi h hi (by omega) z hS
            have b1 : unM K lf (lf i) &&& S = 0 := by rw [Nat.and_comm, a1]; exact phi_0 h (lf i) (by omega)
            have b2 : ¬ unM K lf (i - 1) &&& S = 0 := by rw [Nat.and_comm, a2]; exact phi_ne h (i - 1) (by omega) _ (by omega) (by omega)
            have e := ih (i - 1) (by omega) (by omega) _ (by omega) a2
            rw [pal_hi (by omega) q3 (by omega) z, ← e]
            by_cases w : K i = 12
            · rw [en_beh h0 w q3 (by omega), if_neg b2]
            · rw [en_eit h0 (by omega) q3 (by omega), if_pos b1]
          · obtain ⟨a1, a2⟩ := rs_lo h hi (by omega) z hS
            have b1 : ¬ unM K lf (lf i) &&& S = 0 := by rw [Nat.and_comm, a1]; exact phi_ne h (lf i) (by omega) _ (by omega) p0
            have b2 : unM K lf (i - 1) &&& S = 0 := by rw [Nat.and_comm, a2]; exact phi_0 h (i - 1) (by omega)
            have e := ih (lf i) (by omega) (by omega) _ (by omega) a1
            by_cases w : K i = 12
            · rw [en_beh h0 w q3 (by omega), if_pos b2, pal_beh w q3 (by omega) z, e, Bool.and_comm]
            · rw [en_eit h0 (by omega) q3 (by omega), if_neg b1, pal_eit (by omega) q3 (by omega) z, e, beq_eq_false_iff_ne.mpr p0, Bool.false_and, Bool.or_false]
/-- the moves out of a node's place: the letter's node, place -/
def pml (K lf : Nat → Nat) (i p : Nat) : List (Nat × Nat) :=
  if K i ≤ 8 then (if p = 0 then [(i, 1)] else [])
  else if K i = 9 then []
  else if 13 ≤ K i then (if h : 0 < i then pml K lf (i - 1) p ++ (if K i ≠ 13 ∧ p ≠ 0 ∧ pal K lf (i - 1) p = true then pml K lf (i - 1) 0 else []) else [])
  else (if h : 0 < i ∧ lf i < i then
    (if K i = 11 then (pml K lf (lf i) (p / psp K lf (i - 1))).map (fun m => (m.1, m.2 * psp K lf (i - 1) + p % psp K lf (i - 1))) ++ (pml K lf (i - 1) (p % psp K lf (i - 1))).map (fun m => (m.1, p / psp K lf (i - 1) * psp K lf (i - 1) + m.2))
     else if psp K lf (lf i) ≤ p then (pml K lf (i - 1) (p - psp K lf (lf i) + 1)).map (fun m => (m.1, psp K lf (lf i) - 1 + m.2))
     else pml K lf (lf i) p ++ (if (if K i = 12 then pal K lf (lf i) p = true else p = 0) then (pml K lf (i - 1) 0).map (fun m => (m.1, psp K lf (lf i) - 1 + m.2)) else [])) else [])
termination_by i
section PL
variable {K lf : Nat → Nat} {i p : Nat}
theorem pml_let (h : K i ≤ 8) : pml K lf i p = if p = 0 then [(i, 1)] else [] := by rw [pml, if_pos h]
theorem pml_emp (h : K i = 9) : pml K lf i p = [] := by rw [pml, if_neg (by omega), if_pos h]
theorem pml_un (h : 13 ≤ K i) (h0 : 0 < i) : pml K lf i p = pml K lf (i - 1) p ++ (if K i ≠ 13 ∧ p ≠ 0 ∧ pal K lf (i - 1) p = true then pml K lf (i - 1) 0 else []) := by rw [pml, if_neg (by omega), if_neg (by omega), if_pos h, dif_pos h0]
theorem pml_mix (h : K i = 11) (h0 : 0 < i) (h1 : lf i < i) : pml K lf i p = (pml K lf (lf i) (p / psp K lf (i - 1))).map (fun m => (m.1, m.2 * psp K lf (i - 1) + p % psp K lf (i - 1))) ++ (pml K lf (i - 1) (p % psp K lf (i - 1))).map (fun m => (m.1, p / psp K lf (i - 1) * psp K lf (i - 1) + m.2)) := by rw [pml, if_neg (by omega), if_neg (by omega), if_neg (by omega), dif_pos ⟨h0, h1⟩, if_pos h]
theorem pml_hi (h : K i = 10 ∨ K i = 12) (h0 : 0 < i) (h1 : lf i < i) (hp : psp K lf (lf i) ≤ p) : pml K lf i p = (pml K lf (i - 1) (p - psp K lf (lf i) + 1)).map (fun m => (m.1, psp K lf (lf i) - 1 + m.2)) := by rw [pml, if_neg (by omega), if_neg (by omega), if_neg (by omega), dif_pos ⟨h0, h1⟩, if_neg (by omega), if_pos hp]
theorem pml_lo (h : K i = 10 ∨ K i = 12) (h0 : 0 < i) (h1 : lf i < i) (hp : ¬ psp K lf (lf i) ≤ p) : pml K lf i p = pml K lf (lf i) p ++ (if (if K i = 12 then pal K lf (lf i) p = true else p = 0) then (pml K lf (i - 1) 0).map (fun m => (m.1, psp K lf (lf i) - 1 + m.2)) else []) := by rw [pml, if_neg (by omega), if_neg (by omega), if_neg (by omega), dif_pos ⟨h0, h1⟩, if_neg (by omega), if_neg hp]
end PL
section PM
variable {K lf : Nat → Nat} {n : Nat}
theorem pml_pmv (h : wfP K lf n) : ∀ i, i < n → ∀ p, pmv K lf i p = (pml K lf i p).map (fun m => (K m.1 - 1, m.2)) := by
  intro i
  induction i using Nat.strongRecOn with
  | _ i ih =>
    intro hi p
    rcases wf_cases h hi with q | q | ⟨q1, q2, q3, q4⟩ | ⟨q1, q2, q3, q4, q5, q6⟩
    · rw [pmv_let q, pml_let q]
      split <;> rfl
    · rw [pmv_emp q, pml_emp q]
      rfl
    · rw [pmv_un q1 q3, pml_un q1 q3, List.map_append, ih (i - 1) (by omega) (by omega) p, ih (i - 1) (by omega) (by omega) 0]
      congr 1
      split <;> rfl
    · have i1 := ih (i - 1) (by omega) (by omega)
      have i2 := ih (lf i) (by omega) (by omega)
      by_cases q : K i = 11
      · rw [pmv_mix q q3 (by omega), pml_mix q q3 (by omega), List.map_append, i1, i2]
        simp only [List.map_map]
        rfl
      · by_cases z : psp K lf (lf i) ≤ p
        · rw [pmv_hi (by omega) q3 (by omega) z, pml_hi (by omega) q3 (by omega) z, i1]
          simp only [List.map_map]
          rfl
        · rw [pmv_lo (by omega) q3 (by omega) z, pml_lo (by omega) q3 (by omega) z, List.map_append, i1, i2]
          congr 1
          by_cases c : (if K i = 12 then pal K lf (lf i) p = true else p = 0)
          · rw [if_pos c, if_pos c]
            simp only [List.map_map]
            rfl
          · rw [if_neg c, if_neg c]
            rfl
theorem pml_in (h : wfP K lf n) : ∀ i, i < n → ∀ p, ∀ m ∈ pml K lf i p, pst K lf i ≤ m.1 ∧ m.1 ≤ i ∧ K m.1 ≤ 8 := by
  intro i
  induction i using Nat.strongRecOn with
  | _ i ih =>
    intro hi p m hm
    rcases wf_cases h hi with q | q | ⟨q1, q2, q3, q4⟩ | ⟨q1, q2, q3, q4, q5, q6⟩
    · rw [pml_let q] at hm
      split at hm
      · rw [List.mem_singleton] at hm
        subst hm
        exact ⟨pst_le K lf i, Nat.le_refl _, q⟩
      · exact absurd hm List.not_mem_nil
    · rw [pml_emp q] at hm
      exact absurd hm List.not_mem_nil
    · rw [pml_un q1 q3, List.mem_append] at hm
      rw [q4]
      have : ∃ p', m ∈ pml K lf (i - 1) p' := by
        rcases hm with hm | hm
        · exact ⟨_, hm⟩
        · split at hm
          · exact ⟨_, hm⟩
          · exact absurd hm List.not_mem_nil
      obtain ⟨p', hp'⟩ := this
      obtain ⟨a1, a2, a3⟩ := ih (i - 1) (by omega) (by omega) p' m hp'
      exact ⟨a1, by omega, a3⟩
    · have key : (∃ p' m', m' ∈ pml K lf (lf i) p' ∧ m'.1 = m.1) ∨ (∃ p' m', m' ∈ pml K lf (i - 1) p' ∧ m'.1 = m.1) := by
        by_cases q : K i = 11
        · rw [pml_mix q q3 (by omega), List.mem_append] at hm
          rcases hm with hm | hm
          · obtain ⟨m', h1, rfl⟩ := List.mem_map.mp hm
            exact Or.inl ⟨_, m', h1, rfl⟩
          · obtain ⟨m', h1, rfl⟩ := List.mem_map.mp hm
            exact Or.inr ⟨_, m', h1, rfl⟩
        · by_cases z : psp K lf (lf i) ≤ p
          · rw [pml_hi (by omega) q3 (by omega) z] at hm
            obtain ⟨m', h1, rfl⟩ := List.mem_map.mp hm
            exact Or.inr ⟨_, m', h1, rfl⟩
          · rw [pml_lo (by omega) q3 (by omega) z, List.mem_append] at hm
            rcases hm with hm | hm
            · exact Or.inl ⟨_, m, hm, rfl⟩
            · by_cases c : (if K i = 12 then pal K lf (lf i) p = true else p = 0)
              · rw [if_pos c] at hm
                obtain ⟨m', h1, rfl⟩ := List.mem_map.mp hm
                exact Or.inr ⟨_, m', h1, rfl⟩
              · rw [if_neg c] at hm
                exact absurd hm List.not_mem_nil
      have hpl := pst_le K lf (lf i)
      rcases key with ⟨p', m', h1, h2⟩ | ⟨p', m', h1, h2⟩
      · obtain ⟨a1, a2, a3⟩ := ih (lf i) (by omega) (by omega) p' m' h1
        rw [h2] at a1 a2 a3
        exact ⟨by omega, by omega, a3⟩
      · obtain ⟨a1, a2, a3⟩ := ih (i - 1) (by omega) (by omega) p' m' h1
        rw [h2] at a1 a2 a3
        exact ⟨by omega, by omega, a3⟩
theorem pml_ok (h : wfP K lf n) {i : Nat} (hi : i < n) {p : Nat} (hp : p < psp K lf i) {j q : Nat} (hm : (j, q) ∈ pml K lf i p) : 1 ≤ q ∧ q < psp K lf i := by
  have : (K j - 1, q) ∈ pmv K lf i p := by
    rw [pml_pmv h i hi p]
    exact List.mem_map.mpr ⟨(j, q), hm, rfl⟩
  exact (pmv_ok h i hi p hp _ this).2
end PM
