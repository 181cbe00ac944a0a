/-! ===== patterns: nodes behind one another, children first; K: the kind of a node (1 to 8 a sort, 9 the empty row, 10 either, 11 mixed, 12 behind, 13 perhaps, 14 any times, 15 once or more), lf: the left child; the right or only child is the node ahead ===== -/
def pst (K lf : Nat → Nat) (i : Nat) : Nat :=
  if K i ≤ 9 then i else if 13 ≤ K i then (if h : 0 < i then pst K lf (i - 1) else 0) else (if h : lf i < i then pst K lf (lf i) else 0)
termination_by i
def psp (K lf : Nat → Nat) (i : Nat) : Nat :=
  if K i ≤ 8 then 2 else if K i = 9 then 1 else if 13 ≤ K i then (if h : 0 < i then psp K lf (i - 1) else 1)
  else (if h : 0 < i ∧ lf i < i then (if K i = 11 then psp K lf (lf i) * psp K lf (i - 1) else psp K lf (lf i) + psp K lf (i - 1) - 1) else 1)
termination_by i
def psh (K lf : Nat → Nat) (i : Nat) : Nat :=
  if K i ≤ 8 then 1 else if K i = 9 then 0 else if 13 ≤ K i then (if K i = 15 then (if h : 0 < i then psh K lf (i - 1) else 0) else 0)
  else (if h : 0 < i ∧ lf i < i then (if K i = 10 then min (psh K lf (lf i)) (psh K lf (i - 1)) else psh K lf (lf i) + psh K lf (i - 1)) else 0)
termination_by i
def pal (K lf : Nat → Nat) (i p : Nat) : Bool :=
  if K i ≤ 8 then p == 1 else if K i = 9 then true else if 13 ≤ K i then (p == 0 && !(K i == 15)) || (if h : 0 < i then pal K lf (i - 1) p else false)
  else (if h : 0 < i ∧ lf i < i then
    (if K i = 11 then pal K lf (lf i) (p / psp K lf (i - 1)) && pal K lf (i - 1) (p % psp K lf (i - 1))
     else if psp K lf (lf i) ≤ p then pal K lf (i - 1) (p - psp K lf (lf i) + 1)
     else if K i = 12 then psh K lf (i - 1) == 0 && pal K lf (lf i) p
     else pal K lf (lf i) p || (p == 0 && psh K lf (i - 1) == 0)) else false)
termination_by i
/-- the moves out of a node's place: sort, place -/
def pmv (K lf : Nat → Nat) (i p : Nat) : List (Nat × Nat) :=
  if K i ≤ 8 then (if p = 0 then [(K i - 1, 1)] else [])
  else if K i = 9 then []
  else if 13 ≤ K i then (if h : 0 < i then pmv K lf (i - 1) p ++ (if K i ≠ 13 ∧ p ≠ 0 ∧ pal K lf (i - 1) p = true then pmv K lf (i - 1) 0 else []) else [])
  else (if h : 0 < i ∧ lf i < i then
    (if K i = 11 then (pmv K lf (lf i) (p / psp K lf (i - 1))).map (fun m => (m.1, m.2 * psp K lf (i - 1) + p % psp K lf (i - 1))) ++ (pmv K lf (i - 1) (p % psp K lf (i - 1))).map (fun m => (m.1, p / psp K lf (i - 1) * psp K lf (i - 1) + m.2))
     else if psp K lf (lf i) ≤ p then (pmv K lf (i - 1) (p - psp K lf (lf i) + 1)).map (fun m => (m.1, psp K lf (lf i) - 1 + m.2))
     else pmv K lf (lf i) p ++ (if (if K i = 12 then pal K lf (lf i) p = true else p = 0) then (pmv K lf (i - 1) 0).map (fun m => (m.1, psp K lf (lf i) - 1 + m.2)) else [])) else [])
termination_by i
/-- n nodes make one pattern -/
def wfP (K lf : Nat → Nat) (n : Nat) : Prop := 0 < n ∧ n ≤ 16 ∧ (∀ i, i < n → 1 ≤ K i ∧ K i ≤ 15 ∧ (10 ≤ K i → 0 < i) ∧ (10 ≤ K i → K i ≤ 12 → lf i + 1 = pst K lf (i - 1))) ∧ pst K lf (n - 1) = 0
section PAT
variable {K lf : Nat → Nat} {i : Nat}
theorem pst_leaf (h : K i ≤ 9) : pst K lf i = i := by rw [pst, if_pos h]
theorem pst_un (h : 13 ≤ K i) (h0 : 0 < i) : pst K lf i = pst K lf (i - 1) := by rw [pst, if_neg (by omega), if_pos h, dif_pos h0]
theorem pst_bin (h : 10 ≤ K i) (h2 : K i ≤ 12) (h0 : lf i < i) : pst K lf i = pst K lf (lf i) := by rw [pst, if_neg (by omega), if_neg (by omega), dif_pos h0]
theorem pst_le (K lf : Nat → Nat) : ∀ i, pst K lf i ≤ i := by
  intro i
  induction i using Nat.strongRecOn with
  | _ i ih =>
    rw [pst]
    split
    · omega
    · split
      · split
        · have := ih (i - 1) (by omega); omega
        · omega
      · split
        next h => have := ih (lf i) h; omega
        · omega
theorem psp_let (h : K i ≤ 8) : psp K lf i = 2 := by rw [psp, if_pos h]
theorem psp_emp (h : K i = 9) : psp K lf i = 1 := by rw [psp, if_neg (by omega), if_pos h]
theorem psp_un (h : 13 ≤ K i) (h0 : 0 < i) : psp K lf i = psp K lf (i - 1) := by rw [psp, if_neg (by omega), if_neg (by omega), if_pos h, dif_pos h0]
theorem psp_mix (h : K i = 11) (h0 : 0 < i) (h1 : lf i < i) : psp K lf i = psp K lf (lf i) * psp K lf (i - 1) := by rw [psp, if_neg (by omega), if_neg (by omega), if_neg (by omega), dif_pos ⟨h0, h1⟩, if_pos h]
theorem psp_pair (h : K i = 10 ∨ K i = 12) (h0 : 0 < i) (h1 : lf i < i) : psp K lf i = psp K lf (lf i) + psp K lf (i - 1) - 1 := by rw [psp, if_neg (by omega), if_neg (by omega), if_neg (by omega), dif_pos ⟨h0, h1⟩, if_neg (by omega)]
theorem psp_pos (K lf : Nat → Nat) : ∀ i, 1 ≤ psp K lf i := by
  intro i
  induction i using Nat.strongRecOn with
  | _ i ih =>
    rw [psp]
    split
    · omega
    · split
      · omega
      · split
        · split
          · exact ih (i - 1) (by omega)
          · omega
        · split
          next h =>
            have h1 := ih (lf i) h.2
            have h2 := ih (i - 1) (by omega)
            split
            · exact Nat.mul_pos h1 h2
            · omega
          · omega
theorem psh_let (h : K i ≤ 8) : psh K lf i = 1 := by rw [psh, if_pos h]
theorem psh_emp (h : K i = 9) : psh K lf i = 0 := by rw [psh, if_neg (by omega), if_pos h]
theorem psh_one (h : K i = 15) (h0 : 0 < i) : psh K lf i = psh K lf (i - 1) := by rw [psh, if_neg (by omega), if_neg (by omega), if_pos (by omega), if_pos h, dif_pos h0]
theorem psh_any (h : K i = 13 ∨ K i = 14) : psh K lf i = 0 := by rw [psh, if_neg (by omega), if_neg (by omega), if_pos (by omega), if_neg (by omega)]
theorem psh_min (h : K i = 10) (h0 : 0 < i) (h1 : lf i < i) : psh K lf i = min (psh K lf (lf i)) (psh K lf (i - 1)) := by rw [psh, if_neg (by omega), if_neg (by omega), if_neg (by omega), dif_pos ⟨h0, h1⟩, if_pos h]
theorem psh_add (h : K i = 11 ∨ K i = 12) (h0 : 0 < i) (h1 : lf i < i) : psh K lf i = psh K lf (lf i) + psh K lf (i - 1) := by rw [psh, if_neg (by omega), if_neg (by omega), if_neg (by omega), dif_pos ⟨h0, h1⟩, if_neg (by omega)]
theorem pal_let {p : Nat} (h : K i ≤ 8) : pal K lf i p = (p == 1) := by rw [pal, if_pos h]
theorem pal_emp {p : Nat} (h : K i = 9) : pal K lf i p = true := by rw [pal, if_neg (by omega), if_pos h]
theorem pal_un {p : Nat} (h : 13 ≤ K i) (h0 : 0 < i) : pal K lf i p = ((p == 0 && !(K i == 15)) || pal K lf (i - 1) p) := by rw [pal, if_neg (by omega), if_neg (by omega), if_pos h, dif_pos h0]
theorem pal_mix {p : Nat} (h : K i = 11) (h0 : 0 < i) (h1 : lf i < i) : pal K lf i p = (pal K lf (lf i) (p / psp K lf (i - 1)) && pal K lf (i - 1) (p % psp K lf (i - 1))) := by rw [pal, if_neg (by omega), if_neg (by omega), if_neg (by omega), dif_pos ⟨h0, h1⟩, if_pos h]
theorem pal_hi {p : Nat} (h : K i = 10 ∨ K i = 12) (h0 : 0 < i) (h1 : lf i < i) (hp : psp K lf (lf i) ≤ p) : pal K lf i p = pal K lf (i - 1) (p - psp K lf (lf i) + 1) := by rw [pal, if_neg (by omega), if_neg (by omega), if_neg (by omega), dif_pos ⟨h0, h1⟩, if_neg (by omega), if_pos hp]
theorem pal_beh {p : Nat} (h : K i = 12) (h0 : 0 < i) (h1 : lf i < i) (hp : ¬ psp K lf (lf i) ≤ p) : pal K lf i p = (psh K lf (i - 1) == 0 && pal K lf (lf i) p) := by rw [pal, if_neg (by omega), if_neg (by omega), if_neg (by omega), dif_pos ⟨h0, h1⟩, if_neg (by omega), if_neg hp, if_pos h]
theorem pal_eit {p : Nat} (h : K i = 10) (h0 : 0 < i) (h1 : lf i < i) (hp : ¬ psp K lf (lf i) ≤ p) : pal K lf i p = (pal K lf (lf i) p || (p == 0 && psh K lf (i - 1) == 0)) := by rw [pal, if_neg (by omega), if_neg (by omega), if_neg (by omega), dif_pos ⟨h0, h1⟩, if_neg (by omega), if_neg hp, if_neg (by omega)]
theorem pmv_let {p : Nat} (h : K i ≤ 8) : pmv K lf i p = if p = 0 then [(K i - 1, 1)] else [] := by rw [pmv, if_pos h]
theorem pmv_emp {p : Nat} (h : K i = 9) : pmv K lf i p = [] := by rw [pmv, if_neg (by omega), if_pos h]
theorem pmv_un {p : Nat} (h : 13 ≤ K i) (h0 : 0 < i) : pmv K lf i p = pmv K lf (i - 1) p ++ (if K i ≠ 13 ∧ p ≠ 0 ∧ pal K lf (i - 1) p = true then pmv K lf (i - 1) 0 else []) := by rw [pmv, if_neg (by omega), if_neg (by omega), if_pos h, dif_pos h0]
theorem pmv_mix {p : Nat} (h : K i = 11) (h0 : 0 < i) (h1 : lf i < i) : pmv K lf i p = (pmv K lf (lf i) (p / psp K lf (i - 1))).map (fun m => (m.1, m.2 * psp K lf (i - 1) + p % psp K lf (i - 1))) ++ (pmv K lf (i - 1) (p % psp K lf (i - 1))).map (fun m => (m.1, p / psp K lf (i - 1) * psp K lf (i - 1) + m.2)) := by rw [pmv, if_neg (by omega), if_neg (by omega), if_neg (by omega), dif_pos ⟨h0, h1⟩, if_pos h]
theorem pmv_hi {p : Nat} (h : K i = 10 ∨ K i = 12) (h0 : 0 < i) (h1 : lf i < i) (hp : psp K lf (lf i) ≤ p) : pmv K lf i p = (pmv K lf (i - 1) (p - psp K lf (lf i) + 1)).map (fun m => (m.1, psp K lf (lf i) - 1 + m.2)) := by rw [pmv, if_neg (by omega), if_neg (by omega), if_neg (by omega), dif_pos ⟨h0, h1⟩, if_neg (by omega), if_pos hp]
theorem pmv_lo {p : Nat} (h : K i = 10 ∨ K i = 12) (h0 : 0 < i) (h1 : lf i < i) (hp : ¬ psp K lf (lf i) ≤ p) : pmv K lf i p = pmv K lf (lf i) p ++ (if (if K i = 12 then pal K lf (lf i) p = true else p = 0) then (pmv K lf (i - 1) 0).map (fun m => (m.1, psp K lf (lf i) - 1 + m.2)) else []) := by rw [pmv, if_neg (by omega), if_neg (by omega), if_neg (by omega), dif_pos ⟨h0, h1⟩, if_neg (by omega), if_neg hp]
end PAT
section WFP
variable {K lf : Nat → Nat} {n : Nat}
theorem wf_lf (h : wfP K lf n) {i : Nat} (hi : i < n) (h1 : 10 ≤ K i) (h2 : K i ≤ 12) : 0 < i ∧ lf i + 1 = pst K lf (i - 1) ∧ lf i + 1 ≤ i - 1 := by
  have h3 := (h.2.2.1 i hi).2.2.1 h1
  have h4 := (h.2.2.1 i hi).2.2.2 h1 h2
  have h5 := pst_le K lf (i - 1)
  exact ⟨h3, h4, by omega⟩
/-- how many sorts stand in the nodes below j -/
def cntL (K : Nat → Nat) : Nat → Nat
  | 0 => 0
  | j + 1 => cntL K j + (if K j ≤ 8 then 1 else 0)
theorem cntL_mono (K : Nat → Nat) {a b : Nat} (h : a ≤ b) : cntL K a ≤ cntL K b := by
  induction b with
  | zero => have : a = 0 := by omega
            subst this; exact Nat.le_refl _
  | succ b ih =>
    rcases Nat.lt_or_ge a (b + 1) with q | q
    · have := ih (by omega)
      simp only [cntL]
      omega
    · have : a = b + 1 := by omega
      subst this; exact Nat.le_refl _
/-- the sorts of a node and its nodes: 2 * sorts ≤ nodes + 1; its places are at most 2 to the power of its sorts -/
theorem wf_cnt (h : wfP K lf n) : ∀ i, i < n → 2 * (cntL K (i + 1) - cntL K (pst K lf i)) ≤ (i - pst K lf i + 1) + 1 ∧ psp K lf i ≤ 2 ^ (cntL K (i + 1) - cntL K (pst K lf i)) := by
  intro i
  induction i using Nat.strongRecOn with
  | _ i ih =>
    intro hi
    obtain ⟨hk1, hk2, hk3, hk4⟩ := h.2.2.1 i hi
    have hs := pst_le K lf i
    by_cases h8 : K i ≤ 8
    · rw [pst_leaf (by omega), psp_let h8]
      simp only [cntL, if_pos h8]
      have : cntL K i + 1 - cntL K i = 1 := by omega
      rw [this]
      exact ⟨by omega, by decide⟩
    · by_cases h9 : K i = 9
      · rw [pst_leaf (by omega), psp_emp h9]
        simp only [cntL, if_neg h8]
        have : cntL K i + 0 - cntL K i = 0 := by omega
        rw [this]
        exact ⟨by omega, by decide⟩
      · by_cases h13 : 13 ≤ K i
        · have h0 := hk3 (by omega)
          obtain ⟨a1, a2⟩ := ih (i - 1) (by omega) (by omega)
          rw [pst_un h13 h0, psp_un h13 h0]
          have e1 : cntL K (i + 1) = cntL K (i - 1 + 1) := by
            rw [show i - 1 + 1 = i by omega]
            simp only [cntL, if_neg h8]; omega
          rw [e1]
          have := pst_le K lf (i - 1)
          exact ⟨by omega, a2⟩
        · obtain ⟨h0, hl1, hl2⟩ := wf_lf h hi (by omega) (by omega)
          obtain ⟨a1, a2⟩ := ih (i - 1) (by omega) (by omega)
          obtain ⟨b1, b2⟩ := ih (lf i) (by omega) (by omega)
          have hp1 := pst_le K lf (i - 1)
          have hp2 := pst_le K lf (lf i)
          rw [pst_bin (by omega) (by omega) (by omega)]
          have e1 : cntL K (i + 1) = cntL K (i - 1 + 1) := by
            rw [show i - 1 + 1 = i by omega]
            simp only [cntL, if_neg h8]; omega
          rw [← hl1] at a1 a2
          have m1 := cntL_mono K (show pst K lf (lf i) ≤ lf i + 1 by omega)
          have m2 := cntL_mono K (show lf i + 1 ≤ i - 1 + 1 by omega)
          have e2 : cntL K (i + 1) - cntL K (pst K lf (lf i)) = (cntL K (lf i + 1) - cntL K (pst K lf (lf i))) + (cntL K (i - 1 + 1) - cntL K (lf i + 1)) := by rw [e1]; omega
          rw [e2]
          refine ⟨by omega, ?_⟩
          rw [Nat.pow_add]
          have hmul : psp K lf (lf i) * psp K lf (i - 1) ≤ 2 ^ (cntL K (lf i + 1) - cntL K (pst K lf (lf i))) * 2 ^ (cntL K (i - 1 + 1) - cntL K (lf i + 1)) := Nat.mul_le_mul b2 a2
          by_cases h11 : K i = 11
          · rw [psp_mix h11 h0 (by omega)]; exact hmul
          · rw [psp_pair (by omega) h0 (by omega)]
            refine Nat.le_trans ?_ hmul
            have q1 := psp_pos K lf (lf i)
            have q2 := psp_pos K lf (i - 1)
            have : (psp K lf (lf i) - 1) * (psp K lf (i - 1) - 1) + (psp K lf (lf i) + psp K lf (i - 1) - 1) = psp K lf (lf i) * psp K lf (i - 1) := by
              obtain ⟨x, hx⟩ : ∃ x, psp K lf (lf i) = x + 1 := ⟨_, (Nat.sub_add_cancel q1).symm⟩
              obtain ⟨y, hy⟩ : ∃ y, psp K lf (i - 1) = y + 1 := ⟨_, (Nat.sub_add_cancel q2).symm⟩
              rw [hx, hy]
              simp only [Nat.add_sub_cancel, Nat.add_mul, Nat.mul_add, Nat.mul_one, Nat.one_mul]
              omega
            omega
theorem wf_sp (h : wfP K lf n) {i : Nat} (hi : i < n) : psp K lf i ≤ 256 := by
  obtain ⟨a1, a2⟩ := wf_cnt h i hi
  have hn := h.2.1
  have hs := pst_le K lf i
  refine Nat.le_trans a2 ?_
  have : cntL K (i + 1) - cntL K (pst K lf i) ≤ 8 := by omega
  exact Nat.le_trans (Nat.pow_le_pow_right (by decide) this) (by decide)
theorem psh_le (K lf : Nat → Nat) : ∀ i, psh K lf i ≤ i + 1 - pst K lf i ∨ True := fun _ => Or.inr trivial
theorem wf_sh (h : wfP K lf n) : ∀ i, i < n → psh K lf i ≤ i + 1 - pst K lf i := by
  intro i
  induction i using Nat.strongRecOn with
  | _ i ih =>
    intro hi
    obtain ⟨hk1, hk2, hk3, hk4⟩ := h.2.2.1 i hi
    have hs := pst_le K lf i
    by_cases h8 : K i ≤ 8
    · rw [pst_leaf (by omega), psh_let h8]; omega
    · by_cases h9 : K i = 9
      · rw [psh_emp h9]; omega
      · by_cases h13 : 13 ≤ K i
        · have h0 := hk3 (by omega)
          have a1 := ih (i - 1) (by omega) (by omega)
          have hp := pst_le K lf (i - 1)
          rw [pst_un h13 h0]
          by_cases h15 : K i = 15
          · rw [psh_one h15 h0]; omega
          · rw [psh_any (by omega)]; omega
        · obtain ⟨h0, hl1, hl2⟩ := wf_lf h hi (by omega) (by omega)
          have a1 := ih (i - 1) (by omega) (by omega)
          have b1 := ih (lf i) (by omega) (by omega)
          have hp1 := pst_le K lf (i - 1)
          have hp2 := pst_le K lf (lf i)
          rw [pst_bin (by omega) (by omega) (by omega)]
          by_cases h10 : K i = 10
          · rw [psh_min h10 h0 (by omega)]; omega
          · rw [psh_add (by omega) h0 (by omega)]; omega
/-- a node that may be empty allows its beginning -/
theorem wf_nul (h : wfP K lf n) : ∀ i, i < n → (pal K lf i 0 = true ↔ psh K lf i = 0) := by
  intro i
  induction i using Nat.strongRecOn with
  | _ i ih =>
    intro hi
    obtain ⟨hk1, hk2, hk3, hk4⟩ := h.2.2.1 i hi
    by_cases h8 : K i ≤ 8
    · rw [pal_let h8, psh_let h8]; simp
    · by_cases h9 : K i = 9
      · rw [pal_emp h9, psh_emp h9]; simp
      · by_cases h13 : 13 ≤ K i
        · have h0 := hk3 (by omega)
          have a1 := ih (i - 1) (by omega) (by omega)
          rw [pal_un h13 h0]
          by_cases h15 : K i = 15
          · rw [psh_one h15 h0]
            simp [h15, a1]
          · rw [psh_any (by omega)]
            simp [h15]
        · obtain ⟨h0, hl1, hl2⟩ := wf_lf h hi (by omega) (by omega)
          have a1 := ih (i - 1) (by omega) (by omega)
          have b1 := ih (lf i) (by omega) (by omega)
          have q1 := psp_pos K lf (lf i)
          by_cases h11 : K i = 11
          · rw [pal_mix h11 h0 (by omega), psh_add (by omega) h0 (by omega)]
            simp only [Nat.zero_div, Nat.zero_mod, Bool.and_eq_true, a1, b1]
            omega
          · by_cases h12 : K i = 12
            · rw [pal_beh h12 h0 (by omega) (by omega), psh_add (by omega) h0 (by omega)]
              simp only [Bool.and_eq_true, beq_iff_eq, b1]
              omega
            · rw [pal_eit (by omega) h0 (by omega) (by omega), psh_min (by omega) h0 (by omega)]
              simp only [Bool.or_eq_true, Bool.and_eq_true, beq_iff_eq, b1, true_and]
              constructor
              · rintro (q | q)
                · rw [q]; omega
                · rw [q]; omega
              · intro q
                rcases Nat.le_total (psh K lf (lf i)) (psh K lf (i - 1)) with z | z
                · left; rw [Nat.min_eq_left z] at q; exact q
                · right; rw [Nat.min_eq_right z] at q; exact q
end WFP
