/-! A pattern's tree: parents, letters -/
section TR
variable {K lf : Nat → Nat} {n : Nat}
/-- what a node is -/
theorem wf_cases (h : wfP K lf n) {i : Nat} (hi : i < n) : K i ≤ 8 ∨ K i = 9 ∨ (13 ≤ K i ∧ K i ≤ 15 ∧ 0 < i ∧ pst K lf i = pst K lf (i - 1)) ∨ (10 ≤ K i ∧ K i ≤ 12 ∧ 0 < i ∧ lf i + 1 ≤ i - 1 ∧ pst K lf (i - 1) = lf i + 1 ∧ pst K lf i = pst K lf (lf i)) := by
  obtain ⟨a1, a2, a3, a4⟩ := h.2.2.1 i hi
  by_cases q1 : K i ≤ 8
  · exact Or.inl q1
  by_cases q2 : K i = 9
  · exact Or.inr (Or.inl q2)
  by_cases q3 : 13 ≤ K i
  · exact Or.inr (Or.inr (Or.inl ⟨q3, a2, a3 (by omega), pst_un q3 (a3 (by omega))⟩))
  · obtain ⟨b1, b2, b3⟩ := wf_lf h hi (by omega) (by omega)
    exact Or.inr (Or.inr (Or.inr ⟨by omega, by omega, b1, b3, b2.symm, pst_bin (by omega) (by omega) (by omega)⟩))
/-- i is right above j -/
def chO (K lf : Nat → Nat) (i j : Nat) : Prop := 10 ≤ K i ∧ (j + 1 = i ∨ (K i ≤ 12 ∧ lf i = j))
theorem tr_lam (h : wfP K lf n) : ∀ i, i < n → ∀ j, pst K lf i ≤ j → j ≤ i → pst K lf i ≤ pst K lf j := by
  intro i
  induction i using Nat.strongRecOn with
  | _ i ih =>
    intro hi j h1 h2
    rcases wf_cases h hi with q | q | ⟨q1, q2, q3, q4⟩ | ⟨q1, q2, q3, q4, q5, q6⟩
    · rw [pst_leaf (by omega)] at h1
      have : j = i := by omega
      subst this
      exact Nat.le_refl _
    · rw [pst_leaf (by omega)] at h1
      have : j = i := by omega
      subst this
      exact Nat.le_refl _
    · by_cases e : j = i
      · subst e
        exact Nat.le_refl _
      · rw [q4] at h1 ⊢
        exact ih (i - 1) (by omega) (by omega) j h1 (by omega)
    · by_cases e : j = i
      · subst e
        exact Nat.le_refl _
      · rcases Nat.lt_or_ge (lf i) j with z | z
        · have := ih (i - 1) (by omega) (by omega) j (by omega) (by omega)
          have h3 := pst_le K lf (lf i)
          omega
        · rw [q6] at h1 ⊢
          exact ih (lf i) (by omega) (by omega) j h1 z
theorem tr_leaf (h : wfP K lf n) : ∀ i, i < n → K (pst K lf i) ≤ 9 := by
  intro i
  induction i using Nat.strongRecOn with
  | _ i ih =>
    intro hi
    rcases wf_cases h hi with q | q | ⟨q1, q2, q3, q4⟩ | ⟨q1, q2, q3, q4, q5, q6⟩
    · rw [pst_leaf (by omega)]
      omega
    · rw [pst_leaf (by omega)]
      omega
    · rw [q4]
      exact ih (i - 1) (by omega) (by omega)
    · rw [q6]
      exact ih (lf i) (by omega) (by omega)
theorem ch_lt (h : wfP K lf n) {i j : Nat} (hi : i < n) (hc : chO K lf i j) : j < i := by
  obtain ⟨c1, c2 | ⟨c2, c3⟩⟩ := hc
  · omega
  · have := (wf_lf h hi c1 c2).2.2
    omega
theorem ch_uniq1 (h : wfP K lf n) {i u j : Nat} (hi : i < n) (hc : chO K lf i j) (hu : u < i) (hc2 : chO K lf u j) : False := by
  have hju := ch_lt h (by omega) hc2
  obtain ⟨c1, c2 | ⟨c2, c3⟩⟩ := hc
  · omega
  · obtain ⟨b1, b2, b3⟩ := wf_lf h hi c1 c2
    have hlam := tr_lam h (i - 1) (by omega) u (by omega) (by omega)
    obtain ⟨d1, d2 | ⟨d2, d3⟩⟩ := hc2
    · have hl := tr_leaf h (i - 1) (by omega)
      rw [← b2, c3, d2] at hl
      omega
    · have e1 := pst_bin (lf := lf) d1 d2 (by omega)
      have e2 := pst_le K lf (lf u)
      omega
theorem ch_uniq (h : wfP K lf n) {i u j : Nat} (hi : i < n) (hu : u < n) (hc : chO K lf i j) (hc2 : chO K lf u j) : i = u := by
  rcases Nat.lt_trichotomy i u with z | z | z
  · exact (ch_uniq1 h hu hc2 z hc).elim
  · exact z
  · exact (ch_uniq1 h hi hc z hc2).elim
theorem ch_ex (h : wfP K lf n) : ∀ r, r < n → ∀ j, pst K lf r ≤ j → j < r → ∃ i, i ≤ r ∧ chO K lf i j := by
  intro r
  induction r using Nat.strongRecOn with
  | _ r ih =>
    intro hr j h1 h2
    rcases wf_cases h hr with q | q | ⟨q1, q2, q3, q4⟩ | ⟨q1, q2, q3, q4, q5, q6⟩
    · rw [pst_leaf (by omega)] at h1
      omega
    · rw [pst_leaf (by omega)] at h1
      omega
    · by_cases e : j + 1 = r
      · exact ⟨r, Nat.le_refl _, by omega, Or.inl e⟩
      · obtain ⟨i, i1, i2⟩ := ih (r - 1) (by omega) (by omega) j (by omega) (by omega)
        exact ⟨i, by omega, i2⟩
    · by_cases e : j + 1 = r
      · exact ⟨r, Nat.le_refl _, by omega, Or.inl e⟩
      · by_cases e2 : lf r = j
        · exact ⟨r, Nat.le_refl _, by omega, Or.inr ⟨q2, e2⟩⟩
        · rcases Nat.lt_or_ge (lf r) j with z | z
          · obtain ⟨i, i1, i2⟩ := ih (r - 1) (by omega) (by omega) j (by omega) (by omega)
            exact ⟨i, by omega, i2⟩
          · obtain ⟨i, i1, i2⟩ := ih (lf r) (by omega) (by omega) j (by omega) (by omega)
            exact ⟨i, by omega, i2⟩
theorem ch_up (h : wfP K lf n) {j : Nat} (hj : j < n) (h1 : ¬ j = n - 1) : ∃ i, i < n ∧ chO K lf i j := by
  obtain ⟨i, i1, i2⟩ := ch_ex h (n - 1) (by omega) j (by rw [h.2.2.2]; omega) (by omega)
  exact ⟨i, by omega, i2⟩
theorem ch_top (h : wfP K lf n) {i : Nat} (hi : i < n) : ¬ chO K lf i (n - 1) := fun hc => by
  have := ch_lt h hi hc
  omega
/-- a node's letters lie within those of the node above -/
theorem ch_pst (h : wfP K lf n) {i j : Nat} (hi : i < n) (hc : chO K lf i j) : pst K lf i ≤ pst K lf j := by
  have hj := ch_lt h hi hc
  refine tr_lam h i hi j ?_ (by omega)
  obtain ⟨c1, c2⟩ := hc
  rcases wf_cases h hi with q | q | ⟨q1, q2, q3, q4⟩ | ⟨q1, q2, q3, q4, q5, q6⟩
  · omega
  · omega
  · rcases c2 with c2 | ⟨c2, c3⟩
    · rw [q4]
      have := pst_le K lf (i - 1)
      omega
    · omega
  · rw [q6]
    have := pst_le K lf (lf i)
    rcases c2 with c2 | ⟨c2, c3⟩ <;> omega
end TR
/-- the letters of a node and below, as bits -/
def unM (K lf : Nat → Nat) (i : Nat) : Nat := 2 ^ cntL K (i + 1) - 2 ^ cntL K (pst K lf i)
def owM (K : Nat → Nat) (i : Nat) : Nat := if K i ≤ 8 then 2 ^ cntL K i else 0
theorem bit_rg {a b j : Nat} (h : a ≤ b) : (2 ^ b - 2 ^ a).testBit j = (Nat.ble a j && Nat.blt j b) := by
  have e : 2 ^ b - 2 ^ a = 2 ^ a * (2 ^ (b - a) - 1) := by
    rw [Nat.mul_sub, ← Nat.pow_add, show a + (b - a) = b by omega, Nat.mul_one]
  rw [e, Nat.testBit_two_pow_mul, Nat.testBit_two_pow_sub_one, Bool.eq_iff_iff]
  simp only [Bool.and_eq_true, decide_eq_true_eq, Nat.ble_eq, Nat.blt_eq]
  omega
section UN
variable {K lf : Nat → Nat} {n : Nat}
theorem un_bit (K lf : Nat → Nat) (i j : Nat) : (unM K lf i).testBit j = (Nat.ble (cntL K (pst K lf i)) j && Nat.blt j (cntL K (i + 1))) :=
  bit_rg (cntL_mono K (by have := pst_le K lf i; omega))
theorem cntL_s (K : Nat → Nat) (i : Nat) : cntL K (i + 1) = cntL K i + (if K i ≤ 8 then 1 else 0) := rfl
theorem un_let (i : Nat) (h : K i ≤ 8) : unM K lf i = owM K i := by
  unfold unM owM
  rw [if_pos h, pst_leaf (by omega), cntL_s, if_pos h, Nat.pow_succ]
  omega
theorem un_emp (i : Nat) (h : K i = 9) : unM K lf i = 0 := by
  unfold unM
  rw [pst_leaf (by omega), cntL_s, if_neg (by omega)]
  exact Nat.sub_self _
theorem un_un {i : Nat} (h : 13 ≤ K i) (h0 : 0 < i) : unM K lf i = unM K lf (i - 1) := by
  unfold unM
  rw [pst_un h h0, cntL_s, if_neg (by omega), Nat.add_zero, show i - 1 + 1 = i by omega]
theorem un_bin (h : wfP K lf n) {i : Nat} (hi : i < n) (h1 : 10 ≤ K i) (h2 : K i ≤ 12) : unM K lf i = unM K lf (lf i) ||| unM K lf (i - 1) := by
  obtain ⟨b1, b2, b3⟩ := wf_lf h hi h1 h2
  apply Nat.eq_of_testBit_eq
  intro j
  rw [Nat.testBit_or, un_bit, un_bit, un_bit, pst_bin h1 h2 (by omega), cntL_s, if_neg (by omega), Nat.add_zero, ← b2, show i - 1 + 1 = i by omega]
  have m1 := cntL_mono K (show pst K lf (lf i) ≤ lf i + 1 by have := pst_le K lf (lf i); omega)
  have m2 := cntL_mono K (show lf i + 1 ≤ i by omega)
  rw [Bool.eq_iff_iff]
  simp only [Bool.and_eq_true, Bool.or_eq_true, Nat.ble_eq, Nat.blt_eq]
  omega
theorem un_lt (h : wfP K lf n) {i : Nat} (hi : i < n) : unM K lf i < 2 ^ 8 := by
  have h1 := (wf_cnt h (n - 1) (by have := h.1; omega)).1
  rw [h.2.2.2] at h1
  have h0 : cntL K 0 = 0 := rfl
  have h2 := cntL_mono K (show i + 1 ≤ n - 1 + 1 by omega)
  have h16 := h.2.1
  have h3 : 2 ^ cntL K (i + 1) ≤ 2 ^ 8 := Nat.pow_le_pow_right (by decide) (by omega)
  have h4 := Nat.two_pow_pos (cntL K (pst K lf i))
  unfold unM
  omega
theorem cnt_8 (h : wfP K lf n) {i : Nat} (hi : i ≤ n) : cntL K i ≤ 8 := by
  have h1 := (wf_cnt h (n - 1) (by have := h.1; omega)).1
  rw [h.2.2.2] at h1
  have h0 : cntL K 0 = 0 := rfl
  have h2 := cntL_mono K (show i ≤ n - 1 + 1 by have := h.1; omega)
  have h16 := h.2.1
  omega
theorem cnt_l8 (h : wfP K lf n) {i : Nat} (hi : i < n) (hk : K i ≤ 8) : cntL K i < 8 := by
  have := cnt_8 h (i := i + 1) (by omega)
  rw [cntL_s, if_pos hk] at this
  omega
end UN
