/-! Room: how many nodes of each kind; lists without repetition -/
theorem nd_sub {α : Type} [DecidableEq α] : ∀ {A B : List α}, A.Nodup → (∀ x ∈ A, x ∈ B) → A.length ≤ B.length
  | [], _, _, _ => Nat.zero_le _
  | a :: A, B, hn, h => by
    obtain ⟨h1, h2⟩ := List.nodup_cons.mp hn
    have ha := h a (List.mem_cons_self ..)
    have := nd_sub (A := A) (B := B.erase a) h2 (fun x hx => by
      have hx2 := h x (List.mem_cons_of_mem _ hx)
      have hne : x ≠ a := fun e => h1 (e ▸ hx)
      exact (List.mem_erase_of_ne hne).mpr hx2)
    rw [List.length_erase_of_mem ha] at this
    have hp := List.length_pos_of_mem ha
    rw [List.length_cons]
    omega
def cntE (K : Nat → Nat) : Nat → Nat
  | 0 => 0
  | j + 1 => cntE K j + (if K j = 9 then 1 else 0)
def cntU (K : Nat → Nat) : Nat → Nat
  | 0 => 0
  | j + 1 => cntU K j + (if 13 ≤ K j then 1 else 0)
theorem cntE_mono (K : Nat → Nat) {a b : Nat} (h : a ≤ b) : cntE K a ≤ cntE K b := by
  induction b with
  | zero =>
    have : a = 0 := by omega
    subst this; exact Nat.le_refl _
  | succ b ih =>
    rcases Nat.lt_or_ge a (b + 1) with q | q
    · have := ih (by omega)
      simp only [cntE]
      omega
    · have : a = b + 1 := by omega
      subst this; exact Nat.le_refl _
theorem cntU_mono (K : Nat → Nat) {a b : Nat} (h : a ≤ b) : cntU K a ≤ cntU K b := by
  induction b with
  | zero =>
    have : a = 0 := by omega
    subst this; exact Nat.le_refl _
  | succ b ih =>
    rcases Nat.lt_or_ge a (b + 1) with q | q
    · have := ih (by omega)
      simp only [cntU]
      omega
    · have : a = b + 1 := by omega
      subst this; exact Nat.le_refl _
section CN
variable {K lf : Nat → Nat} {n : Nat}
theorem wf_cnt2 (h : wfP K lf n) : ∀ i, i < n → (i + 1 - pst K lf i) + 1 = 2 * ((cntL K (i + 1) - cntL K (pst K lf i)) + (cntE K (i + 1) - cntE K (pst K lf i))) + (cntU K (i + 1) - cntU K (pst K lf i)) := by
  intro i
  induction i using Nat.strongRecOn with
  | _ i ih =>
    intro hi
    have s1 : cntL K (i + 1) = cntL K i + (if K i ≤ 8 then 1 else 0) := rfl
    have s2 : cntE K (i + 1) = cntE K i + (if K i = 9 then 1 else 0) := rfl
    have s3 : cntU K (i + 1) = cntU K i + (if 13 ≤ K i then 1 else 0) := rfl
    rcases wf_cases h hi with q | q | ⟨q1, q2, q3, q4⟩ | ⟨q1, q2, q3, q4, q5, q6⟩
    · rw [pst_leaf (by omega), s1, s2, s3, if_pos q, if_neg (by omega), if_neg (by omega)]
      omega
    · rw [pst_leaf (by omega), s1, s2, s3, if_neg (by omega), if_pos q, if_neg (by omega)]
      omega
    · have a := ih (i - 1) (by omega) (by omega)
      rw [show i - 1 + 1 = i by omega] at a
      have hp := pst_le K lf (i - 1)
      have m1 := cntU_mono K (show pst K lf (i - 1) ≤ i by omega)
      rw [q4, s1, s2, s3, if_neg (by omega), if_neg (by omega), if_pos q1]
      omega
    · have a := ih (i - 1) (by omega) (by omega)
      have b := ih (lf i) (by omega) (by omega)
      rw [show i - 1 + 1 = i by omega, q5] at a
      have hp := pst_le K lf (lf i)
      have m1 := cntL_mono K (show pst K lf (lf i) ≤ lf i + 1 by omega)
      have m2 := cntE_mono K (show pst K lf (lf i) ≤ lf i + 1 by omega)
      have m3 := cntU_mono K (show pst K lf (lf i) ≤ lf i + 1 by omega)
      have m4 := cntL_mono K (show lf i + 1 ≤ i by omega)
      have m5 := cntE_mono K (show lf i + 1 ≤ i by omega)
      have m6 := cntU_mono K (show lf i + 1 ≤ i by omega)
      rw [q6, s1, s2, s3, if_neg (by omega), if_neg (by omega), if_neg (by omega)]
      omega
theorem wf_nodes (h : wfP K lf n) : n + 1 = 2 * (cntL K n + cntE K n) + cntU K n := by
  have hn := h.1
  have := wf_cnt2 h (n - 1) (by omega)
  rw [h.2.2.2, show n - 1 + 1 = n by omega] at this
  have e1 : cntL K 0 = 0 := rfl
  have e2 : cntE K 0 = 0 := rfl
  have e3 : cntU K 0 = 0 := rfl
  omega
/-- the letters' nodes -/
def ltN (K : Nat → Nat) (n : Nat) : List Nat := (List.range n).filter (fun j => Nat.ble (K j) 8)
theorem ltN_len : ∀ n, (ltN K n).length = cntL K n
  | 0 => rfl
  | n + 1 => by
    unfold ltN
    rw [List.range_succ, List.filter_append, List.length_append]
    have := ltN_len n
    unfold ltN at this
    rw [this, cntL_s]
    congr 1
    by_cases q : K n ≤ 8
    · rw [if_pos q, List.filter_cons_of_pos (p := fun j => Nat.ble (K j) 8) (Nat.ble_eq_true_of_le q)]
      rfl
    · rw [if_neg q, List.filter_cons_of_neg (p := fun j => Nat.ble (K j) 8) (by rw [Nat.ble_eq]; exact q)]
      rfl
theorem mem_ltN {j : Nat} : j ∈ ltN K n ↔ j < n ∧ K j ≤ 8 := by
  unfold ltN
  rw [List.mem_filter, List.mem_range, Nat.ble_eq]
theorem cntE_0 : ∀ (n : Nat), cntE K n = 0 → ∀ j, j < n → ¬ K j = 9 := by
  intro n
  induction n with
  | zero => intro _ j hj; exact absurd hj (Nat.not_lt_zero j)
  | succ n ih =>
    intro h j hj
    have h2 : cntE K n + (if K n = 9 then 1 else 0) = 0 := h
    by_cases e : j = n
    · subst e
      intro q
      rw [if_pos q] at h2
      omega
    · exact ih (by omega) j (by omega)
theorem cntU_0 : ∀ (n : Nat), cntU K n = 0 → ∀ j, j < n → ¬ 13 ≤ K j := by
  intro n
  induction n with
  | zero => intro _ j hj; exact absurd hj (Nat.not_lt_zero j)
  | succ n ih =>
    intro h j hj
    have h2 : cntU K n + (if 13 ≤ K n then 1 else 0) = 0 := h
    by_cases e : j = n
    · subst e
      intro q
      rw [if_pos q] at h2
      omega
    · exact ih (by omega) j (by omega)
theorem cntU_1 : ∀ (n : Nat), cntU K n ≤ 1 → ∀ i j, i < n → j < n → 13 ≤ K i → 13 ≤ K j → i = j := by
  intro n
  induction n with
  | zero => intro _ i j hi; exact absurd hi (Nat.not_lt_zero i)
  | succ n ih =>
    intro h i j hi hj ki kj
    have h2 : cntU K n + (if 13 ≤ K n then 1 else 0) ≤ 1 := h
    by_cases ei : i = n
    · by_cases ej : j = n
      · omega
      · subst ei
        rw [if_pos ki] at h2
        exact absurd kj (cntU_0 i (by omega) j (by omega))
    · by_cases ej : j = n
      · subst ej
        rw [if_pos kj] at h2
        exact absurd ki (cntU_0 j (by omega) i (by omega))
      · exact ih (by omega) i j (by omega) (by omega) ki kj
end CN
