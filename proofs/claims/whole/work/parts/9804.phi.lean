/-! The model's sets of last letters against the places -/
def sbM (S R : Nat) : Nat := S ^^^ (S &&& R)
theorem sb_bit (S R b : Nat) : (sbM S R).testBit b = (S.testBit b && !R.testBit b) := by
  unfold sbM
  rw [Nat.testBit_xor, Nat.testBit_and]
  cases S.testBit b <;> cases R.testBit b <;> rfl
theorem mk_off {S R o U : Nat} (h1 : R &&& U = 0) (h2 : o &&& U = 0) : (sbM S R ||| o) &&& U = S &&& U := by
  apply Nat.eq_of_testBit_eq
  intro b
  have e1 := congrArg (fun z => z.testBit b) h1
  have e2 := congrArg (fun z => z.testBit b) h2
  simp only [Nat.testBit_and, Nat.testBit_or, sb_bit, Nat.zero_testBit] at *
  revert e1 e2
  cases S.testBit b <;> cases R.testBit b <;> cases o.testBit b <;> cases U.testBit b <;> decide
theorem mk_own {S R o U : Nat} (h1 : S &&& U &&& R = S &&& U) (h2 : o &&& U = o) : (sbM S R ||| o) &&& U = o := by
  apply Nat.eq_of_testBit_eq
  intro b
  have e1 := congrArg (fun z => z.testBit b) h1
  have e2 := congrArg (fun z => z.testBit b) h2
  simp only [Nat.testBit_and, Nat.testBit_or, sb_bit] at *
  revert e1 e2
  cases S.testBit b <;> cases R.testBit b <;> cases o.testBit b <;> cases U.testBit b <;> decide
theorem and_sub {A U V : Nat} (h : U &&& V = U) : (A &&& V) &&& U = A &&& U := by
  rw [Nat.and_assoc, Nat.and_comm V U, h]
theorem or_split {A B U V : Nat} (hUV : U &&& V = 0) (hA : A &&& U = A) (hB : B &&& V = B) : (A ||| B) &&& U = A ∧ (A ||| B) &&& V = B := by
  constructor
  · apply Nat.eq_of_testBit_eq
    intro b
    have e1 := congrArg (fun z => z.testBit b) hUV
    have e2 := congrArg (fun z => z.testBit b) hA
    have e3 := congrArg (fun z => z.testBit b) hB
    simp only [Nat.testBit_and, Nat.testBit_or, Nat.zero_testBit] at *
    revert e1 e2 e3
    cases A.testBit b <;> cases B.testBit b <;> cases U.testBit b <;> cases V.testBit b <;> decide
  · apply Nat.eq_of_testBit_eq
    intro b
    have e1 := congrArg (fun z => z.testBit b) hUV
    have e2 := congrArg (fun z => z.testBit b) hA
    have e3 := congrArg (fun z => z.testBit b) hB
    simp only [Nat.testBit_and, Nat.testBit_or, Nat.zero_testBit] at *
    revert e1 e2 e3
    cases A.testBit b <;> cases B.testBit b <;> cases U.testBit b <;> cases V.testBit b <;> decide
theorem or_in {A B U V : Nat} (hA : A &&& U = A) (hB : B &&& V = B) : (A ||| B) &&& (U ||| V) = A ||| B := by
  apply Nat.eq_of_testBit_eq
  intro b
  have e2 := congrArg (fun z => z.testBit b) hA
  have e3 := congrArg (fun z => z.testBit b) hB
  simp only [Nat.testBit_and, Nat.testBit_or] at *
  revert e2 e3
  cases A.testBit b <;> cases B.testBit b <;> cases U.testBit b <;> cases V.testBit b <;> decide
theorem sub_l {A U V : Nat} (hA : A &&& U = A) : A &&& (U ||| V) = A := by
  have := or_in (A := A) (B := 0) (U := U) (V := V) hA (Nat.zero_and _)
  rwa [Nat.or_zero] at this
theorem sub_r {B U V : Nat} (hB : B &&& V = B) : B &&& (U ||| V) = B := by
  have := or_in (A := 0) (B := B) (U := U) (V := V) (Nat.zero_and _) hB
  rwa [Nat.zero_or] at this
theorem dj_l {A U V : Nat} (hUV : U &&& V = 0) (hA : A &&& U = A) : A &&& V = 0 := by
  have := (or_split (A := A) (B := 0) hUV hA (Nat.zero_and _)).2
  rwa [Nat.or_zero] at this
theorem dj_r {B U V : Nat} (hUV : U &&& V = 0) (hB : B &&& V = B) : B &&& U = 0 := by
  have := (or_split (A := 0) (B := B) hUV (Nat.zero_and _) hB).1
  rwa [Nat.zero_or] at this
/-- the letters that were read last at a node's place -/
def phi (K lf : Nat → Nat) (i p : Nat) : Nat :=
  if K i ≤ 8 then (if p = 0 then 0 else owM K i)
  else if K i = 9 then 0
  else if 13 ≤ K i then (if h : 0 < i then phi K lf (i - 1) p else 0)
  else (if h : 0 < i ∧ lf i < i then
    (if K i = 11 then phi K lf (lf i) (p / psp K lf (i - 1)) ||| phi K lf (i - 1) (p % psp K lf (i - 1))
     else if psp K lf (lf i) ≤ p then phi K lf (i - 1) (p - psp K lf (lf i) + 1) else phi K lf (lf i) p) else 0)
termination_by i
section PH
variable {K lf : Nat → Nat} {i p : Nat}
theorem phi_let (h : K i ≤ 8) : phi K lf i p = if p = 0 then 0 else owM K i := by rw [phi, if_pos h]
theorem phi_emp (h : K i = 9) : phi K lf i p = 0 := by rw [phi, if_neg (by omega), if_pos h]
theorem phi_un (h : 13 ≤ K i) (h0 : 0 < i) : phi K lf i p = phi K lf (i - 1) p := by rw [phi, if_neg (by omega), if_neg (by omega), if_pos h, dif_pos h0]
theorem phi_mix (h : K i = 11) (h0 : 0 < i) (h1 : lf i < i) : phi K lf i p = phi K lf (lf i) (p / psp K lf (i - 1)) ||| phi K lf (i - 1) (p % psp K lf (i - 1)) := by rw [phi, if_neg (by omega), if_neg (by omega), if_neg (by omega), dif_pos ⟨h0, h1⟩, if_pos h]
theorem phi_hi (h : K i = 10 ∨ K i = 12) (h0 : 0 < i) (h1 : lf i < i) (hp : psp K lf (lf i) ≤ p) : phi K lf i p = phi K lf (i - 1) (p - psp K lf (lf i) + 1) := by rw [phi, if_neg (by omega), if_neg (by omega), if_neg (by omega), dif_pos ⟨h0, h1⟩, if_neg (by omega), if_pos hp]
theorem phi_lo (h : K i = 10 ∨ K i = 12) (h0 : 0 < i) (h1 : lf i < i) (hp : ¬ psp K lf (lf i) ≤ p) : phi K lf i p = phi K lf (lf i) p := by rw [phi, if_neg (by omega), if_neg (by omega), if_neg (by omega), dif_pos ⟨h0, h1⟩, if_neg (by omega), if_neg hp]
end PH
section PI
variable {K lf : Nat → Nat} {n : Nat}
theorem ow_bit {j : Nat} (hj : K j ≤ 8) (b : Nat) : (owM K j).testBit b = decide (cntL K j = b) := by
  unfold owM
  rw [if_pos hj, Nat.testBit_two_pow]
theorem ow_ne {j : Nat} (hj : K j ≤ 8) : owM K j ≠ 0 := by
  unfold owM
  rw [if_pos hj]
  have := Nat.two_pow_pos (cntL K j)
  omega
theorem own_un {i j : Nat} (hj : K j ≤ 8) (h1 : pst K lf i ≤ j) (h2 : j ≤ i) : owM K j &&& unM K lf i = owM K j := by
  have m1 := cntL_mono K h1
  have m2 := cntL_mono K (show j + 1 ≤ i + 1 by omega)
  rw [cntL_s, if_pos hj] at m2
  apply Nat.eq_of_testBit_eq
  intro b
  rw [Nat.testBit_and, ow_bit hj, un_bit, Bool.eq_iff_iff]
  simp only [Bool.and_eq_true, Nat.ble_eq, Nat.blt_eq, decide_eq_true_eq]
  omega
theorem own_dj {i j : Nat} (hj : K j ≤ 8) (h : j < pst K lf i ∨ i < j) : owM K j &&& unM K lf i = 0 := by
  have m1 : j < pst K lf i → cntL K (j + 1) ≤ cntL K (pst K lf i) := fun q => cntL_mono K (by omega)
  have m2 : i < j → cntL K (i + 1) ≤ cntL K j := fun q => cntL_mono K (by omega)
  rw [cntL_s, if_pos hj] at m1
  apply Nat.eq_of_testBit_eq
  intro b
  rw [Nat.testBit_and, ow_bit hj, un_bit, Nat.zero_testBit, Bool.eq_false_iff]
  simp only [ne_eq, Bool.and_eq_true, Nat.ble_eq, Nat.blt_eq, decide_eq_true_eq]
  omega
theorem un_dj (h : wfP K lf n) {i : Nat} (hi : i < n) (h1 : 10 ≤ K i) (h2 : K i ≤ 12) : unM K lf (lf i) &&& unM K lf (i - 1) = 0 := by
  obtain ⟨b1, b2, b3⟩ := wf_lf h hi h1 h2
  apply Nat.eq_of_testBit_eq
  intro b
  rw [Nat.testBit_and, un_bit, un_bit, Nat.zero_testBit, Bool.eq_false_iff, ← b2]
  simp only [ne_eq, Bool.and_eq_true, Nat.ble_eq, Nat.blt_eq]
  omega
theorem un_sub {i u : Nat} (h1 : pst K lf i ≤ pst K lf u) (h2 : u ≤ i) : unM K lf u &&& unM K lf i = unM K lf u := by
  have m1 := cntL_mono K h1
  have m2 := cntL_mono K (show u + 1 ≤ i + 1 by omega)
  apply Nat.eq_of_testBit_eq
  intro b
  rw [Nat.testBit_and, un_bit, un_bit, Bool.eq_iff_iff]
  simp only [Bool.and_eq_true, Nat.ble_eq, Nat.blt_eq]
  omega
theorem phi_sub (h : wfP K lf n) : ∀ i, i < n → ∀ p, phi K lf i p &&& unM K lf i = phi K lf i p := by
  intro i
  induction i using Nat.strongRecOn with
  | _ i ih =>
    intro hi p
    rcases wf_cases h hi with q | q | ⟨q1, q2, q3, q4⟩ | ⟨q1, q2, q3, q4, q5, q6⟩
    · rw [phi_let q]
      split
      · exact Nat.zero_and _
      · exact own_un q (by rw [pst_leaf (by omega)]; exact Nat.le_refl _) (Nat.le_refl _)
    · rw [phi_emp q]
      exact Nat.zero_and _
    · rw [phi_un q1 q3, un_un q1 q3]
      exact ih (i - 1) (by omega) (by omega) p
    · rw [un_bin h hi q1 q2]
      by_cases q : K i = 11
      · rw [phi_mix q q3 (by omega)]
        exact or_in (ih (lf i) (by omega) (by omega) _) (ih (i - 1) (by omega) (by omega) _)
      · by_cases z : psp K lf (lf i) ≤ p
        · rw [phi_hi (by omega) q3 (by omega) z]
          exact sub_r (ih (i - 1) (by omega) (by omega) _)
        · rw [phi_lo (by omega) q3 (by omega) z]
          exact sub_l (ih (lf i) (by omega) (by omega) _)
theorem phi_0 (h : wfP K lf n) : ∀ i, i < n → phi K lf i 0 = 0 := by
  intro i
  induction i using Nat.strongRecOn with
  | _ i ih =>
    intro hi
    rcases wf_cases h hi with q | q | ⟨q1, q2, q3, q4⟩ | ⟨q1, q2, q3, q4, q5, q6⟩
    · rw [phi_let q, if_pos rfl]
    · exact phi_emp q
    · rw [phi_un q1 q3]
      exact ih (i - 1) (by omega) (by omega)
    · by_cases q : K i = 11
      · rw [phi_mix q q3 (by omega), Nat.zero_div, Nat.zero_mod, ih (lf i) (by omega) (by omega), ih (i - 1) (by omega) (by omega)]
        rfl
      · have := psp_pos K lf (lf i)
        rw [phi_lo (by omega) q3 (by omega) (by omega)]
        exact ih (lf i) (by omega) (by omega)
/-- the two places of a mixed node -/
theorem mx_lt {a b p : Nat} (h : p < a * b) : p / b < a ∧ p % b < b ∧ 0 < b := by
  have hb : 0 < b := by
    rcases Nat.eq_zero_or_pos b with z | z
    · subst z
      rw [Nat.mul_zero] at h
      exact absurd h (Nat.not_lt_zero _)
    · exact z
  exact ⟨Nat.div_lt_of_lt_mul (by rw [Nat.mul_comm]; exact h), Nat.mod_lt _ hb, hb⟩
theorem phi_ne (h : wfP K lf n) : ∀ i, i < n → ∀ p, p < psp K lf i → p ≠ 0 → phi K lf i p ≠ 0 := by
  intro i
  induction i using Nat.strongRecOn with
  | _ i ih =>
    intro hi p hp h0
    rcases wf_cases h hi with q | q | ⟨q1, q2, q3, q4⟩ | ⟨q1, q2, q3, q4, q5, q6⟩
    · rw [phi_let q, if_neg h0]
      exact ow_ne q
    · rw [psp_emp q] at hp
      omega
    · rw [phi_un q1 q3]
      rw [psp_un q1 q3] at hp
      exact ih (i - 1) (by omega) (by omega) p hp h0
    · by_cases q : K i = 11
      · rw [psp_mix q q3 (by omega)] at hp
        obtain ⟨m1, m2, m3⟩ := mx_lt hp
        rw [phi_mix q q3 (by omega)]
        intro z
        obtain ⟨z1, z2⟩ := Nat.or_eq_zero_iff.mp z
        have e1 : p / psp K lf (i - 1) = 0 := Decidable.byContradiction fun w => ih (lf i) (by omega) (by omega) _ m1 w z1
        have e2 : p % psp K lf (i - 1) = 0 := Decidable.byContradiction fun w => ih (i - 1) (by omega) (by omega) _ m2 w z2
        have := Nat.div_add_mod p (psp K lf (i - 1))
        rw [e1, e2] at this
        omega
      · rw [psp_pair (by omega) q3 (by omega)] at hp
        by_cases z : psp K lf (lf i) ≤ p
        · rw [phi_hi (by omega) q3 (by omega) z]
          exact ih (i - 1) (by omega) (by omega) _ (by omega) (by omega)
        · rw [phi_lo (by omega) q3 (by omega) z]
          exact ih (lf i) (by omega) (by omega) _ (by omega) h0
theorem phi_inj (h : wfP K lf n) : ∀ i, i < n → ∀ p q, p < psp K lf i → q < psp K lf i → phi K lf i p = phi K lf i q → p = q := by
  intro i
  induction i using Nat.strongRecOn with
  | _ i ih =>
    intro hi p q hp hq he
    rcases wf_cases h hi with w | w | ⟨q1, q2, q3, q4⟩ | ⟨q1, q2, q3, q4, q5, q6⟩
    · rw [psp_let w] at hp hq
      rw [phi_let w, phi_let w] at he
      have := ow_ne w
      by_cases a : p = 0
      · by_cases b : q = 0
        · omega
        · rw [if_pos a, if_neg b] at he
          exact absurd he.symm this
      · by_cases b : q = 0
        · rw [if_neg a, if_pos b] at he
          exact absurd he this
        · omega
    · rw [psp_emp w] at hp hq
      omega
    · rw [phi_un q1 q3, phi_un q1 q3] at he
      rw [psp_un q1 q3] at hp hq
      exact ih (i - 1) (by omega) (by omega) p q hp hq he
    · have hdj := un_dj h hi q1 q2
      have s1 := phi_sub h (lf i) (by omega)
      have s2 := phi_sub h (i - 1) (by omega)
      by_cases w : K i = 11
      · rw [psp_mix w q3 (by omega)] at hp hq
        obtain ⟨m1, m2, m3⟩ := mx_lt hp
        obtain ⟨k1, k2, k3⟩ := mx_lt hq
        rw [phi_mix w q3 (by omega), phi_mix w q3 (by omega)] at he
        obtain ⟨a1, a2⟩ := or_split hdj (s1 (p / psp K lf (i - 1))) (s2 (p % psp K lf (i - 1)))
        obtain ⟨b1, b2⟩ := or_split hdj (s1 (q / psp K lf (i - 1))) (s2 (q % psp K lf (i - 1)))
        rw [he] at a1 a2
        have e1 := ih (lf i) (by omega) (by omega) _ _ m1 k1 (a1.symm.trans b1)
        have e2 := ih (i - 1) (by omega) (by omega) _ _ m2 k2 (a2.symm.trans b2)
        rw [← Nat.div_add_mod p (psp K lf (i - 1)), ← Nat.div_add_mod q (psp K lf (i - 1)), e1, e2]
      · rw [psp_pair (by omega) q3 (by omega)] at hp hq
        have hx : ∀ a b, a < psp K lf (lf i) → b < psp K lf (i - 1) → b ≠ 0 → phi K lf (i - 1) b ≠ phi K lf (lf i) a := fun a b _ hb hb0 e => by
          have := dj_r hdj (s2 b)
          rw [e, s1] at this
          rw [this] at e
          exact phi_ne h (i - 1) (by omega) b hb hb0 e
        by_cases z : psp K lf (lf i) ≤ p
        · rw [phi_hi (by omega) q3 (by omega) z] at he
          by_cases y : psp K lf (lf i) ≤ q
          · rw [phi_hi (by omega) q3 (by omega) y] at he
            have := ih (i - 1) (by omega) (by omega) _ _ (by omega) (by omega) he
            omega
          · rw [phi_lo (by omega) q3 (by omega) y] at he
            exact absurd he (hx _ _ (by omega) (by omega) (by omega))
        · rw [phi_lo (by omega) q3 (by omega) z] at he
          by_cases y : psp K lf (lf i) ≤ q
          · rw [phi_hi (by omega) q3 (by omega) y] at he
            exact absurd he.symm (hx _ _ (by omega) (by omega) (by omega))
          · rw [phi_lo (by omega) q3 (by omega) y] at he
            exact ih (lf i) (by omega) (by omega) p q (by omega) (by omega) he
/-! a set's part at a node -/
section RS
variable {S i p : Nat}
theorem rs_un (q1 : 13 ≤ K i) (q3 : 0 < i) (hS : S &&& unM K lf i = phi K lf i p) : S &&& unM K lf (i - 1) = phi K lf (i - 1) p := by
  rw [un_un q1 q3, phi_un q1 q3] at hS
  exact hS
theorem rs_bin (h : wfP K lf n) (hi : i < n) (q1 : 10 ≤ K i) (q2 : K i ≤ 12) (hS : S &&& unM K lf i = phi K lf i p) : S &&& unM K lf (lf i) = phi K lf i p &&& unM K lf (lf i) ∧ S &&& unM K lf (i - 1) = phi K lf i p &&& unM K lf (i - 1) := by
  rw [← hS, un_bin h hi q1 q2]
  exact ⟨(and_sub (sub_l (Nat.and_self _))).symm, (and_sub (sub_r (Nat.and_self _))).symm⟩
theorem rs_mix (h : wfP K lf n) (hi : i < n) (q : K i = 11) (hS : S &&& unM K lf i = phi K lf i p) : S &&& unM K lf (lf i) = phi K lf (lf i) (p / psp K lf (i - 1)) ∧ S &&& unM K lf (i - 1) = phi K lf (i - 1) (p % psp K lf (i - 1)) := by
  obtain ⟨b1, b2, b3⟩ := wf_lf h hi (by omega) (by omega)
  obtain ⟨a1, a2⟩ := rs_bin h hi (by omega) (by omega) hS
  rw [phi_mix q b1 (by omega)] at a1 a2
  obtain ⟨c1, c2⟩ := or_split (un_dj h hi (by omega) (by omega)) (phi_sub h (lf i) (by omega) (p / psp K lf (i - 1))) (phi_sub h (i - 1) (by omega) (p % psp K lf (i - 1)))
  exact ⟨a1.trans c1, a2.trans c2⟩
theorem rs_hi (h : wfP K lf n) (hi : i < n) (q : K i = 10 ∨ K i = 12) (hp : psp K lf (lf i) ≤ p) (hS : S &&& unM K lf i = phi K lf i p) : S &&& unM K lf (lf i) = phi K lf (lf i) 0 ∧ S &&& unM K lf (i - 1) = phi K lf (i - 1) (p - psp K lf (lf i) + 1) := by
  obtain ⟨b1, b2, b3⟩ := wf_lf h hi (by omega) (by omega)
  obtain ⟨a1, a2⟩ := rs_bin h hi (by omega) (by omega) hS
  rw [phi_hi q b1 (by omega) hp] at a1 a2
  have s := phi_sub h (i - 1) (by omega) (p - psp K lf (lf i) + 1)
  rw [phi_0 h (lf i) (by omega)]
  exact ⟨a1.trans (dj_r (un_dj h hi (by omega) (by omega)) s), a2.trans s⟩
theorem rs_lo (h : wfP K lf n) (hi : i < n) (q : K i = 10 ∨ K i = 12) (hp : ¬ psp K lf (lf i) ≤ p) (hS : S &&& unM K lf i = phi K lf i p) : S &&& unM K lf (lf i) = phi K lf (lf i) p ∧ S &&& unM K lf (i - 1) = phi K lf (i - 1) 0 := by
  obtain ⟨b1, b2, b3⟩ := wf_lf h hi (by omega) (by omega)
  obtain ⟨a1, a2⟩ := rs_bin h hi (by omega) (by omega) hS
  rw [phi_lo q b1 (by omega) hp] at a1 a2
  have s := phi_sub h (lf i) (by omega) p
  rw [phi_0 h (i - 1) (by omega)]
  exact ⟨a1.trans s, a2.trans (dj_l (un_dj h hi (by omega) (by omega)) s)⟩
end RS
end PI
