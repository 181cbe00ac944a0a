/-! The model's way of reading a letter gives just the plan's moves -/
/-- a letter can be the first one below a node -/
def frO (K lf : Nat → Nat) (j top : Nat) : Prop := ∀ u, u ≤ top → pst K lf u ≤ j → j < u → K u = 12 → lf u < j → psh K lf (lf u) = 0
/-- what the letter j takes out of the set S, at a node u above it -/
def mvU (K lf : Nat → Nat) (S j u R : Nat) : Prop :=
  (K u = 11 ∧ R = 0 ∧ ((lf u < j ∧ S &&& unM K lf (u - 1) = 0 ∧ frO K lf j (u - 1)) ∨ (j ≤ lf u ∧ S &&& unM K lf (lf u) = 0 ∧ frO K lf j (lf u))))
  ∨ (K u = 12 ∧ lf u < j ∧ S &&& unM K lf (u - 1) = 0 ∧ frO K lf j (u - 1) ∧ enM K lf S (lf u) = true ∧ R = unM K lf (lf u))
  ∨ ((K u = 14 ∨ K u = 15) ∧ enM K lf S (u - 1) = true ∧ frO K lf j (u - 1) ∧ R = unM K lf u)
def mvT (K lf : Nat → Nat) (S j i R : Nat) : Prop := ∃ u, pst K lf u ≤ j ∧ j < u ∧ u ≤ i ∧ S &&& unM K lf u ≠ 0 ∧ mvU K lf S j u R
def mvG (K lf : Nat → Nat) (S j i R : Nat) : Prop := (S &&& unM K lf i = 0 ∧ frO K lf j i ∧ R = 0) ∨ mvT K lf S j i R
section MV
variable {K lf : Nat → Nat} {n : Nat}
theorem pth (h : wfP K lf n) {i u j : Nat} (hi : i < n) (h1 : 10 ≤ K i) (h2 : K i ≤ 12) (hu : u < i) (hj : pst K lf u ≤ j) (hl : j ≤ lf i) : u ≤ lf i := by
  obtain ⟨b1, b2, b3⟩ := wf_lf h hi h1 h2
  rcases Nat.lt_or_ge (lf i) u with z | z
  · have := tr_lam h (i - 1) (by omega) u (by omega) (by omega)
    omega
  · exact z
theorem fr_r {i j : Nat} (h0 : 0 < i) (hj : pst K lf i ≤ j) (hji : j < i) : frO K lf j i ↔ frO K lf j (i - 1) ∧ (K i = 12 → lf i < j → psh K lf (lf i) = 0) := by
  constructor
  · intro h
    exact ⟨fun u hu => h u (by omega), fun q1 q2 => h i (Nat.le_refl _) hj hji q1 q2⟩
  · rintro ⟨h1, h2⟩ u hu q1 q2 q3 q4
    by_cases e : u = i
    · subst e
      exact h2 q3 q4
    · exact h1 u (by omega) q1 q2 q3 q4
theorem fr_l (h : wfP K lf n) {i j : Nat} (hi : i < n) (h1 : 10 ≤ K i) (h2 : K i ≤ 12) (hl : j ≤ lf i) : frO K lf j i ↔ frO K lf j (lf i) := by
  obtain ⟨b1, b2, b3⟩ := wf_lf h hi h1 h2
  constructor
  · intro q u hu
    exact q u (by omega)
  · intro q u hu q1 q2 q3 q4
    by_cases e : u = i
    · subst e
      omega
    · exact q u (pth h hi h1 h2 (by omega) q1 hl) q1 q2 q3 q4
theorem mv_sub (h : wfP K lf n) {S j i R : Nat} (hi : i < n) (hj : pst K lf i ≤ j) (hm : mvG K lf S j i R) : R &&& unM K lf i = R := by
  rcases hm with ⟨-, -, rfl⟩ | ⟨u, u1, u2, u3, u4, u5⟩
  · exact Nat.zero_and _
  · have hp := tr_lam h i hi u (by omega) u3
    rcases u5 with ⟨-, rfl, -⟩ | ⟨k, -, -, -, -, rfl⟩ | ⟨-, -, -, rfl⟩
    · exact Nat.zero_and _
    · obtain ⟨b1, b2, b3⟩ := wf_lf h (show u < n by omega) (by omega) (by omega)
      exact un_sub (by rw [← pst_bin (i := u) (lf := lf) (by omega) (by omega) (by omega)]; exact hp) (by omega)
    · exact un_sub hp u3
/-- u lies on the way at node i, or it is i -/
theorem mvT_r {S j i R : Nat} (h0 : 0 < i) (hj : pst K lf i ≤ j) (hji : j < i) : mvT K lf S j i R ↔ mvT K lf S j (i - 1) R ∨ (S &&& unM K lf i ≠ 0 ∧ mvU K lf S j i R) := by
  constructor
  · rintro ⟨u, u1, u2, u3, u4, u5⟩
    by_cases e : u = i
    · subst e
      exact Or.inr ⟨u4, u5⟩
    · exact Or.inl ⟨u, u1, u2, by omega, u4, u5⟩
  · rintro (⟨u, u1, u2, u3, u4, u5⟩ | ⟨u4, u5⟩)
    · exact ⟨u, u1, u2, by omega, u4, u5⟩
    · exact ⟨i, hj, hji, Nat.le_refl _, u4, u5⟩
theorem mvT_l (h : wfP K lf n) {S j i R : Nat} (hi : i < n) (h1 : 10 ≤ K i) (h2 : K i ≤ 12) (hj : pst K lf i ≤ j) (hl : j ≤ lf i) : mvT K lf S j i R ↔ mvT K lf S j (lf i) R ∨ (S &&& unM K lf i ≠ 0 ∧ mvU K lf S j i R) := by
  obtain ⟨b1, b2, b3⟩ := wf_lf h hi h1 h2
  constructor
  · rintro ⟨u, u1, u2, u3, u4, u5⟩
    by_cases e : u = i
    · subst e
      exact Or.inr ⟨u4, u5⟩
    · exact Or.inl ⟨u, u1, u2, pth h hi h1 h2 (by omega) u1 hl, u4, u5⟩
  · rintro (⟨u, u1, u2, u3, u4, u5⟩ | ⟨u4, u5⟩)
    · exact ⟨u, u1, u2, by omega, u4, u5⟩
    · exact ⟨i, hj, by omega, Nat.le_refl _, u4, u5⟩
/-- where nothing of S lies, nothing moves -/
theorem mvT_no (h : wfP K lf n) {S j i R : Nat} (hi : i < n) (hj : pst K lf i ≤ j) (h0 : S &&& unM K lf i = 0) : ¬ mvT K lf S j i R := by
  rintro ⟨u, u1, u2, u3, u4, u5⟩
  have hp := tr_lam h i hi u (by omega) u3
  refine u4 ?_
  have := and_sub (A := S) (un_sub hp u3)
  rw [h0, Nat.zero_and] at this
  exact this.symm
theorem z_bin (h : wfP K lf n) {S i : Nat} (hi : i < n) (h1 : 10 ≤ K i) (h2 : K i ≤ 12) : S &&& unM K lf i = 0 ↔ S &&& unM K lf (lf i) = 0 ∧ S &&& unM K lf (i - 1) = 0 := by
  rw [un_bin h hi h1 h2, Nat.and_or_distrib_left, Nat.or_eq_zero_iff]
theorem ow_out {Y o U V : Nat} (h1 : o &&& U = o) (h2 : o &&& V = o) (h : (Y ||| o) &&& U &&& V = 0) : o = 0 := by
  apply Nat.eq_of_testBit_eq
  intro b
  have e1 := congrArg (fun z => z.testBit b) h1
  have e2 := congrArg (fun z => z.testBit b) h2
  have e3 := congrArg (fun z => z.testBit b) h
  simp only [Nat.testBit_and, Nat.testBit_or, Nat.zero_testBit] at *
  revert e1 e2 e3
  cases Y.testBit b <;> cases o.testBit b <;> cases U.testBit b <;> cases V.testBit b <;> decide
/-- what is said of the letter j at node i -/
def mvS (K lf : Nat → Nat) (i : Nat) : Prop := ∀ S p, p < psp K lf i → S &&& unM K lf i = phi K lf i p → ∀ j, pst K lf i ≤ j → j ≤ i → K j ≤ 8 → (∀ q, (j, q) ∈ pml K lf i p ↔ q < psp K lf i ∧ ∃ R, mvG K lf S j i R ∧ phi K lf i q = (sbM S R ||| owM K j) &&& unM K lf i) ∧ ∀ R, mvG K lf S j i R → ∃ q, q < psp K lf i ∧ phi K lf i q = (sbM S R ||| owM K j) &&& unM K lf i
theorem mvS_0 (h : wfP K lf n) {i : Nat} (hi : i < n) (hs : mvS K lf i) {j : Nat} (h1 : pst K lf i ≤ j) (h2 : j ≤ i) (hk : K j ≤ 8) (q : Nat) : (j, q) ∈ pml K lf i 0 ↔ q < psp K lf i ∧ frO K lf j i ∧ phi K lf i q = owM K j := by
  have hp := psp_pos K lf i
  rw [(hs 0 0 (by omega) (by rw [Nat.zero_and, phi_0 h i hi]) j h1 h2 hk).1 q]
  have e : (sbM 0 0 ||| owM K j) &&& unM K lf i = owM K j := mk_own (by rw [Nat.zero_and, Nat.zero_and]) (own_un hk h1 h2)
  constructor
  · rintro ⟨a, R, (⟨-, m, rfl⟩ | m), b⟩
    · rw [e] at b
      exact ⟨a, m, b⟩
    · exact absurd m (mvT_no h hi h1 (Nat.zero_and _))
  · rintro ⟨a, m, b⟩
    exact ⟨a, 0, Or.inl ⟨Nat.zero_and _, m, rfl⟩, by rw [e]; exact b⟩
theorem mvS_e (h : wfP K lf n) {i : Nat} (hi : i < n) (hs : mvS K lf i) {j : Nat} (h1 : pst K lf i ≤ j) (h2 : j ≤ i) (hk : K j ≤ 8) (hf : frO K lf j i) : ∃ q, q < psp K lf i ∧ phi K lf i q = owM K j := by
  have hp := psp_pos K lf i
  obtain ⟨q, q1, q2⟩ := (hs 0 0 (by omega) (by rw [Nat.zero_and, phi_0 h i hi]) j h1 h2 hk).2 0 (Or.inl ⟨Nat.zero_and _, hf, rfl⟩)
  have e : (sbM 0 0 ||| owM K j) &&& unM K lf i = owM K j := mk_own (by rw [Nat.zero_and, Nat.zero_and]) (own_un hk h1 h2)
  rw [e] at q2
  exact ⟨q, q1, q2⟩
theorem mv_un (h : wfP K lf n) {i : Nat} (hi : i < n) (q1 : 13 ≤ K i) (q2 : K i ≤ 15) (q3 : 0 < i) (q4 : pst K lf i = pst K lf (i - 1)) (ih : mvS K lf (i - 1)) : mvS K lf i := by
  intro S p hp hS j h1 h2 hk
  have hji : j < i := by
    rcases Nat.lt_or_ge j i with z | z
    · exact z
    · have : j = i := by omega
      subst this
      omega
  have hp' := hp
  rw [psp_un q1 q3] at hp'
  have hS' := rs_un q1 q3 hS
  obtain ⟨i1, ie⟩ := ih S p hp' hS' j (by omega) (by omega) hk
  have i0 := mvS_0 h (show i - 1 < n by omega) ih (show pst K lf (i - 1) ≤ j by omega) (by omega) hk
  have he := en_pal h (i - 1) (by omega) p hp' hS'
  have hz : S &&& unM K lf (i - 1) = 0 ↔ p = 0 := by
    rw [hS']
    exact ⟨fun w => Decidable.byContradiction fun w2 => phi_ne h (i - 1) (by omega) p hp' w2 w, fun w => by rw [w]; exact phi_0 h (i - 1) (by omega)⟩
  have hown : ∀ S, (sbM S (unM K lf (i - 1)) ||| owM K j) &&& unM K lf (i - 1) = owM K j := fun S => mk_own (by rw [Nat.and_assoc, Nat.and_self]) (own_un hk (by omega) (by omega))
  have hg : ∀ R, mvG K lf S j i R ↔ mvG K lf S j (i - 1) R ∨ (p ≠ 0 ∧ (K i = 14 ∨ K i = 15) ∧ pal K lf (i - 1) p = true ∧ frO K lf j (i - 1) ∧ R = unM K lf (i - 1)) := by
    intro R
    unfold mvG
    rw [mvT_r q3 h1 hji, fr_r q3 h1 hji, un_un q1 q3]
    unfold mvU
    rw [he, un_un q1 q3]
    constructor
    · rintro (⟨a, ⟨b, -⟩, c⟩ | (a | ⟨a, (b | b | b)⟩))
      · exact Or.inl (Or.inl ⟨a, b, c⟩)
      · exact Or.inl (Or.inr a)
      · omega
      · omega
      · exact Or.inr ⟨fun w => a (hz.mpr w), b.1, b.2.1, b.2.2.1, b.2.2.2⟩
    · rintro ((⟨a, b, c⟩ | a) | ⟨a, b, c, e, f⟩)
      · exact Or.inl ⟨a, ⟨b, fun w => by omega⟩, c⟩
      · exact Or.inr (Or.inl a)
      · exact Or.inr (Or.inr ⟨fun w => a (hz.mp w), Or.inr (Or.inr ⟨b, c, e, f⟩)⟩)
  refine ⟨fun q => ?_, fun R hR => ?_⟩
  rotate_left
  · rw [psp_un q1 q3, un_un q1 q3]
    rcases (hg R).mp hR with b | ⟨b1, b2, b3, b4, rfl⟩
    · obtain ⟨q, e1, e2⟩ := ie R b
      exact ⟨q, e1, by rw [phi_un q1 q3]; exact e2⟩
    · obtain ⟨q, e1, e2⟩ := mvS_e h (show i - 1 < n by omega) ih (show pst K lf (i - 1) ≤ j by omega) (by omega) hk b4
      exact ⟨q, e1, by rw [phi_un q1 q3, hown]; exact e2⟩
  rw [pml_un q1 q3, List.mem_append, i1, psp_un q1 q3, phi_un q1 q3, un_un q1 q3]
  constructor
  · rintro (⟨a, R, b, c⟩ | a)
    · exact ⟨a, R, (hg R).mpr (Or.inl b), c⟩
    · by_cases w : K i ≠ 13 ∧ p ≠ 0 ∧ pal K lf (i - 1) p = true
      · rw [if_pos w, i0] at a
        exact ⟨a.1, unM K lf (i - 1), (hg _).mpr (Or.inr ⟨w.2.1, by omega, w.2.2, a.2.1, rfl⟩), by rw [hown]; exact a.2.2⟩
      · rw [if_neg w] at a
        exact absurd a List.not_mem_nil
  · rintro ⟨a, R, b, c⟩
    rcases (hg R).mp b with b | ⟨b1, b2, b3, b4, rfl⟩
    · exact Or.inl ⟨a, R, b, c⟩
    · rw [hown] at c
      rw [if_pos ⟨by omega, b1, b3⟩, i0]
      exact Or.inr ⟨a, b4, c⟩
theorem mv_mix (h : wfP K lf n) {i : Nat} (hi : i < n) (q : K i = 11) (ihl : mvS K lf (lf i)) (ihr : mvS K lf (i - 1)) : mvS K lf i := by
  obtain ⟨q3, q5, q4⟩ := wf_lf h hi (by omega) (by omega)
  have q6 := pst_bin (K := K) (i := i) (lf := lf) (by omega) (by omega) (show lf i < i by omega)
  intro S p hp hS j h1 h2 hk
  have hji : j < i := by
    rcases Nat.lt_or_ge j i with z | z
    · exact z
    · have : j = i := by omega
      subst this
      omega
  have hp' := hp
  rw [psp_mix q q3 (by omega)] at hp'
  obtain ⟨m1, m2, m3⟩ := mx_lt hp'
  obtain ⟨a1, a2⟩ := rs_mix h hi q hS
  have hdj := un_dj h hi (show 10 ≤ K i by omega) (by omega)
  have s1 := phi_sub h (lf i) (by omega)
  have s2 := phi_sub h (i - 1) (by omega)
  have hzb := z_bin (S := S) h hi (show 10 ≤ K i by omega) (by omega)
  have hsp : ∀ t X, phi K lf i t = X &&& unM K lf i ↔ phi K lf (lf i) (t / psp K lf (i - 1)) = X &&& unM K lf (lf i) ∧ phi K lf (i - 1) (t % psp K lf (i - 1)) = X &&& unM K lf (i - 1) := by
    intro t X
    rw [phi_mix q q3 (by omega), un_bin h hi (by omega) (by omega), Nat.and_or_distrib_left]
    constructor
    · intro e
      obtain ⟨c1, c2⟩ := or_split hdj (s1 (t / psp K lf (i - 1))) (s2 (t % psp K lf (i - 1)))
      obtain ⟨e1, e2⟩ := or_split hdj (show X &&& unM K lf (lf i) &&& unM K lf (lf i) = _ by rw [Nat.and_assoc, Nat.and_self]) (show X &&& unM K lf (i - 1) &&& unM K lf (i - 1) = _ by rw [Nat.and_assoc, Nat.and_self])
      rw [← e] at e1 e2
      exact ⟨c1.symm.trans e1, c2.symm.trans e2⟩
    · rintro ⟨e1, e2⟩
      rw [e1, e2]
  have hco : ∀ a b, a < psp K lf (lf i) → b < psp K lf (i - 1) → a * psp K lf (i - 1) + b < psp K lf i ∧ (a * psp K lf (i - 1) + b) / psp K lf (i - 1) = a ∧ (a * psp K lf (i - 1) + b) % psp K lf (i - 1) = b := by
    intro a b ha hb
    refine ⟨?_, ?_, ?_⟩
    · rw [psp_mix q q3 (by omega)]
      have := Nat.mul_le_mul_right (psp K lf (i - 1)) (show a + 1 ≤ psp K lf (lf i) by omega)
      rw [Nat.add_mul, Nat.one_mul] at this
      omega
    · rw [Nat.mul_comm, Nat.mul_add_div m3, Nat.div_eq_of_lt hb, Nat.add_zero]
    · rw [Nat.mul_comm, Nat.mul_add_mod, Nat.mod_eq_of_lt hb]
  rcases Nat.lt_or_ge (lf i) j with z | z
  · have hg : ∀ R, mvG K lf S j i R ↔ mvG K lf S j (i - 1) R := by
      intro R
      unfold mvG
      rw [mvT_r q3 h1 hji, fr_r q3 h1 hji]
      unfold mvU
      constructor
      · rintro (⟨a, ⟨b, -⟩, c⟩ | (a | ⟨a, (b | b | b)⟩))
        · exact Or.inl ⟨(hzb.mp a).2, b, c⟩
        · exact Or.inr a
        · rcases b.2.2 with c | c
          · exact Or.inl ⟨c.2.1, c.2.2, b.2.1⟩
          · omega
        · omega
        · omega
      · rintro (⟨a, b, c⟩ | a)
        · by_cases w : S &&& unM K lf i = 0
          · exact Or.inl ⟨w, ⟨b, fun w => by omega⟩, c⟩
          · exact Or.inr (Or.inr ⟨w, Or.inl ⟨q, c, Or.inl ⟨z, a, b⟩⟩⟩)
        · exact Or.inr (Or.inl a)
    obtain ⟨hr, hre⟩ := ihr S (p % psp K lf (i - 1)) m2 a2 j (by omega) (by omega) hk
    have hM : ∀ R, mvG K lf S j (i - 1) R → (sbM S R ||| owM K j) &&& unM K lf (lf i) = phi K lf (lf i) (p / psp K lf (i - 1)) := fun R hm => by
      rw [mk_off (dj_r hdj (mv_sub h (by omega) (by omega) hm)) (own_dj hk (Or.inr z)), a1]
    refine ⟨fun t => ?_, fun R hR => ?_⟩
    rotate_left
    · obtain ⟨b, e1, e2⟩ := hre R ((hg R).mp hR)
      obtain ⟨c1, c2, c3⟩ := hco _ b m1 e1
      exact ⟨_, c1, (hsp _ _).mpr ⟨by rw [c2, hM R ((hg R).mp hR)], by rw [c3]; exact e2⟩⟩
    have hdm := Nat.div_add_mod t (psp K lf (i - 1))
    rw [pml_mix q q3 (by omega), List.mem_append, List.mem_map, List.mem_map]
    constructor
    · rintro (⟨⟨a, b⟩, c, e⟩ | ⟨⟨a, b⟩, c, e⟩)
      · obtain ⟨e1, e2⟩ := Prod.mk.inj e
        have := (pml_in h (lf i) (by omega) _ _ c).2.1
        dsimp only at this e1
        omega
      · obtain ⟨e1, e2⟩ := Prod.mk.inj e
        dsimp only at e1 e2
        subst e1
        obtain ⟨r1, R, r2, r3⟩ := (hr b).mp c
        have d1 : t / psp K lf (i - 1) = p / psp K lf (i - 1) := by
          rw [← e2, Nat.mul_comm, Nat.mul_add_div m3, Nat.div_eq_of_lt r1, Nat.add_zero]
        have d2 : t % psp K lf (i - 1) = b := by
          rw [← e2, Nat.mul_comm, Nat.mul_add_mod, Nat.mod_eq_of_lt r1]
        refine ⟨?_, R, (hg R).mpr r2, (hsp _ _).mpr ⟨by rw [d1, hM R r2], by rw [d2]; exact r3⟩⟩
        rw [psp_mix q q3 (by omega), ← hdm, d1, d2]
        have := Nat.mul_le_mul_left (psp K lf (i - 1)) (show p / psp K lf (i - 1) + 1 ≤ psp K lf (lf i) by omega)
        rw [Nat.mul_add, Nat.mul_one, Nat.mul_comm _ (psp K lf (lf i))] at this
        omega
    · rintro ⟨r1, R, r2, r3⟩
      have r2' := (hg R).mp r2
      obtain ⟨e1, e2⟩ := (hsp _ _).mp r3
      rw [psp_mix q q3 (by omega)] at r1
      obtain ⟨k1, k2, k3⟩ := mx_lt r1
      rw [hM R r2'] at e1
      have d1 := phi_inj h (lf i) (by omega) _ _ k1 m1 e1
      refine Or.inr ⟨(j, t % psp K lf (i - 1)), (hr _).mpr ⟨k2, R, r2', e2⟩, ?_⟩
      show (j, p / psp K lf (i - 1) * psp K lf (i - 1) + t % psp K lf (i - 1)) = (j, t)
      rw [← d1, Nat.mul_comm, hdm]
  · have hg : ∀ R, mvG K lf S j i R ↔ mvG K lf S j (lf i) R := by
      intro R
      unfold mvG
      rw [mvT_l h hi (by omega) (by omega) h1 z, fr_l h hi (by omega) (by omega) z]
      unfold mvU
      constructor
      · rintro (⟨a, b, c⟩ | (a | ⟨a, (b | b | b)⟩))
        · exact Or.inl ⟨(hzb.mp a).1, b, c⟩
        · exact Or.inr a
        · rcases b.2.2 with c | c
          · omega
          · exact Or.inl ⟨c.2.1, c.2.2, b.2.1⟩
        · omega
        · omega
      · rintro (⟨a, b, c⟩ | a)
        · by_cases w : S &&& unM K lf i = 0
          · exact Or.inl ⟨w, b, c⟩
          · exact Or.inr (Or.inr ⟨w, Or.inl ⟨q, c, Or.inr ⟨z, a, b⟩⟩⟩)
        · exact Or.inr (Or.inl a)
    obtain ⟨hr, hre⟩ := ihl S (p / psp K lf (i - 1)) m1 a1 j (by omega) z hk
    have hM : ∀ R, mvG K lf S j (lf i) R → (sbM S R ||| owM K j) &&& unM K lf (i - 1) = phi K lf (i - 1) (p % psp K lf (i - 1)) := fun R hm => by
      rw [mk_off (dj_l hdj (mv_sub h (by omega) (by omega) hm)) (own_dj hk (Or.inl (by omega))), a2]
    refine ⟨fun t => ?_, fun R hR => ?_⟩
    rotate_left
    · obtain ⟨b, e1, e2⟩ := hre R ((hg R).mp hR)
      obtain ⟨c1, c2, c3⟩ := hco b _ e1 m2
      exact ⟨_, c1, (hsp _ _).mpr ⟨by rw [c2]; exact e2, by rw [c3, hM R ((hg R).mp hR)]⟩⟩
    have hdm := Nat.div_add_mod t (psp K lf (i - 1))
    rw [pml_mix q q3 (by omega), List.mem_append, List.mem_map, List.mem_map]
    constructor
    · rintro (⟨⟨a, b⟩, c, e⟩ | ⟨⟨a, b⟩, c, e⟩)
      · obtain ⟨e1, e2⟩ := Prod.mk.inj e
        dsimp only at e1 e2
        subst e1
        obtain ⟨r1, R, r2, r3⟩ := (hr b).mp c
        have d1 : t / psp K lf (i - 1) = b := by
          rw [← e2, Nat.mul_comm, Nat.mul_add_div m3, Nat.div_eq_of_lt m2, Nat.add_zero]
        have d2 : t % psp K lf (i - 1) = p % psp K lf (i - 1) := by
          rw [← e2, Nat.mul_comm, Nat.mul_add_mod, Nat.mod_eq_of_lt m2]
        refine ⟨?_, R, (hg R).mpr r2, (hsp _ _).mpr ⟨by rw [d1]; exact r3, by rw [d2, hM R r2]⟩⟩
        rw [psp_mix q q3 (by omega), ← hdm, d1, d2]
        have := Nat.mul_le_mul_left (psp K lf (i - 1)) (show b + 1 ≤ psp K lf (lf i) by omega)
        rw [Nat.mul_add, Nat.mul_one, Nat.mul_comm _ (psp K lf (lf i))] at this
        omega
      · obtain ⟨e1, e2⟩ := Prod.mk.inj e
        have := (pml_in h (i - 1) (by omega) _ _ c).1
        dsimp only at this e1
        omega
    · rintro ⟨r1, R, r2, r3⟩
      have r2' := (hg R).mp r2
      obtain ⟨e1, e2⟩ := (hsp _ _).mp r3
      rw [psp_mix q q3 (by omega)] at r1
      obtain ⟨k1, k2, k3⟩ := mx_lt r1
      rw [hM R r2'] at e2
      have d1 := phi_inj h (i - 1) (by omega) _ _ k2 m2 e2
      refine Or.inl ⟨(j, t / psp K lf (i - 1)), (hr _).mpr ⟨k1, R, r2', e1⟩, ?_⟩
      show (j, t / psp K lf (i - 1) * psp K lf (i - 1) + p % psp K lf (i - 1)) = (j, t)
      rw [← d1, Nat.mul_comm, hdm]
end MV
