/-! GrammarReader: takes, readOrders -/
theorem nzW_tl {W : List Nat} {o : Nat} (h : W.length = nzW W + o) (h0 : 0 < o) (hd : W = [] ∨ ∃ W', W = 0 :: W') : nzW W.tail = nzW W ∧ W.tail.length = nzW W.tail + (o - 1) := by
  rcases hd with rfl | ⟨W', rfl⟩
  · simp [nzW] at h
    omega
  · rw [nzW_c, if_pos rfl, List.length_cons] at h
    rw [nzW_c, if_pos rfl, List.tail_cons]
    omega
/-- what is read stays as it is wanted -/
theorem rdI_s {σ σ' : rS} {c : Nat} (hI : rdI σ) (ho : σ.ord + 1 < 2 ^ 20) (h : rdT σ c = some σ') : rdI σ' ∧ σ.ord ≤ σ'.ord ∧ σ'.ord ≤ σ.ord + 1 := by
  obtain ⟨ph, ow, W, oo, n, L, Gr, od⟩ := σ
  obtain ⟨a1, a2, a3⟩ := hI
  simp only [rS.ph, rS.own, rS.W, rS.o, rS.nd, rS.L, rS.Gr, rS.ord] at a1 a2 a3 ho
  have hN : ∀ k, k < 16 → 1 ≤ ph → rdN (ph, ow, W, oo, n, L, Gr, od) k = some σ' → rdI σ' ∧ od ≤ σ'.ord ∧ σ'.ord ≤ od + 1 := by
    intro k hk hp hq
    obtain ⟨i1, i2, i3, i4, i5, i6, i7, i8⟩ := a3 hp
    unfold rdN at hq
    split at hq
    next q =>
      have := (Option.some.inj hq).symm
      subst this
      refine ⟨⟨Nat.le_refl 3, a2, fun _ => ⟨i1, i2, q, ?_, i5, fun y hy => ?_, i7, fun _ => ?_⟩⟩, Nat.le_refl _, Nat.le_succ _⟩
      · show (L ++ [k]).length + nzW W = n + 1
        rw [List.length_append, List.length_singleton]
        omega
      · rcases List.mem_append.mp hy with z | z
        · exact i6 y z
        · rw [List.mem_singleton.mp z]
          exact hk
      · show 1 ≤ (L ++ [k]).length
        rw [List.length_append, List.length_singleton]
        omega
    · exact absurd hq (by simp)
  have hB : ∀ k, 1 ≤ k → k < 16 → 1 ≤ ph → rdB (ph, ow, W, oo, n, L, Gr, od) k = some σ' → rdI σ' ∧ od ≤ σ'.ord ∧ σ'.ord ≤ od + 1 := by
    intro k hk1 hk hp hq
    obtain ⟨i1, i2, i3, i4, i5, i6, i7, i8⟩ := a3 hp
    unfold rdB at hq
    split at hq
    next q =>
      have := (Option.some.inj hq).symm
      subst this
      obtain ⟨p1, p2, p3, p4⟩ := popW_inv k hk1 W L
      obtain ⟨m1, m2, m3⟩ := popW_mem k W L
      have p5 := p2 oo i5
      refine ⟨⟨by show 2 ≤ 3; decide, a2, fun _ => ⟨i1, i2, q, ?_, ?_, fun y hy => ?_, fun y hy => ?_, fun z => absurd z (by show ¬ 2 = 3; decide)⟩⟩, Nat.le_refl _, Nat.le_succ _⟩
      · show (popW k W L).2.length + nzW (k :: (popW k W L).1) = n + 1
        rw [nzW_c, if_neg (by omega)]
        omega
      · show (k :: (popW k W L).1).length = nzW (k :: (popW k W L).1) + oo
        rw [nzW_c, if_neg (by omega), List.length_cons]
        omega
      · rcases m2 y hy with z | z
        · exact i6 y z
        · exact i7 y z
      · rcases List.mem_cons.mp hy with z | z
        · rw [z]
          exact hk
        · exact i7 y (m1 y z)
    · exact absurd hq (by simp)
  unfold rdT at h
  simp only [rS.ph, rS.own, rS.W, rS.o, rS.nd, rS.L, rS.Gr, rS.ord] at h ⊢
  have h4 : ph = 0 ∨ ph = 1 ∨ ph = 2 ∨ ph = 3 := by omega
  rcases h4 with rfl | rfl | rfl | rfl
  · rw [if_pos rfl] at h
    unfold rdO at h
    split at h
    · have := (Option.some.inj h).symm
      subst this
      exact ⟨⟨by show 1 ≤ 3; decide, a2, fun _ => ⟨by show 8 < 9; decide, by show 0 ≤ 8; decide, by show 0 ≤ 16; decide, rfl, rfl, fun y hy => absurd hy List.not_mem_nil, fun y hy => absurd hy List.not_mem_nil, fun z => absurd z (by show ¬ 1 = 3; decide)⟩⟩, Nat.le_refl _, Nat.le_succ _⟩
    · split at h
      next q =>
        have := (Option.some.inj h).symm
        subst this
        exact ⟨⟨by show 1 ≤ 3; decide, a2, fun _ => ⟨by show c - 97 < 9; omega, by show 0 ≤ 8; decide, by show 0 ≤ 16; decide, rfl, rfl, fun y hy => absurd hy List.not_mem_nil, fun y hy => absurd hy List.not_mem_nil, fun z => absurd z (by show ¬ 1 = 3; decide)⟩⟩, Nat.le_refl _, Nat.le_succ _⟩
      · exact absurd h (by simp)
  · rw [if_neg (by decide), if_pos rfl] at h
    split at h
    · have := (Option.some.inj h).symm
      subst this
      obtain ⟨i1, i2, i3, i4, i5, i6, i7, -⟩ := a3 (by decide)
      exact ⟨⟨by show 2 ≤ 3; decide, a2, fun _ => ⟨i1, i2, i3, i4, i5, i6, i7, fun z => absurd z (by show ¬ 2 = 3; decide)⟩⟩, Nat.le_refl _, Nat.le_succ _⟩
    · exact absurd h (by simp)
  · rw [if_neg (by decide), if_neg (by decide), if_pos rfl] at h
    unfold rdU at h
    split at h
    · split at h
      next q =>
        have := (Option.some.inj h).symm
        subst this
        obtain ⟨i1, i2, i3, i4, i5, i6, i7, -⟩ := a3 (by decide)
        refine ⟨⟨by show 2 ≤ 3; decide, a2, fun _ => ⟨i1, q, i3, ?_, ?_, i6, fun y hy => ?_, fun z => absurd z (by show ¬ 2 = 3; decide)⟩⟩, Nat.le_refl _, Nat.le_succ _⟩
        · show L.length + nzW (0 :: W) = n
          rw [nzW_c, if_pos rfl]
          omega
        · show (0 :: W).length = nzW (0 :: W) + (oo + 1)
          rw [nzW_c, if_pos rfl, List.length_cons]
          omega
        · rcases List.mem_cons.mp hy with z | z
          · rw [z]
            decide
          · exact i7 y z
      · exact absurd h (by simp)
    · split at h
      · exact hN _ (by omega) (by decide) h
      · split at h
        · exact hN _ (by omega) (by decide) h
        · exact absurd h (by simp)
  · rw [if_neg (by decide), if_neg (by decide), if_neg (by decide)] at h
    unfold rdH at h
    split at h
    · exact hN _ (by omega) (by decide) h
    split at h
    · exact hN _ (by omega) (by decide) h
    split at h
    · exact hN _ (by omega) (by decide) h
    split at h
    · exact hB _ (by omega) (by omega) (by decide) h
    split at h
    · exact hB _ (by omega) (by omega) (by decide) h
    split at h
    · exact hB _ (by omega) (by omega) (by decide) h
    split at h
    · unfold rdC at h
      split at h
      next q =>
        have := (Option.some.inj h).symm
        subst this
        obtain ⟨i1, i2, i3, i4, i5, i6, i7, i8⟩ := a3 (by decide)
        obtain ⟨p1, p2, p3, p4⟩ := popW_inv 1 (Nat.le_refl _) W L
        obtain ⟨m1, m2, m3⟩ := popW_mem 1 W L
        have p5 := p2 oo i5
        obtain ⟨z1, z2⟩ := nzW_tl p5 q (popW_1 W L)
        have i8 := i8 rfl
        refine ⟨⟨Nat.le_refl 3, a2, fun _ => ⟨i1, by show oo - 1 ≤ 8; omega, i3, ?_, ?_, fun y hy => ?_, fun y hy => i7 y (m1 y (List.mem_of_mem_tail hy)), fun _ => by show 1 ≤ (popW 1 W L).2.length; omega⟩⟩, Nat.le_refl _, Nat.le_succ _⟩
        · show (popW 1 W L).2.length + nzW (popW 1 W L).1.tail = n
          omega
        · exact z2
        · rcases m2 y hy with z | z
          · exact i6 y z
          · exact i7 y z
      · exact absurd h (by simp)
    split at h
    · unfold rdE at h
      split at h
      · have := (Option.some.inj h).symm
        subst this
        exact ⟨⟨Nat.zero_le 3, ho, fun z => absurd z (by show ¬ 1 ≤ 0; decide)⟩, Nat.le_succ _, Nat.le_refl _⟩
      · exact absurd h (by simp)
    · exact absurd h (by simp)
