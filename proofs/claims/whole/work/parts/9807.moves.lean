/-! The model's way of reading a letter: one behind the other, either; the whole -/
section MW
variable {K lf : Nat → Nat} {n : Nat}
theorem mv_pair (h : wfP K lf n) {i : Nat} (hi : i < n) (q : K i = 10 ∨ K i = 12) (ihl : mvS K lf (lf i)) (ihr : mvS K lf (i - 1)) : mvS K lf i := by
  obtain ⟨q3, q5, q4⟩ := wf_lf h hi (by omega) (by omega)
  have q6 := pst_bin (K := K) (i := i) (lf := lf) (by omega) (by omega) (show lf i < i by omega)
  intro S p hp hS j h1 h2 hk
  have hji : j < i := by
    rcases Nat.lt_or_ge j i with z | z
    · exact z
    · have : j = i := by omega
      subst this
      omega
  have hp' := hp
  rw [psp_pair q q3 (by omega)] at hp'
  have hdj := un_dj h hi (show 10 ≤ K i by omega) (by omega)
  have s1 := phi_sub h (lf i) (by omega)
  have s2 := phi_sub h (i - 1) (by omega)
  have hzb := z_bin (S := S) h hi (show 10 ≤ K i by omega) (by omega)
  have g1 := psp_pos K lf (lf i)
  have g2 := psp_pos K lf (i - 1)
  have hX : ∀ X, ((X &&& unM K lf (lf i)) ||| (X &&& unM K lf (i - 1))) &&& unM K lf (lf i) = X &&& unM K lf (lf i) ∧ ((X &&& unM K lf (lf i)) ||| (X &&& unM K lf (i - 1))) &&& unM K lf (i - 1) = X &&& unM K lf (i - 1) := fun X => or_split hdj (show X &&& unM K lf (lf i) &&& unM K lf (lf i) = _ by rw [Nat.and_assoc, Nat.and_self]) (show X &&& unM K lf (i - 1) &&& unM K lf (i - 1) = _ by rw [Nat.and_assoc, Nat.and_self])
  have hlo : ∀ {t}, ¬ psp K lf (lf i) ≤ t → ∀ X, phi K lf i t = X &&& unM K lf i ↔ phi K lf (lf i) t = X &&& unM K lf (lf i) ∧ X &&& unM K lf (i - 1) = 0 := by
    intro t ht X
    rw [phi_lo q q3 (by omega) ht, un_bin h hi (by omega) (by omega), Nat.and_or_distrib_left]
    constructor
    · intro e
      obtain ⟨e1, e2⟩ := hX X
      rw [← e] at e1 e2
      exact ⟨(s1 t).symm.trans e1, e2.symm.trans (dj_l hdj (s1 t))⟩
    · rintro ⟨e1, e2⟩
      rw [e1, e2, Nat.or_zero]
  have hhi : ∀ {t}, psp K lf (lf i) ≤ t → ∀ X, phi K lf i t = X &&& unM K lf i ↔ phi K lf (i - 1) (t - psp K lf (lf i) + 1) = X &&& unM K lf (i - 1) ∧ X &&& unM K lf (lf i) = 0 := by
    intro t ht X
    rw [phi_hi q q3 (by omega) ht, un_bin h hi (by omega) (by omega), Nat.and_or_distrib_left]
    constructor
    · intro e
      obtain ⟨e1, e2⟩ := hX X
      rw [← e] at e1 e2
      exact ⟨(s2 _).symm.trans e2, e1.symm.trans (dj_r hdj (s2 _))⟩
    · rintro ⟨e1, e2⟩
      rw [e1, e2, Nat.zero_or]
  have hno : ∀ R V, owM K j &&& V = owM K j → ¬ (sbM S R ||| owM K j) &&& V = 0 := fun R V hv e => ow_ne hk (ow_out hv hv (by rw [Nat.and_assoc, Nat.and_self]; exact e))
  by_cases z : psp K lf (lf i) ≤ p
  · obtain ⟨a1, a2⟩ := rs_hi h hi q z hS
    rw [phi_0 h (lf i) (by omega)] at a1
    have b2 : ¬ S &&& unM K lf (i - 1) = 0 := by rw [a2]; exact phi_ne h (i - 1) (by omega) _ (by omega) (by omega)
    rcases Nat.lt_or_ge (lf i) j with y | y
    · have hg : ∀ R, mvG K lf S j i R ↔ mvG K lf S j (i - 1) R := by
        intro R
        unfold mvG
        rw [mvT_r q3 h1 hji]
        unfold mvU
        constructor
        · rintro (⟨a, -, -⟩ | (a | ⟨a, (b | b | b)⟩))
          · exact absurd (hzb.mp a).2 b2
          · exact Or.inr a
          · omega
          · exact absurd b.2.2.1 b2
          · omega
        · rintro (⟨a, -, -⟩ | a)
          · exact absurd a b2
          · exact Or.inr (Or.inl a)
      obtain ⟨hr, hre⟩ := ihr S (p - psp K lf (lf i) + 1) (by omega) a2 j (by omega) (by omega) hk
      have hM : ∀ R, mvG K lf S j (i - 1) R → (sbM S R ||| owM K j) &&& unM K lf (lf i) = 0 := fun R hm => by
        rw [mk_off (dj_r hdj (mv_sub h (by omega) (by omega) hm)) (own_dj hk (Or.inr y)), a1]
      refine ⟨fun t => ?_, fun R hR => ?_⟩
      rotate_left
      · have hR' := (hg R).mp hR
        obtain ⟨b, e1, e2⟩ := hre R hR'
        have b0 : b ≠ 0 := fun w => by
          rw [w, phi_0 h (i - 1) (by omega)] at e2
          exact hno R _ (own_un hk (by omega) (by omega)) e2.symm
        refine ⟨psp K lf (lf i) - 1 + b, by rw [psp_pair q q3 (by omega)]; omega, (hhi (by omega) _).mpr ⟨?_, hM R hR'⟩⟩
        rw [show psp K lf (lf i) - 1 + b - psp K lf (lf i) + 1 = b by omega]
        exact e2
      rw [pml_hi q q3 (by omega) z, List.mem_map]
      constructor
      · rintro ⟨⟨a, b⟩, c, e⟩
        obtain ⟨e1, e2⟩ := Prod.mk.inj e
        dsimp only at e1 e2
        subst e1
        have c1 := pml_ok h (show i - 1 < n by omega) (show p - psp K lf (lf i) + 1 < psp K lf (i - 1) by omega) c
        obtain ⟨r1, R, r2, r3⟩ := (hr b).mp c
        refine ⟨by rw [psp_pair q q3 (by omega)]; omega, R, (hg R).mpr r2, (hhi (by omega) _).mpr ⟨?_, hM R r2⟩⟩
        rw [show t - psp K lf (lf i) + 1 = b by omega]
        exact r3
      · rintro ⟨r1, R, r2, r3⟩
        rw [psp_pair q q3 (by omega)] at r1
        have r2' := (hg R).mp r2
        by_cases w : psp K lf (lf i) ≤ t
        · obtain ⟨e1, e2⟩ := (hhi w _).mp r3
          refine ⟨(j, t - psp K lf (lf i) + 1), (hr _).mpr ⟨by omega, R, r2', e1⟩, ?_⟩
          show (j, psp K lf (lf i) - 1 + (t - psp K lf (lf i) + 1)) = (j, t)
          congr 1
          omega
        · exact absurd ((hlo w _).mp r3).2 (hno R _ (own_un hk (by omega) (by omega)))
    · have hN : ∀ R, ¬ mvG K lf S j i R := by
        rintro R (⟨a, -, -⟩ | a)
        · exact absurd (hzb.mp a).2 b2
        · rcases (mvT_l h hi (by omega) (by omega) h1 y).mp a with a | ⟨a, (b | b | b)⟩
          · exact absurd a (mvT_no h (by omega) (by omega) a1)
          · omega
          · omega
          · omega
      refine ⟨fun t => ?_, fun R hR => absurd hR (hN R)⟩
      rw [pml_hi q q3 (by omega) z, List.mem_map]
      constructor
      · rintro ⟨⟨a, b⟩, c, e⟩
        obtain ⟨e1, e2⟩ := Prod.mk.inj e
        have := (pml_in h (i - 1) (by omega) _ _ c).1
        dsimp only at this e1
        omega
      · rintro ⟨r1, R, r2, r3⟩
        exact absurd r2 (hN R)
  · obtain ⟨a1, a2⟩ := rs_lo h hi q z hS
    rw [phi_0 h (i - 1) (by omega)] at a2
    have hp0 : S &&& unM K lf i = 0 ↔ p = 0 := by
      rw [hS]
      exact ⟨fun w => Decidable.byContradiction fun w2 => phi_ne h i hi p hp w2 w, fun w => by rw [w]; exact phi_0 h i hi⟩
    rcases Nat.lt_or_ge (lf i) j with y | y
    · have i0 := fun b' => mvS_0 h (show i - 1 < n by omega) ihr (show pst K lf (i - 1) ≤ j by omega) (by omega) hk b'
      have hen := en_pal h (lf i) (by omega) p (by omega) a1
      have hnul := wf_nul h (lf i) (by omega)
      have hg : (∃ R, mvG K lf S j i R) ↔ (if K i = 12 then pal K lf (lf i) p = true else p = 0) ∧ frO K lf j (i - 1) := by
        unfold mvG
        constructor
        · rintro ⟨R, (⟨a, b, c⟩ | a)⟩
          · have e := hp0.mp a
            rw [fr_r q3 h1 hji] at b
            refine ⟨?_, b.1⟩
            by_cases w : K i = 12
            · rw [if_pos w, e]
              exact hnul.mpr (b.2 w y)
            · rw [if_neg w]
              exact e
          · rcases (mvT_r q3 h1 hji).mp a with a | ⟨a, (b | b | b)⟩
            · exact absurd a (mvT_no h (by omega) (by omega) a2)
            · omega
            · rw [if_pos b.1, ← hen]
              exact ⟨b.2.2.2.2.1, b.2.2.2.1⟩
            · omega
        · rintro ⟨a, b⟩
          by_cases e : p = 0
          · refine ⟨0, Or.inl ⟨hp0.mpr e, (fr_r q3 h1 hji).mpr ⟨b, fun w _ => ?_⟩, rfl⟩⟩
            rw [if_pos w, e] at a
            exact hnul.mp a
          · have w : K i = 12 := Decidable.byContradiction fun w => e (by rw [if_neg w] at a; exact a)
            rw [if_pos w, ← hen] at a
            exact ⟨unM K lf (lf i), Or.inr ((mvT_r q3 h1 hji).mpr (Or.inr ⟨fun x => e (hp0.mp x), Or.inr (Or.inl ⟨w, y, a2, b, a, rfl⟩)⟩))⟩
      have hM : ∀ R, mvG K lf S j i R → (sbM S R ||| owM K j) &&& unM K lf i = owM K j := by
        rintro R (⟨a, b, rfl⟩ | a)
        · exact mk_own (by rw [a, Nat.zero_and]) (own_un hk h1 h2)
        · rcases (mvT_r q3 h1 hji).mp a with a | ⟨a, (b | b | b)⟩
          · exact absurd a (mvT_no h (by omega) (by omega) a2)
          · omega
          · obtain ⟨-, -, -, -, -, rfl⟩ := b
            refine mk_own ?_ (own_un hk h1 h2)
            rw [hS, phi_lo q q3 (by omega) z, s1]
          · omega
      have hL : ∀ t, (j, t) ∉ pml K lf (lf i) p := fun t c => by
        have := (pml_in h (lf i) (by omega) _ _ c).2.1
        dsimp only at this
        omega
      have hown : owM K j = owM K j &&& unM K lf i := (own_un hk h1 h2).symm
      refine ⟨fun t => ?_, fun R hR => ?_⟩
      rotate_left
      · obtain ⟨b, e1, e2⟩ := mvS_e h (show i - 1 < n by omega) ihr (show pst K lf (i - 1) ≤ j by omega) (by omega) hk (hg.mp ⟨R, hR⟩).2
        have b0 : b ≠ 0 := fun w => by
          rw [w, phi_0 h (i - 1) (by omega)] at e2
          exact ow_ne hk e2.symm
        refine ⟨psp K lf (lf i) - 1 + b, by rw [psp_pair q q3 (by omega)]; omega, ?_⟩
        rw [hM R hR, phi_hi q q3 (by omega) (by omega), show psp K lf (lf i) - 1 + b - psp K lf (lf i) + 1 = b by omega]
        exact e2
      rw [pml_lo q q3 (by omega) z, List.mem_append]
      constructor
      · rintro (a | a)
        · exact absurd a (hL t)
        · by_cases c : (if K i = 12 then pal K lf (lf i) p = true else p = 0)
          · rw [if_pos c, List.mem_map] at a
            obtain ⟨⟨a, b⟩, c2, e⟩ := a
            obtain ⟨e1, e2⟩ := Prod.mk.inj e
            dsimp only at e1 e2
            subst e1
            have c1 := pml_ok h (show i - 1 < n by omega) (show 0 < psp K lf (i - 1) by omega) c2
            obtain ⟨r1, r2, r3⟩ := (i0 b).mp c2
            obtain ⟨R, hR⟩ := hg.mpr ⟨c, r2⟩
            refine ⟨by rw [psp_pair q q3 (by omega)]; omega, R, hR, ?_⟩
            rw [hM R hR, phi_hi q q3 (by omega) (by omega), show t - psp K lf (lf i) + 1 = b by omega]
            exact r3
          · rw [if_neg c] at a
            exact absurd a List.not_mem_nil
      · rintro ⟨r1, R, r2, r3⟩
        rw [psp_pair q q3 (by omega)] at r1
        rw [hM R r2, hown] at r3
        obtain ⟨c, f⟩ := hg.mp ⟨R, r2⟩
        rw [if_pos c, List.mem_map]
        by_cases w : psp K lf (lf i) ≤ t
        · obtain ⟨e1, e2⟩ := (hhi w _).mp r3
          rw [own_un hk (by omega) (by omega)] at e1
          refine Or.inr ⟨(j, t - psp K lf (lf i) + 1), (i0 _).mpr ⟨by omega, f, e1⟩, ?_⟩
          show (j, psp K lf (lf i) - 1 + (t - psp K lf (lf i) + 1)) = (j, t)
          congr 1
          omega
        · have := ((hlo w _).mp r3).2
          rw [own_un hk (by omega) (by omega)] at this
          exact absurd this (ow_ne hk)
    · have hg : ∀ R, mvG K lf S j i R ↔ mvG K lf S j (lf i) R := by
        intro R
        unfold mvG
        rw [mvT_l h hi (by omega) (by omega) h1 y, fr_l h hi (by omega) (by omega) y]
        unfold mvU
        constructor
        · rintro (⟨a, b, c⟩ | (a | ⟨a, (b | b | b)⟩))
          · exact Or.inl ⟨(hzb.mp a).1, b, c⟩
          · exact Or.inr a
          · omega
          · omega
          · omega
        · rintro (⟨a, b, c⟩ | a)
          · exact Or.inl ⟨hzb.mpr ⟨a, a2⟩, b, c⟩
          · exact Or.inr (Or.inl a)
      obtain ⟨hr, hre⟩ := ihl S p (by omega) a1 j (by omega) y hk
      have hM : ∀ R, mvG K lf S j (lf i) R → (sbM S R ||| owM K j) &&& unM K lf (i - 1) = 0 := fun R hm => by
        rw [mk_off (dj_l hdj (mv_sub h (by omega) (by omega) hm)) (own_dj hk (Or.inl (by omega))), a2]
      refine ⟨fun t => ?_, fun R hR => ?_⟩
      rotate_left
      · have hR' := (hg R).mp hR
        obtain ⟨b, e1, e2⟩ := hre R hR'
        exact ⟨b, by rw [psp_pair q q3 (by omega)]; omega, (hlo (by omega) _).mpr ⟨e2, hM R hR'⟩⟩
      rw [pml_lo q q3 (by omega) z, List.mem_append]
      constructor
      · rintro (a | a)
        · obtain ⟨r1, R, r2, r3⟩ := (hr t).mp a
          exact ⟨by rw [psp_pair q q3 (by omega)]; omega, R, (hg R).mpr r2, (hlo (by omega) _).mpr ⟨r3, hM R r2⟩⟩
        · by_cases c : (if K i = 12 then pal K lf (lf i) p = true else p = 0)
          · rw [if_pos c, List.mem_map] at a
            obtain ⟨⟨a, b⟩, c2, e⟩ := a
            obtain ⟨e1, e2⟩ := Prod.mk.inj e
            have := (pml_in h (i - 1) (by omega) _ _ c2).1
            dsimp only at this e1
            omega
          · rw [if_neg c] at a
            exact absurd a List.not_mem_nil
      · rintro ⟨r1, R, r2, r3⟩
        by_cases w : psp K lf (lf i) ≤ t
        · exact absurd ((hhi w _).mp r3).2 (hno R _ (own_un hk (by omega) y))
        · exact Or.inl ((hr t).mpr ⟨by omega, R, (hg R).mp r2, ((hlo w _).mp r3).1⟩)
theorem mv_all (h : wfP K lf n) : ∀ i, i < n → mvS K lf i := by
  intro i
  induction i using Nat.strongRecOn with
  | _ i ih =>
    intro hi
    rcases wf_cases h hi with q | q | ⟨q1, q2, q3, q4⟩ | ⟨q1, q2, q3, q4, q5, q6⟩
    · intro S p hp hS j h1 h2 hk
      rw [pst_leaf (by omega)] at h1
      have e : j = i := by omega
      subst e
      have hT : ∀ R, ¬ mvT K lf S j j R := by
        rintro R ⟨u, u1, u2, u3, -⟩
        omega
      rw [psp_let q] at hp
      have hfr : frO K lf j j := fun u hu _ hu2 => by omega
      have hown : ∀ X, X &&& unM K lf j = 0 → (sbM X 0 ||| owM K j) &&& unM K lf j = owM K j := fun X hX => mk_own (by rw [hX, Nat.zero_and]) (own_un q (by rw [pst_leaf (by omega)]; exact Nat.le_refl _) (Nat.le_refl _))
      refine ⟨fun t => ?_, fun R hR => ?_⟩
      rotate_left
      · rcases hR with ⟨a, -, rfl⟩ | a
        · exact ⟨1, by rw [psp_let q]; decide, by rw [hown S a, phi_let q, if_neg (by decide)]⟩
        · exact absurd a (hT R)
      rw [pml_let q, psp_let q]
      by_cases p0 : p = 0
      · subst p0
        rw [phi_0 h j hi] at hS
        rw [if_pos rfl, List.mem_singleton]
        constructor
        · intro e
          obtain ⟨-, rfl⟩ := Prod.mk.inj e
          exact ⟨by decide, 0, Or.inl ⟨hS, hfr, rfl⟩, by rw [hown S hS, phi_let q, if_neg (by decide)]⟩
        · rintro ⟨a, R, (⟨b, -, rfl⟩ | b), c⟩
          · rw [hown S hS, phi_let q] at c
            by_cases t0 : t = 0
            · rw [if_pos t0] at c
              exact absurd c.symm (ow_ne q)
            · congr 1
              omega
          · exact absurd b (hT R)
      · rw [if_neg p0]
        constructor
        · exact fun a => absurd a List.not_mem_nil
        · rintro ⟨a, R, (⟨b, -, rfl⟩ | b), c⟩
          · rw [hS] at b
            exact absurd b (phi_ne h j hi p (by rw [psp_let q]; exact hp) p0)
          · exact absurd b (hT R)
    · intro S p hp hS j h1 h2 hk
      rw [pst_leaf (by omega)] at h1
      have e : j = i := by omega
      subst e
      omega
    · exact mv_un h hi q1 q2 q3 q4 (ih (i - 1) (by omega) (by omega))
    · by_cases q : K i = 11
      · exact mv_mix h hi q (ih (lf i) (by omega) (by omega)) (ih (i - 1) (by omega) (by omega))
      · exact mv_pair h hi (by omega) (ih (lf i) (by omega) (by omega)) (ih (i - 1) (by omega) (by omega))
/-- the sets that a letter leads to -/
def tgX (K lf : Nat → Nat) (n S j X : Nat) : Prop := ∃ R, mvG K lf S j (n - 1) R ∧ X = sbM S R ||| owM K j
theorem tg_iff (h : wfP K lf n) {p : Nat} (hp : p < psp K lf (n - 1)) {j : Nat} (hj : j < n) (hk : K j ≤ 8) (X : Nat) : tgX K lf n (phi K lf (n - 1) p) j X ↔ ∃ q, q < psp K lf (n - 1) ∧ (j, q) ∈ pml K lf (n - 1) p ∧ X = phi K lf (n - 1) q := by
  have hn := h.1
  have hr := h.2.2.2
  have hS := phi_sub h (n - 1) (by omega) p
  obtain ⟨ha, hae⟩ := mv_all h (n - 1) (by omega) (phi K lf (n - 1) p) p hp hS j (by omega) (by omega) hk
  have hin : ∀ R, (sbM (phi K lf (n - 1) p) R ||| owM K j) &&& unM K lf (n - 1) = sbM (phi K lf (n - 1) p) R ||| owM K j := by
    intro R
    have h1 : sbM (phi K lf (n - 1) p) R &&& unM K lf (n - 1) = sbM (phi K lf (n - 1) p) R := by
      apply Nat.eq_of_testBit_eq
      intro b
      have e1 := congrArg (fun z => z.testBit b) hS
      simp only [Nat.testBit_and, sb_bit] at *
      revert e1
      cases (phi K lf (n - 1) p).testBit b <;> cases R.testBit b <;> cases (unM K lf (n - 1)).testBit b <;> decide
    have := or_in h1 (own_un (lf := lf) (i := n - 1) hk (by omega) (by omega))
    rwa [Nat.or_self] at this
  constructor
  · rintro ⟨R, hR, rfl⟩
    obtain ⟨q, q1, q2⟩ := hae R hR
    rw [hin] at q2
    exact ⟨q, q1, (ha q).mpr ⟨q1, R, hR, by rw [hin]; exact q2⟩, q2.symm⟩
  · rintro ⟨q, q1, q2, rfl⟩
    obtain ⟨-, R, r1, r2⟩ := (ha q).mp q2
    rw [hin] at r2
    exact ⟨R, r1, r2⟩
end MW
