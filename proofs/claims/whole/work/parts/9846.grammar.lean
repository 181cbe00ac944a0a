/-! The patterns that a reading makes -/
def frP (W L : List Nat) (u : Nat) : Prop := ∃ lf st, nodW (kL L) lf L.length ∧ opR (kL L) lf L.length st ∧ st.length = nzW W + u
section FR
variable {W L : List Nat}
theorem fr_leaf {k : Nat} (h : frP W L 0) (hk : 1 ≤ k) (hk2 : k ≤ 9) : frP W (L ++ [k]) 1 := by
  obtain ⟨lf, st, p7, p8, p9⟩ := h
  have hll : (L ++ [k]).length = L.length + 1 := by rw [List.length_append]; rfl
  obtain ⟨f1, f2⟩ := fo_leaf (k := k) (K' := kL (L ++ [k])) p7 p8 hk hk2 (fun j hj => kL_o hj) (kL_n L k)
  exact ⟨lf, L.length :: st, by rw [hll]; exact f1, by rw [hll]; exact f2, by rw [List.length_cons, p9]⟩
theorem fr_un {k : Nat} (h : frP W L 1) (hk : 13 ≤ k) (hk2 : k ≤ 15) : frP W (L ++ [k]) 1 := by
  obtain ⟨lf, st, p7, p8, p9⟩ := h
  cases st with
  | nil =>
    rw [List.length_nil] at p9
    omega
  | cons r st =>
    have hll : (L ++ [k]).length = L.length + 1 := by rw [List.length_append]; rfl
    obtain ⟨-, f1, f2⟩ := fo_un (k := k) (K' := kL (L ++ [k])) p7 p8 hk hk2 (fun j hj => kL_o hj) (kL_n L k)
    exact ⟨lf, L.length :: st, by rw [hll]; exact f1, by rw [hll]; exact f2, by rw [List.length_cons] at p9 ⊢; exact p9⟩
theorem fr_bin {t : Nat} (h : frP (t :: W) L 1) (hk : 10 ≤ t) (hk2 : t ≤ 12) : frP W (L ++ [t]) 1 := by
  obtain ⟨lf, st, p7, p8, p9⟩ := h
  rw [nzW_c, if_neg (by omega)] at p9
  cases st with
  | nil =>
    rw [List.length_nil] at p9
    omega
  | cons b st =>
    cases st with
    | nil =>
      rw [List.length_singleton] at p9
      omega
    | cons a st =>
      have hll : (L ++ [t]).length = L.length + 1 := by rw [List.length_append]; rfl
      obtain ⟨-, -, f1, f2⟩ := fo_bin (k := t) (K' := kL (L ++ [t])) p7 p8 hk hk2 (fun j hj => kL_o hj) (kL_n L t)
      rw [List.length_cons, List.length_cons] at p9
      exact ⟨updN lf L.length a, L.length :: st, by rw [hll]; exact f1, by rw [hll]; exact f2, by rw [List.length_cons]; omega⟩
theorem fr_push {k : Nat} (h : frP W L 1) (hk : 10 ≤ k) : frP (k :: W) L 0 := by
  obtain ⟨lf, st, p7, p8, p9⟩ := h
  exact ⟨lf, st, p7, p8, by rw [nzW_c, if_neg (by omega)]; omega⟩
theorem fr_opn (h : frP W L 0) : frP (0 :: W) L 0 := by
  obtain ⟨lf, st, p7, p8, p9⟩ := h
  exact ⟨lf, st, p7, p8, by rw [nzW_c, if_pos rfl]; omega⟩
theorem fr_cls (h : frP (0 :: W) L 1) : frP W L 1 := by
  obtain ⟨lf, st, p7, p8, p9⟩ := h
  rw [nzW_c, if_pos rfl] at p9
  exact ⟨lf, st, p7, p8, by omega⟩
end FR
theorem fr_pop {op : Nat} (hop : 1 ≤ op) : ∀ (W L : List Nat), wtO W → frP W L 1 → frP (popW op W L).1 (popW op W L).2 1 ∧ wtO (popW op W L).1
  | [], L, hw, h => ⟨h, hw⟩
  | t :: W, L, hw, h => by
    unfold popW
    by_cases q : op ≤ t
    · rw [if_pos q]
      have ht : 10 ≤ t ∧ t ≤ 12 := (hw t (List.mem_cons_self ..)).resolve_left (by omega)
      exact fr_pop hop W (L ++ [t]) (fun y hy => hw y (List.mem_cons_of_mem _ hy)) (fr_bin h ht.1 ht.2)
    · rw [if_neg q]
      exact ⟨h, hw⟩
/-- a list of nodes is a pattern -/
def wfL (L : List Nat) : Prop := ∃ lf, wfP (kL L) lf L.length
theorem fr_wf {L : List Nat} (h : frP [] L 1) (hl : L.length ≤ 16) : wfL L := by
  obtain ⟨lf, st, p7, p8, p9⟩ := h
  cases st with
  | nil => simp [nzW] at p9
  | cons r st =>
    have : st = [] := List.length_eq_zero_iff.mp (by
      rw [List.length_cons] at p9
      have : nzW [] = 0 := rfl
      omega)
    subst this
    obtain ⟨q1, q2⟩ := p8
    refine ⟨lf, by omega, hl, p7, ?_⟩
    rw [q1, Nat.add_sub_cancel]
    exact q2
theorem wfL_P {L : List Nat} (h : wfL L) : okP (lN (encN L)) := by
  obtain ⟨lf, w⟩ := h
  have h16 := w.2.1
  have hm : ∀ y ∈ L, y < 16 := fun y hy => by
    obtain ⟨i, hi, e⟩ := List.mem_iff_getElem.mp hy
    have := (w.2.2.1 i hi).2.1
    have e2 : kL L i = L[i] := by
      unfold kL
      rw [List.getD_eq_getElem?_getD, List.getElem?_eq_getElem hi]
      rfl
    rw [e2, e] at this
    omega
  exact ⟨(kL L, lf, L.length), enc_nib hm h16, w⟩
theorem paL_wf {g : Nat → Int32} {x : Nat} {L : List Nat} (h : paL g x L) : wfL L := by
  obtain ⟨lf, -, w⟩ := h
  exact ⟨lf, w⟩
/-- a reading's forest, and the grammar -/
def foI (σ : rS) : Prop := (1 ≤ σ.ph → frP σ.W σ.L (if σ.ph = 3 then 1 else 0) ∧ wtO σ.W) ∧ ∀ y, y < 9 → wfL (σ.Gr y)
theorem wtO_nil : wtO [] := fun y hy => absurd hy List.not_mem_nil
theorem fr_nil : frP [] [] 0 := ⟨fun _ => 0, [], fun i hi => absurd hi (Nat.not_lt_zero i), rfl, rfl⟩
theorem foN {σ σ' : rS} {k : Nat} (h : foI σ) (hk : (σ.ph = 2 ∧ 1 ≤ k ∧ k ≤ 9) ∨ (σ.ph = 3 ∧ 13 ≤ k ∧ k ≤ 15)) (e : rdN σ k = some σ') : foI σ' := by
  unfold rdN at e
  split at e
  · rw [← Option.some.inj e]
    refine ⟨fun _ => ?_, h.2⟩
    rcases hk with ⟨q, k1, k2⟩ | ⟨q, k1, k2⟩
    · obtain ⟨f1, f2⟩ := h.1 (by omega)
      rw [q, if_neg (show ¬ (2 : Nat) = 3 by decide)] at f1
      exact ⟨fr_leaf f1 k1 k2, f2⟩
    · obtain ⟨f1, f2⟩ := h.1 (by omega)
      rw [q, if_pos rfl] at f1
      exact ⟨fr_un f1 k1 k2, f2⟩
  · simp at e
theorem foB {σ σ' : rS} {k : Nat} (h : foI σ) (h3 : σ.ph = 3) (hk : 10 ≤ k) (hk2 : k ≤ 12) (e : rdB σ k = some σ') : foI σ' := by
  unfold rdB at e
  split at e
  · rw [← Option.some.inj e]
    obtain ⟨f1, f2⟩ := h.1 (by omega)
    rw [h3, if_pos rfl] at f1
    obtain ⟨g1, g2⟩ := fr_pop (op := k) (by omega) σ.W σ.L f2 f1
    refine ⟨fun _ => ⟨fr_push g1 hk, fun y hy => ?_⟩, h.2⟩
    rcases List.mem_cons.mp hy with q | q
    · rw [q]
      exact Or.inr ⟨hk, hk2⟩
    · exact g2 y q
  · simp at e
theorem foI_s {σ σ' : rS} {c : Nat} (hI : rdI σ) (h : foI σ) (e : rdT σ c = some σ') : foI σ' := by
  unfold rdT at e
  by_cases q0 : σ.ph = 0
  · rw [if_pos q0] at e
    unfold rdO at e
    split at e
    · rw [← Option.some.inj e]
      exact ⟨fun _ => ⟨fr_nil, wtO_nil⟩, h.2⟩
    · split at e
      · rw [← Option.some.inj e]
        exact ⟨fun _ => ⟨fr_nil, wtO_nil⟩, h.2⟩
      · simp at e
  rw [if_neg q0] at e
  by_cases q1 : σ.ph = 1
  · rw [if_pos q1] at e
    split at e
    · rw [← Option.some.inj e]
      obtain ⟨f1, f2⟩ := h.1 (by omega)
      rw [q1, if_neg (show ¬ (1 : Nat) = 3 by decide)] at f1
      exact ⟨fun _ => ⟨f1, f2⟩, h.2⟩
    · simp at e
  rw [if_neg q1] at e
  by_cases q2 : σ.ph = 2
  · rw [if_pos q2] at e
    unfold rdU at e
    split at e
    · split at e
      · rw [← Option.some.inj e]
        obtain ⟨f1, f2⟩ := h.1 (by omega)
        rw [q2, if_neg (show ¬ (2 : Nat) = 3 by decide)] at f1
        refine ⟨fun _ => ⟨fr_opn f1, fun y hy => ?_⟩, h.2⟩
        rcases List.mem_cons.mp hy with q | q
        · exact Or.inl q
        · exact f2 y q
      · simp at e
    · split at e
      next hc => exact foN h (Or.inl ⟨q2, by omega, by omega⟩) e
      · split at e
        · exact foN h (Or.inl ⟨q2, by decide, by decide⟩) e
        · simp at e
  rw [if_neg q2] at e
  have h3 : σ.ph = 3 := by
    have := hI.1
    omega
  cases hob : opB c with
  | some k =>
    obtain ⟨e1, k1, k2, -⟩ := rdH_op (σ := σ) hob
    rw [e1] at e
    split at e
    next hk => exact foN h (Or.inr ⟨h3, hk, k2⟩) e
    next hk => exact foB h h3 k1 (by omega) e
  | none =>
    rw [rdH_no (σ := σ) hob] at e
    obtain ⟨f1, f2⟩ := h.1 (by omega)
    rw [h3, if_pos rfl] at f1
    obtain ⟨g1, g2⟩ := fr_pop (op := 1) (Nat.le_refl _) σ.W σ.L f2 f1
    obtain ⟨r1, r2, r3, r4, r5, -⟩ := hI.2.2 (by omega)
    split at e
    · unfold rdC at e
      split at e
      next ho =>
        rw [← Option.some.inj e]
        have p2 := (popW_inv 1 (Nat.le_refl _) σ.W σ.L).2.1 σ.o r5
        rcases popW_1 σ.W σ.L with w | ⟨W', w⟩
        · exact absurd w (nz_hd p2 ho)
        · rw [w] at g1 g2
          refine ⟨fun _ => ?_, h.2⟩
          show frP (popW 1 σ.W σ.L).1.tail _ 1 ∧ wtO (popW 1 σ.W σ.L).1.tail
          rw [w]
          exact ⟨fr_cls g1, fun y hy => g2 y (List.mem_cons_of_mem _ hy)⟩
      · simp at e
    · split at e
      · unfold rdE at e
        split at e
        next ho =>
          rw [← Option.some.inj e]
          refine ⟨fun w => absurd w (show ¬ 1 ≤ 0 by decide), fun y hy => ?_⟩
          show wfL (updG σ.Gr σ.own (popW 1 σ.W σ.L).2 y)
          unfold updG
          split
          · have e0 := popW_all (W := σ.W) (L := σ.L) (by omega)
            have p1 := (popW_inv 1 (Nat.le_refl _) σ.W σ.L).1
            rw [e0] at g1
            exact fr_wf g1 (by omega)
          · exact h.2 y hy
        · simp at e
      · simp at e
theorem foI_L : ∀ (cs : List Nat) (i : Nat) {σ σF : rS}, rdI σ → foI σ → σ.ord + cs.length + 1 < 2 ^ 20 → rdL σ cs i = .inr σF → foI σF ∧ σF.ord ≤ σ.ord + cs.length
  | [], i, σ, σF, hI, h, ho, e => by
    rw [← Sum.inr.inj (show Sum.inr σ = Sum.inr σF from e)]
    exact ⟨h, Nat.le_add_right _ _⟩
  | c :: cs, i, σ, σF, hI, h, ho, e => by
    have e2 : (if c = 32 then rdL σ cs (i + 1) else match rdT σ c with | none => (Sum.inl i : Nat ⊕ rS) | some σ' => rdL σ' cs (i + 1)) = .inr σF := e
    rw [List.length_cons] at ho ⊢
    by_cases q : c = 32
    · rw [if_pos q] at e2
      obtain ⟨a, b⟩ := foI_L cs (i + 1) hI h (by omega) e2
      exact ⟨a, by omega⟩
    · rw [if_neg q] at e2
      cases e3 : rdT σ c with
      | none =>
        rw [e3] at e2
        simp at e2
      | some τ =>
        rw [e3] at e2
        have e4 : rdL τ cs (i + 1) = .inr σF := e2
        obtain ⟨s1, s2, s3⟩ := rdI_s hI (by omega) e3
        obtain ⟨a, b⟩ := foI_L cs (i + 1) s1 (foI_s hI h e3) (by omega) e4
        exact ⟨a, by omega⟩
theorem rdL_i : ∀ (cs : List Nat) (i : Nat) {σ : rS} {j : Nat}, rdL σ cs i = .inl j → j ≤ i + cs.length
  | [], i, σ, j, e => absurd (show Sum.inr σ = Sum.inl j from e) (by simp)
  | c :: cs, i, σ, j, e => by
    have e2 : (if c = 32 then rdL σ cs (i + 1) else match rdT σ c with | none => (Sum.inl i : Nat ⊕ rS) | some σ' => rdL σ' cs (i + 1)) = .inl j := e
    rw [List.length_cons]
    by_cases q : c = 32
    · rw [if_pos q] at e2
      have := rdL_i cs (i + 1) e2
      omega
    · rw [if_neg q] at e2
      cases e3 : rdT σ c with
      | none =>
        rw [e3] at e2
        have := Sum.inl.inj (show (Sum.inl i : Nat ⊕ rS) = Sum.inl j from e2)
        omega
      | some τ =>
        rw [e3] at e2
        have e4 : rdL τ cs (i + 1) = .inl j := e2
        have := rdL_i cs (i + 1) e4
        omega
/-- a text as orders: a fault within it, or a grammar -/
theorem rd_or (T : List Nat) (Gr : Nat → List Nat) (hl : T.length ≤ 150) (hG : ∀ y, y < 9 → wfL (Gr y)) : (∃ j, j ≤ 150 ∧ rdW (rdL (0, 0, [], 0, 0, [], Gr, 0) T 0) T.length = some j) ∨ ∃ σ : rS, rdL (0, 0, [], 0, 0, [], Gr, 0) T 0 = .inr σ ∧ (σ.ph = 0 ∧ 0 < σ.ord) ∧ σ.ord < 2 ^ 20 ∧ ∀ y, y < 9 → wfL (σ.Gr y) := by
  cases e : rdL (0, 0, [], 0, 0, [], Gr, 0) T 0 with
  | inl j =>
    have := rdL_i T 0 e
    exact Or.inl ⟨j, by omega, rfl⟩
  | inr σ =>
    by_cases q : σ.ph = 0 ∧ 0 < σ.ord
    · refine Or.inr ⟨σ, rfl, q, ?_⟩
      obtain ⟨a, b⟩ := foI_L T 0 (σ := (0, 0, [], 0, 0, [], Gr, 0)) ⟨Nat.zero_le _, by show 0 < 2 ^ 20; decide, fun w => absurd w (show ¬ 1 ≤ 0 by decide)⟩ ⟨fun w => absurd w (show ¬ 1 ≤ 0 by decide), hG⟩ (by show 0 + T.length + 1 < 2 ^ 20; omega) e
      have b2 : σ.ord ≤ 0 + T.length := b
      exact ⟨by omega, a.2⟩
    · exact Or.inl ⟨T.length, hl, if_neg q⟩
