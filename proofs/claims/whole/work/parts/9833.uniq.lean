/-! One number, one pattern -/
theorem un_K {p : Int64} {K lf K' lf' : Nat → Nat} {n n' : Nat} (h1 : encP p K n) (w1 : wfP K lf n) (h2 : encP p K' n') (w2 : wfP K' lf' n') : n = n' ∧ ∀ i, i < n → K i = K' i := by
  have hlt : ∀ {K lf K' lf' : Nat → Nat} {n n' : Nat}, encP p K n → wfP K lf n → encP p K' n' → wfP K' lf' n' → ¬ n < n' := by
    intro K lf K' lf' n n' h1 w1 h2 w2 q
    have h16 := w2.2.1
    have e1 := h1 n (by omega)
    have e2 := h2 n (by omega)
    rw [if_neg (Nat.lt_irrefl _)] at e1
    rw [if_pos q] at e2
    obtain ⟨k1, k2, -⟩ := w2.2.2.1 n q
    have := (nI_eq (by omega) (by decide)).mp (e2.symm.trans e1)
    omega
  have e : n = n' := by
    rcases Nat.lt_trichotomy n n' with q | q | q
    · exact absurd q (hlt h1 w1 h2 w2)
    · exact q
    · exact absurd q (hlt h2 w2 h1 w1)
  refine ⟨e, fun i hi => ?_⟩
  have h16 := w1.2.1
  have e1 := h1 i (by omega)
  have e2 := h2 i (by omega)
  rw [if_pos hi] at e1
  rw [if_pos (by omega)] at e2
  obtain ⟨k1, k2, -⟩ := w1.2.2.1 i hi
  obtain ⟨k3, k4, -⟩ := w2.2.2.1 i (by omega)
  exact (nI_eq (by omega) (by omega)).mp (e1.symm.trans e2)
theorem un_lf {K lf K' lf' : Nat → Nat} {n : Nat} (w1 : wfP K lf n) (w2 : wfP K' lf' n) (hK : ∀ i, i < n → K i = K' i) : ∀ i, i < n → pst K lf i = pst K' lf' i ∧ (10 ≤ K i → K i ≤ 12 → lf i = lf' i) := by
  intro i
  induction i using Nat.strongRecOn with
  | _ i ih =>
    intro hi
    have e := hK i hi
    rcases wf_cases w1 hi with q | q | ⟨q1, q2, q3, q4⟩ | ⟨q1, q2, q3, q4, q5, q6⟩
    · exact ⟨by rw [pst_leaf (by omega), pst_leaf (by omega)], fun w => by omega⟩
    · exact ⟨by rw [pst_leaf (by omega), pst_leaf (by omega)], fun w => by omega⟩
    · refine ⟨?_, fun _ w => by omega⟩
      rw [q4, pst_un (by omega) q3]
      exact (ih (i - 1) (by omega) (by omega)).1
    · obtain ⟨b1, b2, b3⟩ := wf_lf w2 hi (by omega) (by omega)
      have e1 := (ih (i - 1) (by omega) (by omega)).1
      have e2 : lf i = lf' i := by omega
      refine ⟨?_, fun _ _ => e2⟩
      rw [q6, pst_bin (K := K') (lf := lf') (by omega) (by omega) (by omega), ← e2]
      exact (ih (lf i) (by omega) (by omega)).1
theorem paL_P {g : Nat → Int32} {x : Nat} {L : List Nat} (h : paL g x L) : paP g x (lN (encN L)) := by
  obtain ⟨lf, ⟨p1, p2⟩, w⟩ := h
  have h16 := w.2.1
  have hm : ∀ y ∈ L, y < 16 := fun y hy => by
    obtain ⟨i, hi, e⟩ := List.mem_iff_getElem.mp hy
    have := (w.2.2.1 i hi).2.1
    have e2 : kL L i = L[i] := by
      unfold kL
      rw [List.getD_eq_getElem?_getD, List.getElem?_eq_getElem hi]
      rfl
    rw [e2, e] at this
    omega
  have henc : encP (lN (encN L)) (kL L) L.length := enc_nib hm h16
  have hok : okP (lN (encN L)) := ⟨(kL L, lf, L.length), henc, w⟩
  refine ⟨hok, ?_⟩
  obtain ⟨e1, e2⟩ := un_K henc w (denc hok) (dwf hok)
  have e3 := un_lf w (by rw [e1]; exact dwf hok) e2
  refine ⟨by rw [← e1]; exact p1, fun i hi => ?_⟩
  rw [← e1] at hi
  obtain ⟨a, b, c⟩ := p2 i hi
  rw [← e2 i hi]
  refine ⟨a, ?_, ?_⟩
  · rw [b]
    unfold lfV
    rw [← e2 i hi]
    split
    · rfl
    · split
      · rfl
      · rw [(e3 i hi).2 (by omega) (by omega)]
  · rw [c]
    unfold rtV
    rw [← e2 i hi]
theorem kL9 : wfP (kL [9]) (fun _ => 0) 1 := by
  refine ⟨by decide, by decide, fun i hi => ?_, ?_⟩
  · have : i = 0 := by omega
    subst this
    exact ⟨by decide, by decide, fun w => absurd w (by decide), fun w => absurd w (by decide)⟩
  · rw [pst_leaf (by decide)]
theorem emG_L {g : Nat → Int32} {x : Nat} (h : emG g x) : paL g x [9] := by
  obtain ⟨a, b, c, e⟩ := h
  refine ⟨fun _ => 0, ⟨a, fun i hi => ?_⟩, kL9⟩
  have : i = 0 := by
    have : i < 1 := hi
    omega
  subst this
  exact ⟨b, c, e⟩
theorem paL_cg {g g' : Nat → Int32} {x : Nat} {L : List Nat} (hx : x < 9) (he : ∀ k, k < 442 → g' k = g k) (h : paL g x L) : paL g' x L := by
  obtain ⟨lf, p, w⟩ := h
  exact ⟨lf, paR_cg hx w.2.1 he p, w⟩
theorem enc9 : lN (encN [9]) = lN 9 := rfl
