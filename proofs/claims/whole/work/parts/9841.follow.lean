/-! Machines that follow the grammar, by what they know -/
noncomputable def ldY (ν : aN) (p : Int64) : aN := (p, stA (dW p) ([], ν.2.1.2.1, ν.2.1.2.2) 1, max ν.2.2.1 (dS p), nmF (dK p) (dL p) (dN p) ν.2.2.2.1, -1)
noncomputable def fwN (ν : Nat → aN) (pt : Nat → Int64) : Nat → aN := fun x => if x < 9 then (if (ν x).1 = pt x then ν x else ldY (ν x) (pt x)) else ν x
theorem ld_st (W a b : Nat) : (stA W ([], a, b) 1).1 = [1] := by
  unfold stA
  rw [if_neg List.not_mem_nil]
  rfl
theorem yR_co {Z : PS × MS} {ν : aN} (h : yR Z ν) : ∃ co, zR0 Z (nZ ν co) := by
  obtain ⟨co, h1, -⟩ := h
  exact ⟨co, zR_0 h1⟩
theorem fw_yR {PM PM' : Nat → PS × MS} {ν : Nat → aN} {co : Nat → Nat → Int32} {pt : Nat → Int64} (hy : jY PM ν) (hf : fwR PM PM' (fun x => nZ (ν x) (co x)) pt 9) : jY PM' (fwN ν pt) := by
  intro x hx
  obtain ⟨f1, f2⟩ := hf.1 x hx
  unfold fwN
  rw [if_pos hx]
  by_cases q : (ν x).1 = pt x
  · rw [if_pos q, f1 q]
    exact hy x hx
  · rw [if_neg q]
    refine ⟨co x, f2 q, Or.inl rfl, ?_⟩
    show (stA (dW (pt x)) ([], (ν x).2.1.2.1, (ν x).2.1.2.2) 1).1[0]? = some 1
    rw [ld_st]
    rfl
theorem ld_le {ν : aN} {p : Int64} (hp : okP p) (h : okN ν) : yS ν ≤ yS (ldY ν p) ∧ yC ν ≤ yC (ldY ν p) := by
  have := ld_cost (α := nZ ν (fun _ => 0)) hp h.1 h.2.1
  have e1 : zS (nZ ν (fun _ => 0)) = yS ν := rfl
  have e2 : zS (ldA (nZ ν (fun _ => 0)) p) = yS (ldY ν p) := rfl
  have e3 : zC (nZ ν (fun _ => 0)) = yC ν := rfl
  have e4 : zC (ldA (nZ ν (fun _ => 0)) p) = yC (ldY ν p) := rfl
  omega
theorem fw_cost {ν : Nat → aN} {co : Nat → Nat → Int32} {pt : Nat → Int64} (hp : ∀ x, x < 9 → okP (pt x)) (h : ∀ x, x < 9 → okN (ν x)) : flS zS (fun x => nZ (ν x) (co x)) (fwA (fun x => nZ (ν x) (co x)) pt) 9 = fY yS (fwN ν pt) - fY yS ν ∧ flS zC (fun x => nZ (ν x) (co x)) (fwA (fun x => nZ (ν x) (co x)) pt) 9 = fY yC (fwN ν pt) - fY yC ν ∧ fY yS ν ≤ fY yS (fwN ν pt) ∧ fY yC ν ≤ fY yC (fwN ν pt) := by
  have hS : ∀ x, x < 9 → zS (fwA (fun x => nZ (ν x) (co x)) pt x) = yS (fwN ν pt x) ∧ zC (fwA (fun x => nZ (ν x) (co x)) pt x) = yC (fwN ν pt x) ∧ yS (ν x) ≤ yS (fwN ν pt x) ∧ yC (ν x) ≤ yC (fwN ν pt x) := by
    intro x hx
    unfold fwA fwN
    rw [if_pos hx]
    by_cases q : (ν x).1 = pt x
    · have q2 : (nZ (ν x) (co x)).1 = pt x := q
      simp only [if_pos q, if_pos q2]
      exact ⟨rfl, rfl, Nat.le_refl _, Nat.le_refl _⟩
    · have q2 : ¬ (nZ (ν x) (co x)).1 = pt x := q
      simp only [if_neg q, if_neg q2]
      obtain ⟨l1, l2⟩ := ld_le (hp x hx) (h x hx)
      exact ⟨rfl, rfl, l1, l2⟩
  have eS : ∀ x, zS (nZ (ν x) (co x)) = yS (ν x) := fun x => rfl
  have eC : ∀ x, zC (nZ (ν x) (co x)) = yC (ν x) := fun x => rfl
  obtain ⟨a0, b0, c0, d0⟩ := hS 0 (by decide)
  obtain ⟨a1, b1, c1, d1⟩ := hS 1 (by decide)
  obtain ⟨a2, b2, c2, d2⟩ := hS 2 (by decide)
  obtain ⟨a3, b3, c3, d3⟩ := hS 3 (by decide)
  obtain ⟨a4, b4, c4, d4⟩ := hS 4 (by decide)
  obtain ⟨a5, b5, c5, d5⟩ := hS 5 (by decide)
  obtain ⟨a6, b6, c6, d6⟩ := hS 6 (by decide)
  obtain ⟨a7, b7, c7, d7⟩ := hS 7 (by decide)
  obtain ⟨a8, b8, c8, d8⟩ := hS 8 (by decide)
  simp only [flS, a0, a1, a2, a3, a4, a5, a6, a7, a8, b0, b1, b2, b3, b4, b5, b6, b7, b8, eS, eC, fY]
  generalize yS (fwN ν pt 0) = s0 at *
  generalize yS (fwN ν pt 1) = s1 at *
  generalize yS (fwN ν pt 2) = s2 at *
  generalize yS (fwN ν pt 3) = s3 at *
  generalize yS (fwN ν pt 4) = s4 at *
  generalize yS (fwN ν pt 5) = s5 at *
  generalize yS (fwN ν pt 6) = s6 at *
  generalize yS (fwN ν pt 7) = s7 at *
  generalize yS (fwN ν pt 8) = s8 at *
  clear hS hp h
  refine ⟨?_, ?_, ?_, ?_⟩ <;> omega
/-- a machine's state within bounds, for rows gone through -/
def mcB (G : List (Nat × List Nat)) (pt : Nat → Int64) (ν : Nat → aN) : Prop := (∀ x, okN (ν x)) ∧ ∀ x, x < 9 → okP (pt x) ∧ (ν x).1 = pt x ∧ (ν x).2.2.2.1 ≤ 8192 ∧ knN (gO1 G x) (pt x) (ν x).2.1.1
theorem ld_okN {ν : aN} {p : Int64} (hp : okP p) (h : okN ν) : okN (ldY ν p) := by
  obtain ⟨a, b, -, -⟩ := h
  obtain ⟨w1, w4, -⟩ := wdN_ok (wf_sp (dwf hp) (show dN p - 1 < dN p by have := (dwf hp).1; omega))
  have := okA_s (α := (p, ([], ν.2.1.2.1, ν.2.1.2.2), ν.2.2.1, ν.2.2.2.1, -1, fun _ => 0)) ⟨a, b, w1, w4⟩ 1
  exact this
theorem mcB_fw {G : List (Nat × List Nat)} {pt pt' : Nat → Int64} {ν : Nat → aN} (h : mcB G pt ν) (hp : ∀ x, x < 9 → okP (pt' x)) : mcB G pt' (fwN ν pt') := by
  refine ⟨fun x => ?_, fun x hx => ?_⟩
  · unfold fwN
    split
    next hx =>
      split
      · exact h.1 x
      · exact ld_okN (hp x hx) (h.1 x)
    · exact h.1 x
  · obtain ⟨a, b, c, e⟩ := h.2 x hx
    unfold fwN
    rw [if_pos hx]
    by_cases q : (ν x).1 = pt' x
    · rw [if_pos q]
      refine ⟨hp x hx, q, c, ?_⟩
      rw [← q, b]
      exact e
    · rw [if_neg q]
      refine ⟨hp x hx, rfl, ?_, ?_⟩
      · have := nmF_b (dwf (hp x hx)) (ν x).2.2.2.1
        show nmF _ _ _ _ ≤ 8192
        omega
      · show knN _ _ (stA (dW (pt' x)) ([], (ν x).2.1.2.1, (ν x).2.1.2.2) 1).1
        rw [ld_st]
        exact knN_1
theorem mcB_mono {G G' : List (Nat × List Nat)} {pt : Nat → Int64} {ν : Nat → aN} (h : mcB G pt ν) (hs : ∀ t ∈ G, t ∈ G') : mcB G' pt ν := ⟨h.1, fun x hx => by
  obtain ⟨a, b, c, e⟩ := h.2 x hx
  exact ⟨a, b, c, knN_mono e (gO1_mono hs x)⟩⟩
theorem mcB_pt {G : List (Nat × List Nat)} {pt pt' : Nat → Int64} {ν : Nat → aN} (h : mcB G pt ν) (e : ∀ x, x < 9 → pt x = pt' x) : mcB G pt' ν := ⟨h.1, fun x hx => by rw [← e x hx]; exact h.2 x hx⟩
