/-! ResidualJudge.reads -/
theorem m10_le : ∀ i, i < 151 → ¬ (-10 : Int32) < -10 - nI i := by decide +kernel
theorem m10_lt {a : Nat} (ha : a < 2 ^ 31) : (-10 : Int32) < nI a := by
  rw [Int32.lt_iff_toInt_lt, nI_toInt ha, show ((-10 : Int32)).toInt = -10 by decide]
  omega
def jrQ (q : Nat ⊕ rS) (len : Nat) (J : jS) (PM : Nat → PS × MS) (r : Option Value) (h' : aH) : Prop := match q with
  | .inl i => r = some (.int (-10 - nI i)) ∧ ∃ rd : jR, h' = jH (J.1, J.2.1, J.2.2.1, J.2.2.2.1, rd, J.2.2.2.2.2) PM
  | .inr σ => r = some (.int (if σ.ph = 0 ∧ 0 < σ.ord then nI σ.ord else -10 - nI len)) ∧ ∃ pts wt w o nd k pat own, rdR (rX pts wt w o nd k pat own (nI σ.ph) (nI σ.ord)) σ ∧ h' = jH (J.1, J.2.1, J.2.2.1, J.2.2.2.1, (pts, wt, w, o, nd, k, pat, own, nI σ.ph, nI σ.ord), J.2.2.2.2.2) PM
theorem jR_g (J : jS) (PM : Nat → PS × MS) (N : Nat) (pts : Nat → Int64) (wt : Nat → Int32) (w o nd k : Int32) (pat : Int64) (own ph ord : Int32) (len : Nat) (e : J.2.1.1 = nI len) : mrg (sg [20, 21, 22, 1, 2, 4] N) (jH J PM) [20, 21, 22, 1, 2, 4] (roX pts wt w o nd k pat own ph ord len J.2.1.2 J.2.2.1.1) = jH (J.1, J.2.1, J.2.2.1, J.2.2.2.1, (pts, wt, w, o, nd, k, pat, own, ph, ord), J.2.2.2.2.2) PM := by
  simp only [jH, jF, roX, List.cons_append, List.nil_append, mrg, hset, renc, trv, tra, sg, List.map_cons, List.map_nil, List.append_nil, e]
theorem J_read (d len : Nat) (T : List Nat) (J : jS) (PM : Nat → PS × MS) (Gr : Nat → List Nat) (e : J.2.1.1 = nI len) (hT : txR J.2.1.2 T) (hl : T.length = len) (hl2 : len ≤ 150) (hG : ∀ x, x < 9 → J.2.2.1.1 x = lN (encN (Gr x))) : aSp (d + 5) 37 [.ref 20, .ref 1, .ref 4] (jH J PM) nomv 0 0 (jrQ (rdL (0, 0, [], 0, 0, [], Gr, 0) T 0) len J PM) := by
  have hk := c_readOrders len J.2.1.2 J.2.2.1.1 T d J.2.2.2.2.1.1 J.2.2.2.2.1.2.1 J.2.2.2.2.1.2.2.1 J.2.2.2.2.1.2.2.2.1 J.2.2.2.2.1.2.2.2.2.1 J.2.2.2.2.1.2.2.2.2.2.1 J.2.2.2.2.1.2.2.2.2.2.2.1 J.2.2.2.2.1.2.2.2.2.2.2.2.1 J.2.2.2.2.1.2.2.2.2.2.2.2.2.1 J.2.2.2.2.1.2.2.2.2.2.2.2.2.2 Gr hT hl hl2 hG
  generalize rdL (0, 0, [], 0, 0, [], Gr, 0) T 0 = q at *
  have hpl : ∀ r hc', rdQ q len J.2.1.2 J.2.2.1.1 r hc' → 6 ≤ hc'.length := by
    intro r hc' hq
    cases q with
    | inl i =>
      obtain ⟨-, R, ⟨a1, a2, a3, a4, a5, a6, a7, a8, a9, a10, rfl⟩, rfl⟩ := hq
      exact Nat.le_refl _
    | inr σ =>
      obtain ⟨-, R, ⟨a1, a2, a3, a4, a5, a6, a7, a8, rfl, -⟩, rfl⟩ := hq
      exact Nat.le_refl _
  have hl := sp_lift hk (h := jH J PM) [20, 21, 22, 1, 2, 4] rfl (by
    simp only [jH, jF, roX, List.cons_append, List.nil_append, hget, renc, trv, tra, sg, List.map_cons, List.map_nil, e]) (by decide) (fun j cc q _ => by rw [mvs_nomv]; exact okH_get (okH_jH J PM) q) hpl
  rw [mvs_nomv] at hl
  refine sp_weaken hl ?_
  rintro r h' ⟨r0, hc', hq, rfl, rfl⟩
  cases q with
  | inl i =>
    obtain ⟨rfl, R, ⟨pts, wt, w, o, nd, k, pat, own, ph, ord, rfl⟩, rfl⟩ := hq
    exact ⟨rfl, (pts, wt, w, o, nd, k, pat, own, ph, ord), jR_g J PM _ pts wt w o nd k pat own ph ord len e⟩
  | inr σ =>
    obtain ⟨rfl, R, ⟨pts, wt, w, o, nd, k, pat, own, rfl, hx⟩, rfl⟩ := hq
    exact ⟨rfl, pts, wt, w, o, nd, k, pat, own, ⟨pts, wt, w, o, nd, k, pat, own, rfl, hx⟩, jR_g J PM _ pts wt w o nd k pat own _ _ len e⟩
