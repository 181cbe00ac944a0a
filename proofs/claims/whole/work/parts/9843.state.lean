/-! The state of both sides -/
abbrev sC : Type := (Nat → List Nat) × Nat × List Nat
/-- refused, text, scene, past scenes (the newest first) -/
abbrev sA : Type := (Nat × Nat × Nat) × List Nat × sC × List sC
def pT (t : sC) : Nat → Int64 := fun x => lN (encN (t.1 x))
def scJ (s : aS) (t : sC) : Prop := (∀ x, x < 9 → s.1 x = pT t x) ∧ rwJ s t.2.1 t.2.2
def scG (g : Nat → Int32) (t : sC) : Prop := (∀ x, x < 9 → paL g x (t.1 x)) ∧ rwG g t.2.1 t.2.2
def scK (G : List (Nat × List Nat)) (t : sC) : Prop := (∀ x, x < 9 → okP (pT t x)) ∧ rowL (pT t t.2.1) 1 t.2.2 ∧ ∀ j, 1 ≤ j → j ≤ t.2.2.length → (t.2.1, t.2.2.take j) ∈ G
def jI (A : sA) (v : aV) (h : aH) : Prop := ∃ (tb : Nat → Int32) (s0 : aS) (w : Nat) (s : Nat → aS) (r0 : jR) (wa wb : Nat → Int32) (bk : jB) (PM : Nat → PS × MS), h = jH (A.1, (nI A.2.1.length, tb), s0, (nI A.2.2.2.length, nI w, s), r0, (v.2.1, wa, v.2.2, wb), bk) PM ∧ txR tb A.2.1 ∧ scJ s0 A.2.2.1 ∧ w < 4 ∧ (∀ i t, A.2.2.2[i]? = some t → scJ (s ((w + 4 - i) % 4)) t) ∧ jY PM v.1
def gI (A : sA) (h : aH) : Prop := ∃ (gal gps grf gtx : Nat → Int32), gHx gal gps (nI A.2.2.2.length) grf gtx (nI A.2.1.length) h ∧ (grf 0 = nI A.1.1 ∧ grf 1 = nI A.1.2.1 ∧ grf 2 = nI A.1.2.2) ∧ txR gtx A.2.1 ∧ scG gal A.2.2.1 ∧ ∀ i t, A.2.2.2[i]? = some t → scG (fun k => gps (464 * (A.2.2.2.length - 1 - i) + k)) t
def sI (G : List (Nat × List Nat)) (A : sA) (v : aV) : Prop := A.2.1.length ≤ 150 ∧ A.2.2.2.length ≤ 4 ∧ (∀ t ∈ gpF ([(8, [])], none) A.2.1, t ∈ G) ∧ scK G A.2.2.1 ∧ (∀ t ∈ A.2.2.2, scK G t) ∧ mvB G (pT A.2.2.1) v
def sJ (k : Nat) (v : aV) (h1 h2 : aH) : Prop := ∃ G A, G.length ≤ k ∧ sI G A v ∧ jI A v h1 ∧ gI A h2
/-- one call on both sides: equal answers, and what holds behind it -/
def JC (Z : Value → Prop) (μ1 μ2 : Nat) (a : List Value) (k : Nat) (v : aV) (h1 h2 : aH) : Prop := ∃ (v' : aV) (z : Value) (mv : Nat → Bool) (P1 P2 : aH → Prop), (Z z ∧ mv 0 = false) ∧ (VC v ≤ VC v' ∧ VS v ≤ VS v' ∧ VS v' ≤ 6475136 ∧ VC v' ≤ 367360) ∧ (∀ d, aSp (d + 51) μ1 a h1 mv (VC v' - VC v) (VS v' - VS v) (fun r h' => r = some z ∧ P1 h')) ∧ (∀ d, aSp (d + 7) μ2 a h2 nomv 0 0 (fun r h' => r = some z ∧ P2 h')) ∧ ∀ h1' h2', P1 h1' → P2 h2' → sJ (k + 1) v' h1' h2'
def zI (z : Value) : Prop := ∃ c, z = .int c
def zL (z : Value) : Prop := ∃ c, z = .long c
theorem in_or (c : Int32) {b : Nat} (hb : b < 2 ^ 31 - 1) : (inB c 0 b = false ∧ (c < nI 0 ∨ nI b < c) ∧ (c < nI 0 ∨ nI (b + 1) ≤ c)) ∨ ∃ k, k ≤ b ∧ c = nI k := by
  by_cases q1 : c < nI 0
  · exact Or.inl ⟨by unfold inB; rw [decide_eq_true q1]; rfl, Or.inl q1, Or.inl q1⟩
  · by_cases q2 : nI b < c
    · refine Or.inl ⟨by unfold inB; rw [decide_eq_true q2, Bool.and_comm]; rfl, Or.inr q2, Or.inr ?_⟩
      rw [Int32.le_iff_toInt_le, nI_toInt (by omega)]
      rw [Int32.lt_iff_toInt_lt, nI_toInt (by omega)] at q2
      omega
    · rw [Int32.lt_iff_toInt_lt, nI_toInt (by omega)] at q1 q2
      refine Or.inr ⟨c.toInt.toNat, by omega, ?_⟩
      apply Int32.toInt_inj.mp
      rw [nI_toInt (by omega)]
      omega
/-- no machine changes -/
theorem JC.same {Z : Value → Prop} {μ1 μ2 : Nat} {a : List Value} {k : Nat} {v : aV} {h1 h2 : aH} (mv : Nat → Bool) (h0 : mv 0 = false) (P1 P2 : aH → Prop) (z : Value) (hz : Z z) (hb : VS v ≤ 6475136 ∧ VC v ≤ 367360) (c1 : ∀ d, aSp (d + 51) μ1 a h1 mv 0 0 (fun r h' => r = some z ∧ P1 h')) (c2 : ∀ d, aSp (d + 7) μ2 a h2 nomv 0 0 (fun r h' => r = some z ∧ P2 h')) (hn : ∀ h1' h2', P1 h1' → P2 h2' → sJ (k + 1) v h1' h2') : JC Z μ1 μ2 a k v h1 h2 := by
  refine ⟨v, z, mv, P1, P2, ⟨hz, h0⟩, ⟨Nat.le_refl _, Nat.le_refl _, hb⟩, fun d => ?_, c2, hn⟩
  rw [Nat.sub_self, Nat.sub_self]
  exact c1 d
theorem rfG_s (g : Nat → Int32) (k a : Nat) (h : g k = nI a) : rfG g k k = nI (a + 1) := by
  unfold rfG
  rw [upd_s, h, z_add]
theorem rfG_n (g : Nat → Int32) {k j : Nat} (h : j ≠ k) : rfG g k j = g j := upd_n h
def rA0 (A : sA) : sA := ((A.1.1 + 1, A.1.2.1, A.1.2.2), A.2)
def rA1 (A : sA) : sA := ((A.1.1, A.1.2.1 + 1, A.1.2.2), A.2)
def rA2 (A : sA) : sA := ((A.1.1, A.1.2.1, A.1.2.2 + 1), A.2)
section ST
variable {A : sA} {v : aV} {gal gps grf gtx : Nat → Int32}
/-- the model's lasting pieces tell the state -/
def gK (A : sA) (gal gps grf gtx : Nat → Int32) : Prop := (grf 0 = nI A.1.1 ∧ grf 1 = nI A.1.2.1 ∧ grf 2 = nI A.1.2.2) ∧ txR gtx A.2.1 ∧ scG gal A.2.2.1 ∧ ∀ i t, A.2.2.2[i]? = some t → scG (fun k => gps (464 * (A.2.2.2.length - 1 - i) + k)) t
theorem gK_0 (h : gK A gal gps grf gtx) : gK (rA0 A) gal gps (rfG grf 0) gtx := ⟨⟨rfG_s _ _ _ h.1.1, (rfG_n _ (by decide)).trans h.1.2.1, (rfG_n _ (by decide)).trans h.1.2.2⟩, h.2⟩
theorem gK_1 (h : gK A gal gps grf gtx) : gK (rA1 A) gal gps (rfG grf 1) gtx := ⟨⟨(rfG_n _ (by decide)).trans h.1.1, rfG_s _ _ _ h.1.2.1, (rfG_n _ (by decide)).trans h.1.2.2⟩, h.2⟩
theorem gK_2 (h : gK A gal gps grf gtx) : gK (rA2 A) gal gps (rfG grf 2) gtx := ⟨⟨(rfG_n _ (by decide)).trans h.1.1, (rfG_n _ (by decide)).trans h.1.2.1, rfG_s _ _ _ h.1.2.2⟩, h.2⟩
/-- the class's pieces tell the state -/
def jK (A : sA) (v : aV) (J : jS) (PM : Nat → PS × MS) : Prop := ∃ w, J.1 = A.1 ∧ J.2.1.1 = nI A.2.1.length ∧ txR J.2.1.2 A.2.1 ∧ scJ J.2.2.1 A.2.2.1 ∧ w < 4 ∧ J.2.2.2.1.1 = nI A.2.2.2.length ∧ J.2.2.2.1.2.1 = nI w ∧ (∀ i t, A.2.2.2[i]? = some t → scJ (J.2.2.2.1.2.2 ((w + 4 - i) % 4)) t) ∧ (J.2.2.2.2.2.1.1 = v.2.1 ∧ J.2.2.2.2.2.1.2.2.1 = v.2.2) ∧ jY PM v.1
theorem jI_of {h : aH} (q : jI A v h) : ∃ J PM, h = jH J PM ∧ jK A v J PM := by
  obtain ⟨tb, s0, w, s, r0, wa, wb, bk, PM, rfl, a1, a2, a3, a4, a5⟩ := q
  exact ⟨_, _, rfl, w, rfl, rfl, a1, a2, a3, rfl, rfl, a4, ⟨rfl, rfl⟩, a5⟩
theorem jI_mk {J : jS} {PM : Nat → PS × MS} (q : jK A v J PM) : jI A v (jH J PM) := by
  obtain ⟨j1, ⟨t1, t2⟩, j3, ⟨p1, p2, p3⟩, j5, ⟨na, wa, nb, wb⟩, j7⟩ := J
  obtain ⟨w, e1, e2, a1, a2, a3, e3, e4, a4, ⟨e5, e6⟩, a5⟩ := q
  dsimp only at *
  subst e1 e2 e3 e4 e5 e6
  exact ⟨t2, j3, w, p3, j5, wa, wb, j7, PM, rfl, a1, a2, a3, a4, a5⟩
theorem sI_G {G G' : List (Nat × List Nat)} (h : sI G A v) (hs : ∀ t ∈ G, t ∈ G') : sI G' A v := by
  obtain ⟨a1, a2, a3, ⟨b1, b2, b3⟩, a5, a6⟩ := h
  exact ⟨a1, a2, fun t ht => hs t (a3 t ht), ⟨b1, b2, fun j q1 q2 => hs _ (b3 j q1 q2)⟩, fun t ht => by
    obtain ⟨c1, c2, c3⟩ := a5 t ht
    exact ⟨c1, c2, fun j q1 q2 => hs _ (c3 j q1 q2)⟩, mvB_mono a6 hs⟩
end ST
