/-! One call on both sides, by the states behind it -/
section JT
variable {Z : Value → Prop} {μ1 μ2 : Nat} {a : List Value} {k : Nat} {v : aV} {h1 h2 : aH}
theorem JC.to (hk : k < 512) (z : Value) (hz : Z z) (mv : Nat → Bool) (h0 : mv 0 = false) (G : List (Nat × List Nat)) (A : sA) (v' : aV) (hG : G.length ≤ k + 1) (hI : sI G A v') (hle : VC v ≤ VC v' ∧ VS v ≤ VS v')
    (c1 : ∀ d, aSp (d + 51) μ1 a h1 mv (VC v' - VC v) (VS v' - VS v) (fun r h' => r = some z ∧ jI A v' h'))
    (c2 : ∀ d, aSp (d + 7) μ2 a h2 nomv 0 0 (fun r h' => r = some z ∧ gI A h')) : JC Z μ1 μ2 a k v h1 h2 := by
  obtain ⟨b1, b2⟩ := mvB_b hI.2.2.2.2.2 (by omega)
  exact ⟨v', z, mv, jI A v', gI A, ⟨hz, h0⟩, ⟨hle.1, hle.2, b1, b2⟩, c1, c2, fun _ _ q1 q2 => ⟨G, A, hG, hI, q1, q2⟩⟩
theorem JC.at (hk : k < 512) (z : Value) (hz : Z z) (mv : Nat → Bool) (h0 : mv 0 = false) (G : List (Nat × List Nat)) (A : sA) (hG : G.length ≤ k + 1) (hI : sI G A v)
    (c1 : ∀ d, aSp (d + 51) μ1 a h1 mv 0 0 (fun r h' => r = some z ∧ jI A v h'))
    (c2 : ∀ d, aSp (d + 7) μ2 a h2 nomv 0 0 (fun r h' => r = some z ∧ gI A h')) : JC Z μ1 μ2 a k v h1 h2 :=
  JC.to hk z hz mv h0 G A v hG hI ⟨Nat.le_refl _, Nat.le_refl _⟩ (fun d => by rw [Nat.sub_self, Nat.sub_self]; exact c1 d) c2
theorem sJ_of (h : sJ k v h1 h2) : ∃ (G : List (Nat × List Nat)) (a b e : Nat) (T : List Nat) (t0 : sC) (past : List sC) (tb : Nat → Int32) (s0 : aS) (w : Nat) (s : Nat → aS) (r0 : jR) (wa wb : Nat → Int32) (bk : jB) (PM : Nat → PS × MS) (gal gps grf gtx : Nat → Int32), G.length ≤ k ∧ (T.length ≤ 150 ∧ past.length ≤ 4 ∧ (∀ t ∈ gpF ([(8, [])], none) T, t ∈ G) ∧ scK G t0 ∧ (∀ t ∈ past, scK G t) ∧ mvB G (pT t0) v) ∧ h1 = jH ((a, b, e), (nI T.length, tb), s0, (nI past.length, nI w, s), r0, (v.2.1, wa, v.2.2, wb), bk) PM ∧ (txR tb T ∧ scJ s0 t0 ∧ w < 4 ∧ (∀ i t, past[i]? = some t → scJ (s ((w + 4 - i) % 4)) t) ∧ jY PM v.1) ∧ gHx gal gps (nI past.length) grf gtx (nI T.length) h2 ∧ (grf 0 = nI a ∧ grf 1 = nI b ∧ grf 2 = nI e) ∧ txR gtx T ∧ scG gal t0 ∧ ∀ i t, past[i]? = some t → scG (fun k => gps (464 * (past.length - 1 - i) + k)) t := by
  obtain ⟨G, ⟨⟨a, b, e⟩, T, t0, past⟩, hG, hI, ⟨tb, s0, w, s, r0, wa, wb, bk, PM, hj, a1, a2, a3, a4, a5⟩, gal, gps, grf, gtx, hg⟩ := h
  exact ⟨G, a, b, e, T, t0, past, tb, s0, w, s, r0, wa, wb, bk, PM, gal, gps, grf, gtx, hG, hI, hj, ⟨a1, a2, a3, a4, a5⟩, hg⟩
end JT
/-! Scenes kept -/
theorem scJ_sq {a b : aS} {t : sC} (h : SQ a b) (q : scJ b t) : scJ a t := by
  obtain ⟨h1, h2, h3⟩ := h
  obtain ⟨q1, q2, q3, q4, q5, q6⟩ := q
  refine ⟨fun x hx => (h1 x hx).trans (q1 x hx), q2, q3, by rw [h3]; exact q4, by rw [h3]; exact q5, fun i x hi => ?_⟩
  have : i < t.2.2.length := gget_lt hi
  rw [h2 i (by omega)]
  exact q6 i x hi
theorem scG_cg {g g' : Nat → Int32} {t : sC} (he : ∀ k, k < 464 → g' k = g k) (q : scG g t) : scG g' t := ⟨fun x hx => paL_cg hx (fun k hk => he k (by omega)) (q.1 x hx), rwG_cg he q.2⟩
theorem kp_len {α : Type} (t0 : α) (past : List α) : ((t0 :: past).take 4).length = min (past.length + 1) 4 := by
  rw [List.length_take, List.length_cons, Nat.min_comm]
theorem nxt4_lt {w : Nat} : nxt4 w < 4 := by
  unfold nxt4
  split <;> omega
theorem kp_get {α : Type} {t0 : α} {past : List α} {i : Nat} {t : α} (h : ((t0 :: past).take 4)[i]? = some t) : (i = 0 ∧ t = t0) ∨ ∃ j, i = j + 1 ∧ j + 1 < 4 ∧ past[j]? = some t := by
  rw [List.getElem?_take] at h
  split at h
  next q =>
    cases i with
    | zero => exact Or.inl ⟨rfl, (Option.some.inj (show some t0 = some t from h)).symm⟩
    | succ j => exact Or.inr ⟨j, rfl, q, h⟩
  · exact absurd h (by simp)
theorem kpJ {past : List sC} {t0 : sC} {s : Nat → aS} {w : Nat} {v' : aS} (hw : w < 4) (h0 : scJ v' t0) (h : ∀ i t, past[i]? = some t → scJ (s ((w + 4 - i) % 4)) t) : ∀ i t, ((t0 :: past).take 4)[i]? = some t → scJ (updS s (nxt4 w) v' ((nxt4 w + 4 - i) % 4)) t := by
  intro i t e
  rcases kp_get e with ⟨rfl, rfl⟩ | ⟨j, rfl, hj, e2⟩
  · have : (nxt4 w + 4 - 0) % 4 = nxt4 w := by
      have := nxt4_lt (w := w)
      omega
    rw [this]
    unfold updS
    rw [if_pos rfl]
    exact h0
  · have e3 : (nxt4 w + 4 - (j + 1)) % 4 = (w + 4 - j) % 4 := by
      unfold nxt4
      split <;> omega
    have e4 : ¬ (nxt4 w + 4 - (j + 1)) % 4 = nxt4 w := by
      unfold nxt4
      split <;> omega
    unfold updS
    rw [if_neg e4, e3]
    exact h j t e2
theorem c1N_min {c : Nat} (hc : c ≤ 4) : c1N c = min (c + 1) 4 := by
  unfold c1N
  split <;> omega
theorem kpG {past : List sC} {t0 : sC} {gps gps' gal : Nat → Int32} (hc : past.length ≤ 4) (hk : kpR gps gps' gal past.length) (h0 : scG gal t0) (h : ∀ i t, past[i]? = some t → scG (fun k => gps (464 * (past.length - 1 - i) + k)) t) : ∀ i t, ((t0 :: past).take 4)[i]? = some t → scG (fun k => gps' (464 * (((t0 :: past).take 4).length - 1 - i) + k)) t := by
  intro i t e
  rw [kp_len, ← c1N_min hc]
  rcases kp_get e with ⟨rfl, rfl⟩ | ⟨j, rfl, hj, e2⟩
  · exact scG_cg (fun k hk2 => hk.1 k hk2) h0
  · have hl : j < past.length := (List.getElem?_eq_some_iff.mp e2).1
    have e3 : c1N past.length - 1 - (j + 1) + (if past.length = 4 then 1 else 0) = past.length - 1 - j := by
      unfold c1N
      split <;> omega
    have e4 : c1N past.length - 1 - (j + 1) + 1 < c1N past.length := by
      unfold c1N
      split <;> omega
    refine scG_cg (fun k hk2 => ?_) (h j t e2)
    have := hk.2 _ e4 k hk2
    rw [e3] at this
    exact this
theorem kp_mem {G : List (Nat × List Nat)} {t0 : sC} {past : List sC} (h0 : scK G t0) (h : ∀ t ∈ past, scK G t) : ∀ t ∈ (t0 :: past).take 4, scK G t := fun t ht => by
  rcases List.mem_cons.mp (List.mem_of_mem_take ht) with q | q
  · rw [q]
    exact h0
  · exact h t q
theorem kp_le {α : Type} (t0 : α) (past : List α) : ((t0 :: past).take 4).length ≤ 4 := by
  rw [kp_len]
  omega
section KP
variable {a b e : Nat} {T : List Nat} {t0 t : sC} {past : List sC}
theorem jI_kp {tb : Nat → Int32} {s1 v' : aS} {w : Nat} {s : Nat → aS} {r0 : jR} {wa wb : Nat → Int32} {bk : jB} {PM : Nat → PS × MS} {v : aV} (a1 : txR tb T) (hsc : scJ s1 t) (hw : w < 4) (h0 : scJ v' t0) (a4 : ∀ i t, past[i]? = some t → scJ (s ((w + 4 - i) % 4)) t) (hy : jY PM v.1) : jI ((a, b, e), T, t, (t0 :: past).take 4) v (jH ((a, b, e), (nI T.length, tb), s1, (nI (min (past.length + 1) 4), nI (nxt4 w), updS s (nxt4 w) v'), r0, (v.2.1, wa, v.2.2, wb), bk) PM) :=
  ⟨tb, s1, nxt4 w, updS s (nxt4 w) v', r0, wa, wb, bk, PM, by
    show _ = jH ((a, b, e), (nI T.length, tb), s1, (nI ((t0 :: past).take 4).length, nI (nxt4 w), updS s (nxt4 w) v'), r0, (v.2.1, wa, v.2.2, wb), bk) PM
    rw [kp_len], a1, hsc, nxt4_lt, kpJ hw h0 a4, hy⟩
theorem gI_kp {gal gal' gps gps' grf gtx : Nat → Int32} {h' : aH} (hx : gHx gal' gps' (nI (c1N past.length)) grf gtx (nI T.length) h') (hc : past.length ≤ 4) (hr : grf 0 = nI a ∧ grf 1 = nI b ∧ grf 2 = nI e) (ht : txR gtx T) (hs : scG gal' t) (h0 : scG gal t0) (hp : ∀ i t, past[i]? = some t → scG (fun k => gps (464 * (past.length - 1 - i) + k)) t) (hk : kpR gps gps' gal past.length) : gI ((a, b, e), T, t, (t0 :: past).take 4) h' := by
  refine ⟨gal', gps', grf, gtx, ?_, hr, ht, hs, kpG hc hk h0 hp⟩
  show gHx gal' gps' (nI ((t0 :: past).take 4).length) grf gtx (nI T.length) h'
  rw [kp_len, ← c1N_min hc]
  exact hx
end KP
theorem txR_app {tb : Nat → Int32} {T : List Nat} {c : Nat} (h : txR tb T) (hc : c < 128) : txR (upd tb T.length (nI c)) (T ++ [c]) := by
  intro i y hi
  rcases Nat.lt_trichotomy i T.length with z | z | z
  · rw [List.getElem?_append_left z] at hi
    rw [upd_n (by omega)]
    exact h i y hi
  · subst z
    rw [List.getElem?_append_right (Nat.le_refl _), Nat.sub_self] at hi
    have : c = y := Option.some.inj hi
    rw [upd_s, this]
    exact ⟨rfl, by omega⟩
  · rw [List.getElem?_eq_none (by rw [List.length_append, List.length_singleton]; omega)] at hi
    exact absurd hi (by simp)
theorem tl_eq {grf : Nat → Int32} {gtl gst : Int32} {a b e : Nat} (J : jS) (h : grf 0 = nI a ∧ grf 1 = nI b ∧ grf 2 = nI e) (e1 : J.1 = (a, b, e)) (e2 : J.2.1.1 = gtl) (e3 : J.2.2.2.1.1 = gst) {w : Nat} (hw : w < 5) : tlA J w = tlG grf gtl gst w := by
  have h5 : w = 0 ∨ w = 1 ∨ w = 2 ∨ w = 3 ∨ w = 4 := by omega
  unfold tlA tlG
  rcases h5 with rfl | rfl | rfl | rfl | rfl
  · rw [if_pos rfl, if_pos (by decide), h.1, e1]
  · rw [if_neg (by decide), if_pos rfl, if_pos (by decide), h.2.1, e1]
  · rw [if_neg (by decide), if_neg (by decide), if_pos rfl, if_pos (by decide), h.2.2, e1]
  · rw [if_neg (by decide), if_neg (by decide), if_neg (by decide), if_pos rfl, if_neg (by decide), if_pos rfl, e2]
  · rw [if_neg (by decide), if_neg (by decide), if_neg (by decide), if_neg (by decide), if_neg (by decide), if_neg (by decide), e3]
/-! Costs of what changes machines -/
theorem ct_cost {x n : Nat} (hx : x < 9) (v : aV) (h : okN (v.1 x)) : tC (ctN n (v.1 x, v.2)) - tC (v.1 x, v.2) = VC (ctW x n v) - VC v ∧ tS (ctN n (v.1 x, v.2)) - tS (v.1 x, v.2) = VS (ctW x n v) - VS v := by
  obtain ⟨a1, a2, -⟩ := ctN_le (n := n) (τ := (v.1 x, v.2)) h
  have f1 := fY_upd (f := yS) (ν := v.1) hx (ctN n (v.1 x, v.2)).1
  have f2 := fY_upd (f := yC) (ν := v.1) hx (ctN n (v.1 x, v.2)).1
  unfold tS at a1 ⊢
  unfold tC at a2 ⊢
  dsimp only at a1 a2 ⊢
  constructor
  · show _ = (fY yC (upN v.1 x (ctN n (v.1 x, v.2)).1) + (ctN n (v.1 x, v.2)).2.1 + (ctN n (v.1 x, v.2)).2.2) - (fY yC v.1 + v.2.1 + v.2.2)
    omega
  · show _ = (fY yS (upN v.1 x (ctN n (v.1 x, v.2)).1) + 2 * (ctN n (v.1 x, v.2)).2.1 + 2 * (ctN n (v.1 x, v.2)).2.2) - (fY yS v.1 + 2 * v.2.1 + 2 * v.2.2)
    omega
theorem ν_cost (ν : Nat → aN) (v : aV) : VC (ν, v.2) - VC v = fY yC ν - fY yC v.1 ∧ VS (ν, v.2) - VS v = fY yS ν - fY yS v.1 ∧ (fY yC v.1 ≤ fY yC ν → VC v ≤ VC (ν, v.2)) ∧ (fY yS v.1 ≤ fY yS ν → VS v ≤ VS (ν, v.2)) := by
  have e1 : VC (ν, v.2) = fY yC ν + v.2.1 + v.2.2 := rfl
  have e2 : VS (ν, v.2) = fY yS ν + 2 * v.2.1 + 2 * v.2.2 := rfl
  have e3 : VC v = fY yC v.1 + v.2.1 + v.2.2 := rfl
  have e4 : VS v = fY yS v.1 + 2 * v.2.1 + 2 * v.2.2 := rfl
  rw [e1, e2, e3, e4]
  refine ⟨?_, ?_, ?_, ?_⟩ <;> omega
theorem orV_o {ν : Nat → aN} {o w : Nat} {row : List Nat} (hw : w < 2) : orV ν o row w o = (rowA (ν o) 1 row).1 := by
  unfold orV
  rw [if_pos hw, upN_s]
theorem co_of {PM : Nat → PS × MS} {ν : Nat → aN} (hy : jY PM ν) : ∃ co : Nat → Nat → Int32, ∀ x, x < 9 → zR0 (PM x) (nZ (ν x) (co x)) := by
  have h : ∀ x, ∃ f : Nat → Int32, x < 9 → zR0 (PM x) (nZ (ν x) f) := fun x => by
    by_cases q : x < 9
    · obtain ⟨f, hf⟩ := yR_co (hy x q)
      exact ⟨f, fun _ => hf⟩
    · exact ⟨fun _ => 0, fun z => absurd z q⟩
  exact ⟨fun x => Classical.choose (h x), fun x hx => Classical.choose_spec (h x) hx⟩
theorem fwR_pt {PM PM' : Nat → PS × MS} {α : Nat → aZ} {pt pt' : Nat → Int64} (e : ∀ y, y < 9 → pt y = pt' y) (h : fwR PM PM' α pt 9) : fwR PM PM' α pt' 9 := ⟨fun y hy => by rw [← e y hy]; exact h.1 y hy, h.2⟩
theorem due_eq {p : Int64} (hp : okP p) {x : Nat} (hx : x < 8) (row : List Nat) : (trM (dT p) (rowM p 1 row)).testBit x = !(dltM (dG p) x (rowM p 1 row) == 0) := tr_due (dwf hp) (rowM_lt hp row 1 (one_lt hp)) hx
