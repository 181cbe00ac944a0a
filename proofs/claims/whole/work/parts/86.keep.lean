/-! ResidualJudge: the past, the scene, among all cells -/
abbrev jsK : List Nat := [6, 7, 8, 9, 10, 11, 12, 13, 14, 15, 16, 17, 18, 19, 3, 4, 5]
theorem pF_ren : (fun i => (pF 2 i).map (sg jsK 193)) = pF 8 := by
  funext i
  unfold pF
  by_cases q : i < 4
  · rw [if_pos q, if_pos q]
    have h4 : i = 0 ∨ i = 1 ∨ i = 2 ∨ i = 3 := by omega
    rcases h4 with rfl | rfl | rfl | rfl <;> rfl
  · rw [if_neg q, if_neg q]
    rfl
theorem paY_ren (cnt nw : Int32) (s : Nat → aS) (v : aS) : (paY cnt nw s v).map (renc (sg jsK 193)) = [.inr (4, [.ref 7, .int cnt, .int nw]), .inl (4, 4, .inr (.inr (.inr (.inr (pF 8))))),
  .inr (7, [.ref 9, .ref 10, .int (s 0).2.2.1, .int (s 0).2.2.2]), .inl (2, 9, .inr (.inl (s 0).1)), .inl (1, 20, .inl (s 0).2.1),
  .inr (7, [.ref 12, .ref 13, .int (s 1).2.2.1, .int (s 1).2.2.2]), .inl (2, 9, .inr (.inl (s 1).1)), .inl (1, 20, .inl (s 1).2.1),
  .inr (7, [.ref 15, .ref 16, .int (s 2).2.2.1, .int (s 2).2.2.2]), .inl (2, 9, .inr (.inl (s 2).1)), .inl (1, 20, .inl (s 2).2.1),
  .inr (7, [.ref 18, .ref 19, .int (s 3).2.2.1, .int (s 3).2.2.2]), .inl (2, 9, .inr (.inl (s 3).1)), .inl (1, 20, .inl (s 3).2.1),
  .inr (7, [.ref 4, .ref 5, .int v.2.2.1, .int v.2.2.2]), .inl (2, 9, .inr (.inl v.1)), .inl (1, 20, .inl v.2.1)] := by
  show _ :: Sum.inl (4, 4, Sum.inr (Sum.inr (Sum.inr (Sum.inr (fun i => (pF 2 i).map (sg jsK 193)))))) :: _ = _
  rw [pF_ren]
  rfl
theorem jK_m (J : jS) (PM : Nat → PS × MS) : jsK.map (hget (jH J PM)) = (paY J.2.2.2.1.1 J.2.2.2.1.2.1 J.2.2.2.1.2.2 J.2.2.1).map (fun c => some (renc (sg jsK (jH J PM).length) c)) := by
  have e : (paY J.2.2.2.1.1 J.2.2.2.1.2.1 J.2.2.2.1.2.2 J.2.2.1).map (fun c => some (renc (sg jsK (jH J PM).length) c)) = ((paY J.2.2.2.1.1 J.2.2.2.1.2.1 J.2.2.2.1.2.2 J.2.2.1).map (renc (sg jsK (jH J PM).length))).map some := by
    rw [List.map_map]
    rfl
  rw [e, jH_len, paY_ren]
  rfl
theorem jK_g (J : jS) (PM : Nat → PS × MS) (cnt nw : Int32) (s : Nat → aS) (v : aS) : mrg (sg jsK (jH J PM).length) (jH J PM) jsK (paY cnt nw s v) = jH (J.1, J.2.1, v, (cnt, nw, s), J.2.2.2.2) PM := by
  rw [jH_len]
  have h := paY_ren cnt nw s v
  simp only [paY, List.map_cons, List.map_nil, List.cons.injEq, and_true] at h
  obtain ⟨h0, h1, h2, h3, h4, h5, h6, h7, h8, h9, h10, h11, h12, h13, h14, h15, h16⟩ := h
  simp only [paY, mrg, h0, h1, h2, h3, h4, h5, h6, h7, h8, h9, h10, h11, h12, h13, h14, h15, h16, List.map_nil, List.append_nil]
  rfl
theorem J_keep (d c w : Nat) (J : jS) (PM : Nat → PS × MS) (hc : c ≤ 4) (hw : w < 4) (e1 : J.2.2.2.1.1 = nI c) (e2 : J.2.2.2.1.2.1 = nI w) : aSp (d + 2) 52 [.ref 6, .ref 3] (jH J PM) nomv 0 0 (fun r h' => r = none ∧ ∃ v', h' = jH (J.1, J.2.1, J.2.2.1, (nI (min (c + 1) 4), nI (nxt4 w), updS J.2.2.2.1.2.2 (nxt4 w) v'), J.2.2.2.2) PM ∧ SQ v' J.2.2.1) := by
  have hk := c_keep d c w J.2.2.2.1.2.2 J.2.2.1 hc hw
  rw [← e1, ← e2] at hk
  have hl := sp_lift hk (h := jH J PM) jsK rfl (jK_m J PM) (by decide) (fun j cc q _ => by rw [mvs_nomv]; exact okH_get (okH_jH J PM) q) (fun r hc' q => by
    obtain ⟨-, v', rfl, -⟩ := q
    exact Nat.le_refl _)
  rw [mvs_nomv] at hl
  refine sp_weaken hl ?_
  rintro r h' ⟨r0, hc', ⟨rfl, v', rfl, hq⟩, rfl, rfl⟩
  exact ⟨rfl, v', jK_g J PM _ _ _ _, hq⟩
theorem J_restore (d c w : Nat) (J : jS) (PM : Nat → PS × MS) (hc : c < 4) (hw : w < 4) (e1 : J.2.2.2.1.1 = nI (c + 1)) (e2 : J.2.2.2.1.2.1 = nI w) : aSp (d + 2) 96 [.ref 6, .ref 3] (jH J PM) nomv 0 0 (fun r h' => r = none ∧ ∃ v', h' = jH (J.1, J.2.1, v', (nI c, nI (prv4 w), J.2.2.2.1.2.2), J.2.2.2.2) PM ∧ SQ v' (J.2.2.2.1.2.2 w)) := by
  have hk := c_restore d c w J.2.2.2.1.2.2 J.2.2.1 hc hw
  rw [← e1, ← e2] at hk
  have hl := sp_lift hk (h := jH J PM) jsK rfl (jK_m J PM) (by decide) (fun j cc q _ => by rw [mvs_nomv]; exact okH_get (okH_jH J PM) q) (fun r hc' q => by
    obtain ⟨-, v', rfl, -⟩ := q
    exact Nat.le_refl _)
  rw [mvs_nomv] at hl
  refine sp_weaken hl ?_
  rintro r h' ⟨r0, hc', ⟨rfl, v', rfl, hq⟩, rfl, rfl⟩
  exact ⟨rfl, v', jK_g J PM _ _ _ _, hq⟩
theorem J_emptyRow (d : Nat) (J : jS) (PM : Nat → PS × MS) (x : Int32) : aSp d 54 [.ref 3, .int x] (jH J PM) nomv 0 0 (fun r h' => r = none ∧ h' = jH (J.1, J.2.1, (J.2.2.1.1, J.2.2.1.2.1, nI 0, x), J.2.2.2) PM) := by
  have hk := c_emptyRow d J.2.2.1.1 J.2.2.1.2.1 J.2.2.1.2.2.1 J.2.2.1.2.2.2 x
  have hl := sp_lift hk (h := jH J PM) [3, 4, 5] rfl rfl (by decide) (fun j cc q _ => by rw [mvs_nomv]; exact okH_get (okH_jH J PM) q) (fun r hc' q => by
    obtain ⟨-, rfl⟩ := q
    exact Nat.le_refl _)
  rw [mvs_nomv] at hl
  refine sp_weaken hl ?_
  rintro r h' ⟨r0, hc', ⟨rfl, rfl⟩, rfl, rfl⟩
  refine ⟨rfl, ?_⟩
  simp only [jH, jF, sX, List.cons_append, List.nil_append, mrg, hset, renc, trv, tra, sg, List.map_cons, List.map_nil, List.append_nil]
theorem J_addToRow (d : Nat) (J : jS) (PM : Nat → PS × MS) (len : Nat) (x : Int32) (hl0 : len < 20) (e1 : J.2.2.1.2.2.1 = nI len) : aSp d 93 [.ref 3, .int x] (jH J PM) nomv 0 0 (fun r h' => r = none ∧ h' = jH (J.1, J.2.1, (J.2.2.1.1, upd J.2.2.1.2.1 len x, nI (len + 1), J.2.2.1.2.2.2), J.2.2.2) PM) := by
  have hk := c_addToRow d J.2.2.1.1 J.2.2.1.2.1 len J.2.2.1.2.2.2 x hl0
  rw [← e1] at hk
  have hl := sp_lift hk (h := jH J PM) [3, 4, 5] rfl rfl (by decide) (fun j cc q _ => by rw [mvs_nomv]; exact okH_get (okH_jH J PM) q) (fun r hc' q => by
    obtain ⟨-, rfl⟩ := q
    exact Nat.le_refl _)
  rw [mvs_nomv] at hl
  refine sp_weaken hl ?_
  rintro r h' ⟨r0, hc', ⟨rfl, rfl⟩, rfl, rfl⟩
  refine ⟨rfl, ?_⟩
  simp only [jH, jF, sX, List.cons_append, List.nil_append, mrg, hset, renc, trv, tra, sg, List.map_cons, List.map_nil, List.append_nil]
