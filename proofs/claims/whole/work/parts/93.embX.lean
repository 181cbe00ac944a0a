/-! Contracts over cells and one machine, lifted; Scene.standIn and Counter.count among all cells -/
theorem mHB_un (b : Nat) (Z : PS × MS) : (mHB b Z).map (renc (fun i => i - b)) = mH Z.1 Z.2 := by
  unfold mHB
  rw [List.map_map]
  have e : (renc (fun i => i - b) ∘ renc fun x => b + x) = renc (fun i => i) := by
    funext c
    show renc _ (renc _ c) = _
    rw [renc_renc]
    congr 1
    funext i
    omega
  rw [e]
  have e2 : (renc fun i => i) = id := by
    funext c
    exact renc_id c
  rw [e2, List.map_id]
theorem mHB_inj {b : Nat} {Z Z' : PS × MS} (h : mHB b Z = mHB b Z') : mH Z.1 Z.2 = mH Z'.1 Z'.2 := by
  rw [← mHB_un b Z, ← mHB_un b Z', h]
theorem blks_updZ {b b2 x : Nat} {PM : Nat → PS × MS} {Z Z' : PS × MS} (h : mHB b Z = mHB b Z') : blks b2 (updZ PM x Z) 9 = blks b2 (updZ PM x Z') 9 :=
  blks_congr 9 (fun y _ => by
    unfold updZ
    by_cases q : y = x
    · rw [if_pos q, if_pos q]
      exact mHB_inj h
    · rw [if_neg q, if_neg q])
theorem sp_embX {μ' d' mc' ms' : Nat} {F F2 : aH} {PM : Nat → PS × MS} {x : Nat} {avc : List Value} {mvc : Nat → Bool} {Postc : Option Value → aH → Prop}
    (hS : aSp d' μ' avc (F ++ mHB F.length (PM x)) mvc mc' ms' Postc) (hx : x < 9) (js0 : List Nat) (hlen : js0.length = F.length) (hnd : js0.Nodup) (hb : ∀ j ∈ js0, j < F2.length)
    (hm : js0.map (hget F2) = F.map (fun c => some (renc (sg (jsX js0 (F2.length + 18 * x)) (F2.length + 162)) c))) (hF : ∀ j c, hget F2 j = some c → j ∉ js0 → okC (F2.length + 162) (mvs mvc (jsX js0 (F2.length + 18 * x)) 0) c)
    (hr : ∀ r hc', Postc r hc' → ∃ F' Z', hc' = F' ++ mHB F.length Z' ∧ F'.length = F.length) :
    aSp d' μ' (avc.map (trv (sg (jsX js0 (F2.length + 18 * x)) (F2.length + 162)))) (F2 ++ blks F2.length PM 9) (mvs mvc (jsX js0 (F2.length + 18 * x)) 0) mc' ms' (fun r h' => ∃ r0 F' Z', Postc r0 (F' ++ mHB F.length Z') ∧ F'.length = F.length ∧ r = r0.map (trv (sg (jsX js0 (F2.length + 18 * x)) (F2.length + 162))) ∧ h' = mrg (sg (jsX js0 (F2.length + 18 * x)) (F2.length + 162)) F2 js0 F' ++ blks F2.length (updZ PM x Z') 9) := by
  have l1' : (F2 ++ blks F2.length PM 9).length = F2.length + 162 := fb_len F2 PM (nb := 9)
  have hl := sp_lift hS (h := F2 ++ blks F2.length PM 9) (jsX js0 (F2.length + 18 * x)) (by rw [jsX_len, List.length_append, mHB_len, hlen]) ?_ (jsX_nd hnd hb (by omega)) ?_ ?_
  · rw [l1'] at hl
    refine sp_weaken hl ?_
    rintro r h' ⟨r0, hc', q, rfl, rfl⟩
    obtain ⟨F', Z', rfl, h1⟩ := hr r0 hc' q
    exact ⟨r0, F', Z', q, h1, rfl, mrg_X hx hlen h1 hnd hb (fun i hi => by rw [← hlen]; exact jsX_sgB hi)⟩
  · rw [l1', List.map_append]
    show (js0 ++ _).map _ = _
    rw [List.map_append]
    congr 1
    · rw [← hm]
      apply List.map_congr_left
      intro j hj
      exact fb_getF F2 PM j (hb j hj)
    · have e : (mHB F.length (PM x)).map (fun c => some (renc (sg (jsX js0 (F2.length + 18 * x)) (F2.length + 162)) c)) = ((mHB F.length (PM x)).map (renc (sg (jsX js0 (F2.length + 18 * x)) (F2.length + 162)))).map some := by
        rw [List.map_map]
        rfl
      rw [e, mHB_ren (fun i hi => by rw [← hlen]; exact jsX_sgB hi)]
      apply List.ext_getElem?
      intro i
      rw [List.getElem?_map, List.getElem?_map]
      rcases Nat.lt_or_ge i 18 with z | z
      · have e3 : (jsB (F2.length + 18 * x))[i]? = some (F2.length + 18 * x + i) := by
          rw [List.getElem?_eq_getElem (by rw [jsB_len]; exact z), jsB_get]
        rw [e3, Option.map_some, fb_get F2 PM x i hx z, hget_eq]
        have hz : i < (mHB (F2.length + 18 * x) (PM x)).length := by rw [mHB_len]; exact z
        rw [List.getElem?_eq_getElem hz]
        rfl
      · rw [List.getElem?_eq_none (by rw [jsB_len]; exact z), List.getElem?_eq_none (by rw [mHB_len]; exact z)]
        rfl
  · intro j c hj hjn
    rw [l1']
    rcases Nat.lt_or_ge j F2.length with z | z
    · rw [fb_getF F2 PM j z] at hj
      exact hF j c hj (fun q => hjn (jsX_mem.mpr (Or.inl q)))
    · have hj2 := hget_lt hj
      rw [l1'] at hj2
      obtain ⟨y, i, hy, hi, rfl⟩ := fb_split (nb := 9) z hj2
      rw [fb_get F2 PM y i hy hi] at hj
      have hyx : y ≠ x := fun q => hjn (jsX_mem.mpr (Or.inr ⟨i, hi, by rw [q]⟩))
      refine okH_get (okC_mHB (by omega) (fun i2 hi2 => ?_) _) hj
      cases hc : mvs mvc (jsX js0 (F2.length + 18 * x)) 0 (F2.length + 18 * y + i2)
      · rfl
      · obtain ⟨k2, hk2, h1, h2⟩ := mvs_t _ _ _ hc
        have h3 : F2.length + 18 * y + i2 ∈ jsX js0 (F2.length + 18 * x) := by
          rw [← h1]
          exact List.getElem_mem _
        rcases jsX_mem.mp h3 with w | ⟨i3, hi3, e⟩
        · have := hb _ w
          omega
        · omega
  · intro r hc' q
    obtain ⟨F', Z', rfl, h1⟩ := hr r hc' q
    rw [List.length_append, List.length_append, mHB_len, mHB_len, h1]
    exact Nat.le_refl _
theorem mvs_X {mvc : Nat → Bool} {js0 : List Nat} {b j : Nat} (h : mvs mvc (jsX js0 b) 0 j = true) : (∃ k, ∃ hk : k < js0.length, js0[k] = j ∧ mvc k = true) ∨ ∃ i, i < 18 ∧ j = b + i ∧ mvc (js0.length + i) = true := by
  obtain ⟨k, hk, h1, h2⟩ := mvs_t _ _ _ h
  rw [Nat.zero_add] at h2
  rw [jsX_len] at hk
  rcases Nat.lt_or_ge k js0.length with z | z
  · refine Or.inl ⟨k, z, ?_, h2⟩
    rw [← h1]
    unfold jsX
    exact (List.getElem_append_left z).symm
  · obtain ⟨i, rfl⟩ : ∃ i, k = js0.length + i := ⟨k - js0.length, by omega⟩
    have hk2 : js0.length + i < (jsX js0 b).length := by rw [jsX_len]; omega
    have e2 : (jsX js0 b)[js0.length + i] = b + i := Option.some.inj ((List.getElem?_eq_getElem hk2).symm.trans (jsX_getB (by omega)))
    exact Or.inr ⟨i, by omega, by rw [← h1, e2], h2⟩
theorem mvI_blk {b x i : Nat} (hi : i < 18) (h0 : ¬ i = 0) : mvI b (b + 18 * x + i) = true := by
  unfold mvI
  simp only [Bool.and_eq_true, Nat.ble_eq, Bool.not_eq_true', beq_eq_false_iff_ne]
  omega
theorem mvI_0 {b x : Nat} : mvI b (b + 18 * x) = false := by
  unfold mvI
  simp only [Bool.and_eq_false_iff, Bool.not_eq_false', beq_iff_eq]
  omega
theorem J_standIn (d x : Nat) (hx : x < 9) (J : jS) (PM : Nat → PS × MS) (row : List Nat) (e1 : J.2.2.1.2.2.1 = nI row.length) (hrw : rwR J.2.2.1.2.1 row) (hl : row.length ≤ 20) (ν : aN) (hy : yR (PM x) ν) (hL : rowL ν.1 1 row) (hF14 : (rowA ν 1 row).1.2.1.1.length ≤ 2 ^ 14) :
    ∃ mv : Nat → Bool, (∀ j, mv j = true → mvI 31 j = true) ∧ aSp (d + 7) 91 [.ref 3, .ref (31 + 18 * x)] (jH J PM) mv (yC (rowA ν 1 row).1 - yC ν) (yS (rowA ν 1 row).1 - yS ν)
      (fun r h' => ∃ j Z', (rowA ν 1 row).1.2.1.1[j]? = some (rowA ν 1 row).2 ∧ r = some (.int (nI j)) ∧ h' = jH J (updZ PM x Z') ∧ yR Z' (rowA ν 1 row).1) := by
  have hk := c_standIn J.2.2.1.1 J.2.2.1.2.1 J.2.2.1.2.2.2 row d hrw hl ν (PM x) hy hL hF14
  have hI : ∀ j, mvs (mvI 3) (jsX [3, 4, 5] (31 + 18 * x)) 0 j = true → mvI 31 j = true := by
    intro j h
    rcases mvs_X h with ⟨k, hk, -, h2⟩ | ⟨i, hi, rfl, h2⟩
    · have hk' : k < 3 := hk
      have h3 : k = 0 ∨ k = 1 ∨ k = 2 := by omega
      rcases h3 with rfl | rfl | rfl <;> exact absurd h2 (by decide)
    · by_cases q : i = 0
      · subst q
        exact absurd h2 (by decide)
      · exact mvI_blk hi q
  have h2 := sp_embX (F := sX J.2.2.1.1 J.2.2.1.2.1 (nI row.length) J.2.2.1.2.2.2) (F2 := jF J) (PM := PM) hk hx [3, 4, 5] rfl (by decide) (show ∀ j ∈ [3, 4, 5], j < 31 by decide) (by rw [← e1]; rfl) (fun j c q _ => okC_mono hI (okH_get (okF_jF J) q)) (fun r hc' q => by
    obtain ⟨j, Z', -, -, rfl, -⟩ := q
    exact ⟨_, Z', rfl, rfl⟩)
  refine ⟨_, hI, sp_weaken h2 ?_⟩
  rintro r h' ⟨r0, F', Z', ⟨j, Z2, hj, rfl, e, hz⟩, hF', rfl, rfl⟩
  have e3 : F' = sX J.2.2.1.1 J.2.2.1.2.1 (nI row.length) J.2.2.1.2.2.2 := (List.append_inj e hF').1
  have e4 : mHB 3 Z' = mHB 3 Z2 := (List.append_inj e hF').2
  subst e3
  refine ⟨j, Z2, hj, rfl, ?_, hz⟩
  show mrg _ (jF J) [3, 4, 5] _ ++ blks 31 (updZ PM x Z') 9 = jF J ++ blks 31 (updZ PM x Z2) 9
  rw [blks_updZ e4, ← e1]
  rfl
theorem okC_cnt (J : jS) : ∀ j c, hget (jF J) j = some c → j ∉ [25, 26, 27] → okC 193 jv c := by
  have h1 : okH 193 jv (hset (jF J) 25 (.inr (6, []))) := ⟨rfl, rfl, trivial, rfl, trivial, trivial, rfl, fun i j hj => by
    obtain ⟨a1, a2⟩ := pF_okI i j hj
    refine ⟨a1, ?_⟩
    unfold pF at hj
    split at hj
    · have := Option.some.inj hj
      subst this
      simp only [jv, a2, Bool.or_false, Bool.or_eq_false_iff, beq_eq_false_iff_ne]
      omega
    · exact absurd hj (by simp), rfl, trivial, trivial, rfl, trivial, trivial, rfl, trivial, trivial, rfl, trivial, trivial, rfl, trivial, trivial, rfl, fun i j hj => by
    obtain ⟨a1, a2⟩ := aF_ok i j hj
    refine ⟨a1, ?_⟩
    unfold aF at hj
    split at hj
    · have := Option.some.inj hj
      subst this
      simp only [jv, a2, Bool.or_false, Bool.or_eq_false_iff, beq_eq_false_iff_ne]
      omega
    · exact absurd hj (by simp), rfl, trivial, trivial, rfl, trivial, trivial, trivial⟩
  intro j c q hj
  refine okH_get h1 (k := j) ?_
  have hj2 : j ≠ 25 := fun z => hj (by rw [z]; decide)
  rw [hget_eq, hset_eq, List.getElem?_set_ne (fun z => hj2 z.symm), ← hget_eq]
  exact q
theorem J_count (d x n : Nat) (hx : x < 9) (hn : n ≤ 6) (J : jS) (PM : Nat → PS × MS) (ν : aN) (hy : yR (PM x) ν) (hs : szT J.2.2.2.2.2.1.1 J.2.2.2.2.2.1.2.2.1) (hlen : (ctN n (ν, J.2.2.2.2.2.1.1, J.2.2.2.2.2.1.2.2.1)).1.2.1.1.length ≤ 2 ^ 14) :
    ∃ mv : Nat → Bool, (∀ j, mv j = true → jv j = true) ∧ aSp (d + 9) 65 [.ref 25, .ref (31 + 18 * x), .int (nI n)] (jH J PM) mv (tC (ctN n (ν, J.2.2.2.2.2.1.1, J.2.2.2.2.2.1.2.2.1)) - tC (ν, J.2.2.2.2.2.1.1, J.2.2.2.2.2.1.2.2.1)) (tS (ctN n (ν, J.2.2.2.2.2.1.1, J.2.2.2.2.2.1.2.2.1)) - tS (ν, J.2.2.2.2.2.1.1, J.2.2.2.2.2.1.2.2.1))
      (fun r h' => r = some (.int (nI (cntR ν.1 n))) ∧ ∃ wa' wb' Z', h' = jH (J.1, J.2.1, J.2.2.1, J.2.2.2.1, J.2.2.2.2.1, ((ctN n (ν, J.2.2.2.2.2.1.1, J.2.2.2.2.2.1.2.2.1)).2.1, wa', (ctN n (ν, J.2.2.2.2.2.1.1, J.2.2.2.2.2.1.2.2.1)).2.2, wb'), J.2.2.2.2.2.2) (updZ PM x Z') ∧ yR Z' (ctN n (ν, J.2.2.2.2.2.1.1, J.2.2.2.2.2.1.2.2.1)).1 ∧ szT (ctN n (ν, J.2.2.2.2.2.1.1, J.2.2.2.2.2.1.2.2.1)).2.1 (ctN n (ν, J.2.2.2.2.2.1.1, J.2.2.2.2.2.1.2.2.1)).2.2) := by
  have hk := y_count d n hn (Z := PM x) (ν, J.2.2.2.2.2.1.1, J.2.2.2.2.2.1.2.2.1) J.2.2.2.2.2.1.2.1 J.2.2.2.2.2.1.2.2.2 hy hs hlen
  generalize ctN n (ν, J.2.2.2.2.2.1.1, J.2.2.2.2.2.1.2.2.1) = τ' at *
  have hI : ∀ j, mvs mvC (jsX [25, 26, 27] (31 + 18 * x)) 0 j = true → jv j = true := by
    intro j h
    rcases mvs_X h with ⟨k, hk, h1, h2⟩ | ⟨i, hi, rfl, h2⟩
    · have hk' : k < 3 := hk
      have h3 : k = 0 ∨ k = 1 ∨ k = 2 := by omega
      rcases h3 with rfl | rfl | rfl
      · exact absurd h2 (by decide)
      · subst h1
        rfl
      · subst h1
        rfl
    · by_cases q : i = 0
      · subst q
        exact absurd h2 (by decide)
      · simp only [jv, mvI_blk hi q, Bool.or_true]
  have h2 := sp_embX (F := cF J.2.2.2.2.2.1.1 J.2.2.2.2.2.1.2.1 J.2.2.2.2.2.1.2.2.1 J.2.2.2.2.2.1.2.2.2) (F2 := jF J) (PM := PM) hk hx [25, 26, 27] rfl (by decide) (show ∀ j ∈ [25, 26, 27], j < 31 by decide) rfl (fun j c q q2 => okC_mono hI (okC_cnt J j c q q2)) (fun r hc' q => by
    obtain ⟨-, wa', wb', Z', rfl, -⟩ := q
    exact ⟨_, Z', rfl, rfl⟩)
  refine ⟨_, hI, sp_weaken h2 ?_⟩
  rintro r h' ⟨r0, F', Z', ⟨rfl, wa', wb', Z2, e, hz, hs'⟩, hF', rfl, rfl⟩
  have e3 : F' = cF τ'.2.1 wa' τ'.2.2 wb' := (List.append_inj e hF').1
  have e4 : mHB 3 Z' = mHB 3 Z2 := (List.append_inj e hF').2
  subst e3
  refine ⟨rfl, wa', wb', Z2, ?_, hz, hs'⟩
  show mrg _ (jF J) [25, 26, 27] _ ++ blks 31 (updZ PM x Z') 9 = _ ++ blks 31 (updZ PM x Z2) 9
  rw [blks_updZ e4]
  rfl
