/-! Contracts over cells and machines, lifted -/
theorem sp_emb {μ' d' mc' ms' : Nat} {F F2 : aH} {PM : Nat → PS × MS} {avc : List Value} {mvc : Nat → Bool} {Postc : Option Value → aH → Prop}
    (hS : aSp d' μ' avc (F ++ blks F.length PM 9) mvc mc' ms' Postc) (js0 : List Nat) (hlen : js0.length = F.length) (hnd : js0.Nodup) (hb : ∀ j ∈ js0, j < F2.length)
    (hm : js0.map (hget F2) = F.map (fun c => some (renc (sg (jsE js0 F2.length) (F2.length + 162)) c))) (hF : okF 9 F2) (hmv : ∀ j, mvc j = true → mvI F.length j = true)
    (hr : ∀ r hc', Postc r hc' → ∃ F' PM', hc' = F' ++ blks F.length PM' 9 ∧ F'.length = F.length) :
    (∀ j, mvs mvc (jsE js0 F2.length) 0 j = true → mvI F2.length j = true) ∧ aSp d' μ' (avc.map (trv (sg (jsE js0 F2.length) (F2.length + 162)))) (F2 ++ blks F2.length PM 9) (mvs mvc (jsE js0 F2.length) 0) mc' ms' (fun r h' => ∃ r0 F' PM', Postc r0 (F' ++ blks F.length PM' 9) ∧ F'.length = F.length ∧ r = r0.map (trv (sg (jsE js0 F2.length) (F2.length + 162))) ∧ h' = mrg (sg (jsE js0 F2.length) (F2.length + 162)) F2 js0 F' ++ blks F2.length PM' 9) := by
  have l1' : (F2 ++ blks F2.length PM 9).length = F2.length + 162 := fb_len F2 PM (nb := 9)
  have hmI : ∀ j, mvs mvc (jsE js0 F2.length) 0 j = true → mvI F2.length j = true := by
    intro j h
    obtain ⟨k2, hk2, h1, h2⟩ := mvs_t _ _ _ h
    rw [Nat.zero_add] at h2
    have h3 := hmv k2 h2
    unfold mvI at h3
    simp only [Bool.and_eq_true, Nat.ble_eq, Bool.not_eq_true', beq_eq_false_iff_ne] at h3
    rw [jsE_len] at hk2
    obtain ⟨i, rfl⟩ : ∃ i, k2 = js0.length + i := ⟨k2 - js0.length, by omega⟩
    have e := jsE_getB (js0 := js0) (b2 := F2.length) (show i < 162 by omega)
    have hk3 : js0.length + i < (jsE js0 F2.length).length := by rw [jsE_len]; omega
    have e2 : (jsE js0 F2.length)[js0.length + i] = F2.length + i := Option.some.inj ((List.getElem?_eq_getElem hk3).symm.trans e)
    rw [← h1, e2]
    unfold mvI
    simp only [Bool.and_eq_true, Nat.ble_eq, Bool.not_eq_true', beq_eq_false_iff_ne]
    omega
  refine ⟨hmI, ?_⟩
  have hl := sp_lift hS (h := F2 ++ blks F2.length PM 9) (jsE js0 F2.length) (by rw [jsE_len, fb_len, hlen]) ?_ (jsE_nd hnd hb) ?_ ?_
  · rw [l1'] at hl
    refine sp_weaken hl ?_
    rintro r h' ⟨r0, hc', q, rfl, rfl⟩
    obtain ⟨F', PM', rfl, h1⟩ := hr r0 hc' q
    exact ⟨r0, F', PM', q, h1, rfl, mrg_E hlen h1 hnd hb (fun i hi => by rw [← hlen]; exact jsE_sgB hi)⟩
  · rw [l1', List.map_append]
    show (js0 ++ _).map _ = _
    rw [List.map_append]
    congr 1
    · rw [← hm]
      apply List.map_congr_left
      intro j hj
      exact fb_getF F2 PM j (hb j hj)
    · have e : (blks F.length PM 9).map (fun c => some (renc (sg (jsE js0 F2.length) (F2.length + 162)) c)) = ((blks F.length PM 9).map (renc (sg (jsE js0 F2.length) (F2.length + 162)))).map some := by
        rw [List.map_map]
        rfl
      rw [e, blks_ren 9 (fun i hi => by rw [← hlen]; exact jsE_sgB (by omega)), List.map_map]
      apply List.ext_getElem?
      intro i
      rw [List.getElem?_map, List.getElem?_map]
      rcases Nat.lt_or_ge i 162 with z | z
      · rw [List.getElem?_range z, Option.map_some]
        show some (hget (F2 ++ blks F2.length PM 9) (F2.length + i)) = _
        rw [hget_eq, List.getElem?_append_right (by omega), show F2.length + i - F2.length = i by omega]
        have hz : i < (blks F2.length PM 9).length := by rw [blks_len]; exact z
        rw [List.getElem?_eq_getElem hz]
        rfl
      · rw [List.getElem?_eq_none (by rw [List.length_range]; exact z), List.getElem?_eq_none (by rw [blks_len]; exact z)]
        rfl
  · intro j c hj hjn
    have hj2 : j < F2.length := by
      rcases Nat.lt_or_ge j F2.length with z | z
      · exact z
      · have := hget_lt hj
        rw [l1'] at this
        exact absurd (jsE_mem.mpr (Or.inr ⟨j - F2.length, by omega, by omega⟩)) hjn
    rw [fb_getF F2 PM j hj2] at hj
    rw [l1']
    exact okC_mono hmI (okH_get hF hj)
  · intro r hc' q
    obtain ⟨F', PM', rfl, h1⟩ := hr r hc' q
    rw [fb_len, List.length_append, blks_len, h1]
    exact Nat.le_refl _
/-! Machines.follow among all cells -/
abbrev sgW : Nat → Nat := sg (jsE [23, 24, 4] 31) 193
theorem aF_renW : (fun i => (aF 3 i).map sgW) = aF 31 := aF_ren rfl
theorem fF_ren (pt : Nat → Int64) : (fF pt).map (renc sgW) = [.inr (3, [.ref 24]), .inl (3, 9, .inr (.inr (.inr (.inr (aF 31))))), .inl (2, 9, .inr (.inl pt))] := by
  show _ :: Sum.inl (3, 9, Sum.inr (Sum.inr (Sum.inr (Sum.inr (fun i => (aF 3 i).map sgW))))) :: _ = _
  rw [aF_renW]
  rfl
theorem mrg_W (J : jS) : mrg sgW (jF J) [23, 24, 4] (fF J.2.2.1.1) = jF J := by
  have h := fF_ren J.2.2.1.1
  simp only [fF, List.map_cons, List.map_nil, List.cons.injEq, and_true] at h
  obtain ⟨h0, h1, h2⟩ := h
  simp only [fF, mrg, h0, h1, h2, List.map_nil, List.append_nil]
  rfl
theorem J_follow (d : Nat) (J : jS) (PM : Nat → PS × MS) (α : Nat → aZ) (h0 : ∀ x, x < 9 → zR0 (PM x) (α x)) (hp : ∀ x, x < 9 → okP (J.2.2.1.1 x)) :
    ∃ mv : Nat → Bool, (∀ j, mv j = true → mvI 31 j = true) ∧ aSp (d + 50) 55 [.ref 23, .ref 4] (jH J PM) mv (flS zC α (fwA α J.2.2.1.1) 9) (flS zS α (fwA α J.2.2.1.1) 9) (fun r h' => r = none ∧ ∃ PM', h' = jH J PM' ∧ fwR PM PM' α J.2.2.1.1 9) := by
  have hk := c_follow J.2.2.1.1 PM α d h0 hp
  obtain ⟨h1, h2⟩ := sp_emb (F := fF J.2.2.1.1) (F2 := jF J) hk [23, 24, 4] rfl (by decide) (show ∀ j ∈ [23, 24, 4], j < 31 by decide) (by
    have e : (fF J.2.2.1.1).map (fun c => some (renc sgW c)) = ((fF J.2.2.1.1).map (renc sgW)).map some := by
      rw [List.map_map]
      rfl
    show _ = (fF J.2.2.1.1).map (fun c => some (renc sgW c))
    rw [e, fF_ren]
    rfl) (okF_jF J) (fun j h => h) (fun r hc' q => by
    obtain ⟨-, PM', rfl, -⟩ := q
    exact ⟨_, PM', rfl, rfl⟩)
  refine ⟨_, h1, sp_weaken h2 ?_⟩
  rintro r h' ⟨r0, F', PM', ⟨rfl, PM2, e, hq⟩, hF', rfl, rfl⟩
  have e1 : F' = fF J.2.2.1.1 := (List.append_inj e hF').1
  have e2 : blks 3 PM' 9 = blks 3 PM2 9 := (List.append_inj e hF').2
  subst e1
  refine ⟨rfl, PM2, ?_, hq⟩
  have e3 : blks 31 PM' 9 = blks 31 PM2 9 := by
    rw [← blks_ren (σ := fun i => i + 28) (b := 3) (b2 := 31) (PM := PM') 9 (fun i _ => by omega), ← blks_ren (σ := fun i => i + 28) (b := 3) (b2 := 31) (PM := PM2) 9 (fun i _ => by omega), e2]
  show mrg sgW (jF J) [23, 24, 4] (fF J.2.2.1.1) ++ blks 31 PM' 9 = jF J ++ blks 31 PM2 9
  rw [mrg_W, e3]
