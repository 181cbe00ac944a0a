/-! Contracts over cells and machines, used among more cells and the same machines -/
theorem renc_renc (σ τ : Nat → Nat) (c : aC) : renc σ (renc τ c) = renc (fun i => σ (τ i)) c := by
  rcases c with ⟨t, k, f | f | f | f | f⟩ | ⟨ci, fs⟩
  · rfl
  · rfl
  · rfl
  · rfl
  · simp only [renc, tra, Option.map_map]
    rfl
  · simp only [renc, List.map_map]
    congr 2
    apply List.map_congr_left
    intro v _
    exact trv_trv σ τ v
theorem blks_ren {σ : Nat → Nat} {b b2 : Nat} {PM : Nat → PS × MS} : ∀ k, (∀ i, i < 18 * k → σ (b + i) = b2 + i) → (blks b PM k).map (renc σ) = blks b2 PM k
  | 0, _ => rfl
  | k + 1, h => by
    show (blks b PM k ++ mHB (b + 18 * k) (PM k)).map (renc σ) = blks b2 PM k ++ mHB (b2 + 18 * k) (PM k)
    rw [List.map_append, blks_ren k (fun i hi => h i (by omega))]
    congr 1
    unfold mHB
    rw [List.map_map]
    have e : (renc σ ∘ renc fun x => b + 18 * k + x) = renc (fun i => σ (b + 18 * k + i)) := by
      funext c
      exact renc_renc σ _ c
    rw [e]
    exact renc_mH (fun i hi => by rw [Nat.add_assoc, h (18 * k + i) (by omega)]; omega) _ _
def jsE (js0 : List Nat) (b2 : Nat) : List Nat := js0 ++ (List.range 162).map (b2 + ·)
theorem jsE_sgF {js0 : List Nat} {b2 N i : Nat} (h : i < js0.length) : sg (jsE js0 b2) N i = js0[i] := by
  have h2 : i < (jsE js0 b2).length := by
    unfold jsE
    rw [List.length_append]
    omega
  rw [sg_in _ _ _ h2]
  unfold jsE
  exact List.getElem_append_left h
theorem jsE_getB {js0 : List Nat} {b2 i : Nat} (h : i < 162) : (jsE js0 b2)[js0.length + i]? = some (b2 + i) := by
  unfold jsE
  rw [List.getElem?_append_right (by omega), show js0.length + i - js0.length = i by omega, List.getElem?_map, List.getElem?_range h]
  rfl
theorem jsE_sgB {js0 : List Nat} {b2 N i : Nat} (h : i < 162) : sg (jsE js0 b2) N (js0.length + i) = b2 + i := by
  have h2 : js0.length + i < (jsE js0 b2).length := by
    unfold jsE
    rw [List.length_append, List.length_map, List.length_range]
    omega
  rw [sg_in _ _ _ h2]
  exact Option.some.inj ((List.getElem?_eq_getElem h2).symm.trans (jsE_getB h))
theorem jsE_len {js0 : List Nat} {b2 : Nat} : (jsE js0 b2).length = js0.length + 162 := by
  unfold jsE
  rw [List.length_append, List.length_map, List.length_range]
theorem jsE_mem {js0 : List Nat} {b2 j : Nat} : j ∈ jsE js0 b2 ↔ j ∈ js0 ∨ ∃ i, i < 162 ∧ j = b2 + i := by
  unfold jsE
  rw [List.mem_append, List.mem_map]
  constructor
  · rintro (h | ⟨i, h1, h2⟩)
    · exact Or.inl h
    · exact Or.inr ⟨i, List.mem_range.mp h1, h2.symm⟩
  · rintro (h | ⟨i, h1, h2⟩)
    · exact Or.inl h
    · exact Or.inr ⟨i, List.mem_range.mpr h1, h2.symm⟩
theorem jsE_nd {js0 : List Nat} {b2 : Nat} (h : js0.Nodup) (hb : ∀ j ∈ js0, j < b2) : (jsE js0 b2).Nodup := by
  unfold jsE
  rw [List.nodup_append]
  refine ⟨h, List.pairwise_map.mpr (List.nodup_range.imp (fun h q => h (Nat.add_left_cancel q))), fun a ha c hc => ?_⟩
  obtain ⟨i, -, rfl⟩ := List.mem_map.mp hc
  have := hb a ha
  omega
theorem mrg_E {σ : Nat → Nat} {js0 : List Nat} {F2 F' : aH} {PM PM' : Nat → PS × MS} {b : Nat} (hlen : js0.length = b) (hF' : F'.length = b) (hnd : js0.Nodup) (hb : ∀ j ∈ js0, j < F2.length) (hσ : ∀ i, i < 162 → σ (b + i) = F2.length + i) :
    mrg σ (F2 ++ blks F2.length PM 9) (jsE js0 F2.length) (F' ++ blks b PM' 9) = mrg σ F2 js0 F' ++ blks F2.length PM' 9 := by
  have l1 := fb_len F2 PM (nb := 9)
  have l2 : (F' ++ blks b PM' 9).length = b + 162 := by rw [List.length_append, blks_len, hF']
  obtain ⟨a1, a2, a3, -⟩ := mrg_spec σ (jsE js0 F2.length) (F2 ++ blks F2.length PM 9) (F' ++ blks b PM' 9) (by rw [jsE_len, l2]; omega) (jsE_nd hnd hb) (fun j hj => by
    rw [l1]
    rcases jsE_mem.mp hj with z | ⟨i, hi, rfl⟩
    · have := hb j z
      omega
    · omega)
  obtain ⟨b1, b2, b3, -⟩ := mrg_spec σ js0 F2 F' (by omega) hnd hb
  have c1 : (mrg σ F2 js0 F').length = F2.length := by rw [b1]; omega
  rw [l1, l2, jsE_len, hlen] at a1
  apply List.ext_getElem?
  intro j
  rw [← hget_eq, ← hget_eq]
  rcases Nat.lt_or_ge j F2.length with z | z
  · have e2 : hget (mrg σ F2 js0 F' ++ blks F2.length PM' 9) j = hget (mrg σ F2 js0 F') j := by
      rw [hget_eq, hget_eq, List.getElem?_append_left (by rw [c1]; exact z)]
    rw [e2]
    by_cases q : j ∈ js0
    · obtain ⟨i, hi, e⟩ := List.getElem_of_mem q
      have hi2 : i < (jsE js0 F2.length).length := by rw [jsE_len]; omega
      have hc : hget F' i = some (F'[i]'(by omega)) := by rw [hget_eq, List.getElem?_eq_getElem]
      have hc2 : hget (F' ++ blks b PM' 9) i = some (F'[i]'(by omega)) := by
        rw [hget_eq, List.getElem?_append_left (by omega), ← hget_eq]
        exact hc
      have r1 := a2 i hi2 _ hc2
      have r2 := b2 i hi _ hc
      have e3 : (jsE js0 F2.length)[i] = js0[i] := by
        unfold jsE
        exact List.getElem_append_left hi
      rw [e3, e] at r1
      rw [e] at r2
      rw [r1, r2]
    · rw [a3 j (by rw [l1]; omega) (fun q2 => by
        rcases jsE_mem.mp q2 with w | ⟨i, hi, rfl⟩
        · exact q w
        · omega), fb_getF F2 PM j z, b3 j z q]
  · rcases Nat.lt_or_ge j (F2.length + 162) with z2 | z2
    · obtain ⟨i, rfl⟩ : ∃ i, j = F2.length + i := ⟨j - F2.length, by omega⟩
      have hi : i < 162 := by omega
      have e2 : hget (mrg σ F2 js0 F' ++ blks F2.length PM' 9) (F2.length + i) = hget (blks F2.length PM' 9) i := by
        rw [hget_eq, hget_eq, List.getElem?_append_right (by rw [c1]; omega), c1, show F2.length + i - F2.length = i by omega]
      have hl : i < (blks b PM' 9).length := by rw [blks_len]; exact hi
      have hc : hget (F' ++ blks b PM' 9) (js0.length + i) = some ((blks b PM' 9)[i]'hl) := by
        rw [hget_eq, List.getElem?_append_right (by omega), show js0.length + i - F'.length = i by omega, List.getElem?_eq_getElem hl]
      have hi2 : js0.length + i < (jsE js0 F2.length).length := by rw [jsE_len]; omega
      have r1 := a2 (js0.length + i) hi2 _ hc
      have e3 : (jsE js0 F2.length)[js0.length + i] = F2.length + i := Option.some.inj ((List.getElem?_eq_getElem hi2).symm.trans (jsE_getB hi))
      rw [e3] at r1
      rw [r1, e2, ← blks_ren (σ := σ) (b := b) 9 hσ, hget_eq, List.getElem?_map, List.getElem?_eq_getElem hl]
      rfl
    · rw [hget_eq, hget_eq, List.getElem?_eq_none (by rw [a1]; omega), List.getElem?_eq_none (by rw [List.length_append, c1, blks_len]; omega)]
theorem CAL.emb {G : aG} {K : aK} {μ' : Nat} {pc : Nat} {ls : aL} {st av : List Value} {k n : Nat} {d' mc' ms' : Nat} {F F2 : aH} {PM : Nat → PS × MS} {avc : List Value} {mvc mvJ : Nat → Bool} {Postc : Option Value → aH → Prop}
    (hS : aSp d' μ' avc (F ++ blks F.length PM 9) mvc mc' ms' Postc) (js0 : List Nat) (hav : av = avc.map (trv (sg (jsE js0 F2.length) (F2.length + 162)))) (hlen : js0.length = F.length) (hnd : js0.Nodup) (hb : ∀ j ∈ js0, j < F2.length)
    (hm : js0.map (hget F2) = F.map (fun c => some (renc (sg (jsE js0 F2.length) (F2.length + 162)) c))) (hF : okF 9 F2) (hmv : ∀ j, mvc j = true → mvI F.length j = true)
    (hr : ∀ r hc', Postc r hc' → ∃ F' PM', hc' = F' ++ blks F.length PM' 9 ∧ F'.length = F.length)
    (hd : d' + 1 ≤ gD G) (hk : k + mc' ≤ gC G) (hn : n + ms' ≤ gS G) (hw : (st.map fun v => v.category).sum ≤ 8) (hN : gN G ≤ F2.length + 162) (hJ : ∀ j, mvs mvc (jsE js0 F2.length) 0 j = true → mvJ j = true) (hm2 : ∀ j, j < gN G → gM G j = false → mvJ j = false) (hl : okL (F2.length + 162) mvJ ls = true) (hs : okS (F2.length + 162) mvJ st = true)
    (kk : ∀ r F' PM', Postc r (F' ++ blks F.length PM' 9) → F'.length = F.length → K pc ls ((r.map (trv (sg (jsE js0 F2.length) (F2.length + 162)))).toList ++ st) (mrg (sg (jsE js0 F2.length) (F2.length + 162)) F2 js0 F' ++ blks F2.length PM' 9) (k + mc') (n + ms')) : CAL G K μ' av pc ls st (F2 ++ blks F2.length PM 9) k n := by
  have l1 := fb_len F2 PM (nb := 9)
  have l1' : (F2 ++ blks F2.length PM 9).length = F2.length + 162 := l1
  have hmI : ∀ j, mvs mvc (jsE js0 F2.length) 0 j = true → mvI F2.length j = true := by
    intro j h
    obtain ⟨k2, hk2, h1, h2⟩ := mvs_t _ _ _ h
    rw [Nat.zero_add] at h2
    have h3 := hmv k2 h2
    unfold mvI at h3
    simp only [Bool.and_eq_true, Nat.ble_eq, Bool.not_eq_true', beq_eq_false_iff_ne] at h3
    rw [jsE_len] at hk2
    obtain ⟨i, rfl⟩ : ∃ i, k2 = js0.length + i := ⟨k2 - js0.length, by omega⟩
    have e := jsE_getB (js0 := js0) (b2 := F2.length) (show i < 162 by omega)
    have hk3 : js0.length + i < (jsE js0 F2.length).length := by rw [jsE_len]; omega
    have e2 : (jsE js0 F2.length)[js0.length + i] = F2.length + i := Option.some.inj ((List.getElem?_eq_getElem hk3).symm.trans e)
    rw [← h1, e2]
    unfold mvI
    simp only [Bool.and_eq_true, Nat.ble_eq, Bool.not_eq_true', beq_eq_false_iff_ne]
    omega
  refine CAL.mv hS (jsE js0 F2.length) (by rw [l1']; exact hav) (by rw [jsE_len, fb_len, hlen]) ?_ (jsE_nd hnd hb) ?_ ?_ hd hk hn hw (by rw [l1']; exact hN) ?_ (by rw [l1']; exact okL_mono hJ hl) (by rw [l1']; exact okS_mono hJ hs) ?_
  · rw [l1', List.map_append]
    show (js0 ++ _).map _ = _
    rw [List.map_append]
    congr 1
    · rw [← hm]
      apply List.map_congr_left
      intro j hj
      exact fb_getF F2 PM j (hb j hj)
    · have e : (blks F.length PM 9).map (fun c => some (renc (sg (jsE js0 F2.length) (F2.length + 162)) c)) = ((blks F.length PM 9).map (renc (sg (jsE js0 F2.length) (F2.length + 162)))).map some := by
        rw [List.map_map]
        rfl
      rw [e, blks_ren 9 (fun i hi => by rw [← hlen]; exact jsE_sgB (by omega)), List.map_map]
      apply List.ext_getElem?
      intro i
      rw [List.getElem?_map, List.getElem?_map]
      rcases Nat.lt_or_ge i 162 with z | z
      · rw [List.getElem?_range z, Option.map_some]
        show some (hget (F2 ++ blks F2.length PM 9) (F2.length + i)) = _
        rw [hget_eq, List.getElem?_append_right (by omega), show F2.length + i - F2.length = i by omega]
        have hz : i < (blks F2.length PM 9).length := by rw [blks_len]; exact z
        rw [List.getElem?_eq_getElem hz]
        rfl
      · rw [List.getElem?_eq_none (by rw [List.length_range]; exact z), List.getElem?_eq_none (by rw [blks_len]; exact z)]
        rfl
  · intro j c hj hjn
    have hj2 : j < F2.length := by
      rcases Nat.lt_or_ge j F2.length with z | z
      · exact z
      · have := hget_lt hj
        rw [l1'] at this
        exact absurd (jsE_mem.mpr (Or.inr ⟨j - F2.length, by omega, by omega⟩)) hjn
    rw [fb_getF F2 PM j hj2] at hj
    rw [l1']
    exact okC_mono hmI (okH_get hF hj)
  · intro r hc' q
    obtain ⟨F', PM', rfl, h1⟩ := hr r hc' q
    rw [fb_len, List.length_append, blks_len, h1]
    exact Nat.le_refl _
  · intro j h1 h2
    cases hc : mvs mvc (jsE js0 F2.length) 0 j
    · rfl
    · have := hJ j hc
      rw [hm2 j h1 h2] at this
      exact absurd this (by decide)
  · intro r hc' q
    obtain ⟨F', PM', rfl, h1⟩ := hr r hc' q
    rw [l1', mrg_E hlen h1 hnd hb (fun i hi => by rw [← hlen]; exact jsE_sgB hi)]
    exact kk r F' PM' q h1
