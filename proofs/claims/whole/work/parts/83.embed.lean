/-! Contracts over cells and one machine, used among more cells and all machines -/
theorem mHB_ren {σ : Nat → Nat} {b b2 : Nat} {Z : PS × MS} (h : ∀ i, i < 18 → σ (b + i) = b2 + i) : (mHB b Z).map (renc σ) = mHB b2 Z := by
  unfold mHB
  rw [List.map_map]
  have e : (renc σ ∘ renc fun x => b + x) = renc (fun i => σ (b + i)) := by
    funext c
    exact renc_renc σ _ c
  rw [e]
  exact renc_mH (fun i hi => h i hi) _ _
def jsX (js0 : List Nat) (b : Nat) : List Nat := js0 ++ jsB b
theorem jsX_len {js0 : List Nat} {b : Nat} : (jsX js0 b).length = js0.length + 18 := by
  unfold jsX
  rw [List.length_append, jsB_len]
theorem jsX_getB {js0 : List Nat} {b i : Nat} (h : i < 18) : (jsX js0 b)[js0.length + i]? = some (b + i) := by
  unfold jsX
  rw [List.getElem?_append_right (by omega), show js0.length + i - js0.length = i by omega, List.getElem?_eq_getElem (by rw [jsB_len]; exact h), jsB_get]
theorem jsX_sgB {js0 : List Nat} {b N i : Nat} (h : i < 18) : sg (jsX js0 b) N (js0.length + i) = b + i := by
  have h2 : js0.length + i < (jsX js0 b).length := by rw [jsX_len]; omega
  rw [sg_in _ _ _ h2]
  exact Option.some.inj ((List.getElem?_eq_getElem h2).symm.trans (jsX_getB h))
theorem jsX_mem {js0 : List Nat} {b j : Nat} : j ∈ jsX js0 b ↔ j ∈ js0 ∨ ∃ i, i < 18 ∧ j = b + i := by
  unfold jsX
  rw [List.mem_append, jsB_mem]
theorem jsX_nd {js0 : List Nat} {b b2 : Nat} (h : js0.Nodup) (hb : ∀ j ∈ js0, j < b2) (h2 : b2 ≤ b) : (jsX js0 b).Nodup := by
  unfold jsX
  rw [List.nodup_append]
  refine ⟨h, jsB_nd b, fun a ha c hc => ?_⟩
  obtain ⟨i, -, rfl⟩ := jsB_mem.mp hc
  have := hb a ha
  omega
theorem mrg_X {σ : Nat → Nat} {js0 : List Nat} {F2 F' : aH} {PM : Nat → PS × MS} {b x : Nat} {Z' : PS × MS} (hx : x < 9) (hlen : js0.length = b) (hF' : F'.length = b) (hnd : js0.Nodup) (hb : ∀ j ∈ js0, j < F2.length) (hσ : ∀ i, i < 18 → σ (b + i) = F2.length + 18 * x + i) :
    mrg σ (F2 ++ blks F2.length PM 9) (jsX js0 (F2.length + 18 * x)) (F' ++ mHB b Z') = mrg σ F2 js0 F' ++ blks F2.length (updZ PM x Z') 9 := by
  have l1 := fb_len F2 PM (nb := 9)
  have l2 : (F' ++ mHB b Z').length = b + 18 := by rw [List.length_append, mHB_len, hF']
  obtain ⟨a1, a2, a3, -⟩ := mrg_spec σ (jsX js0 (F2.length + 18 * x)) (F2 ++ blks F2.length PM 9) (F' ++ mHB b Z') (by rw [jsX_len, l2]; omega) (jsX_nd hnd hb (by omega)) (fun j hj => by
    rw [l1]
    rcases jsX_mem.mp hj with z | ⟨i, hi, rfl⟩
    · have := hb j z
      omega
    · omega)
  obtain ⟨b1, b2, b3, -⟩ := mrg_spec σ js0 F2 F' (by omega) hnd hb
  have c1 : (mrg σ F2 js0 F').length = F2.length := by rw [b1]; omega
  rw [l1, l2, jsX_len, hlen] at a1
  apply List.ext_getElem?
  intro j
  rw [← hget_eq, ← hget_eq]
  rcases Nat.lt_or_ge j F2.length with z | z
  · have e2 : hget (mrg σ F2 js0 F' ++ blks F2.length (updZ PM x Z') 9) j = hget (mrg σ F2 js0 F') j := by
      rw [hget_eq, hget_eq, List.getElem?_append_left (by rw [c1]; exact z)]
    rw [e2]
    by_cases q : j ∈ js0
    · obtain ⟨i, hi, e⟩ := List.getElem_of_mem q
      have hi2 : i < (jsX js0 (F2.length + 18 * x)).length := by rw [jsX_len]; omega
      have hc : hget F' i = some (F'[i]'(by omega)) := by rw [hget_eq, List.getElem?_eq_getElem]
      have hc2 : hget (F' ++ mHB b Z') i = some (F'[i]'(by omega)) := by
        rw [hget_eq, List.getElem?_append_left (by omega), ← hget_eq]
        exact hc
      have r1 := a2 i hi2 _ hc2
      have r2 := b2 i hi _ hc
      have e3 : (jsX js0 (F2.length + 18 * x))[i] = js0[i] := by
        unfold jsX
        exact List.getElem_append_left hi
      rw [e3, e] at r1
      rw [e] at r2
      rw [r1, r2]
    · rw [a3 j (by rw [l1]; omega) (fun q2 => by
        rcases jsX_mem.mp q2 with w | ⟨i, hi, rfl⟩
        · exact q w
        · omega), fb_getF F2 PM j z, b3 j z q]
  · rcases Nat.lt_or_ge j (F2.length + 18 * 9) with z2 | z2
    · obtain ⟨y, i, hy, hi, rfl⟩ := fb_split z z2
      have e2 : hget (mrg σ F2 js0 F' ++ blks F2.length (updZ PM x Z') 9) (F2.length + 18 * y + i) = hget (mHB (F2.length + 18 * y) (updZ PM x Z' y)) i := by
        rw [hget_eq, List.getElem?_append_right (by rw [c1]; omega), c1, show F2.length + 18 * y + i - F2.length = 18 * y + i by omega, ← hget_eq]
        exact blks_get F2.length _ 9 y i hy hi
      rw [e2]
      by_cases q : y = x
      · subst q
        have hl : i < (mHB b Z').length := by rw [mHB_len]; exact hi
        have hc : hget (F' ++ mHB b Z') (js0.length + i) = some ((mHB b Z')[i]'hl) := by
          rw [hget_eq, List.getElem?_append_right (by omega), show js0.length + i - F'.length = i by omega, List.getElem?_eq_getElem hl]
        have hi2 : js0.length + i < (jsX js0 (F2.length + 18 * y)).length := by rw [jsX_len]; omega
        have r1 := a2 (js0.length + i) hi2 _ hc
        have e3 : (jsX js0 (F2.length + 18 * y))[js0.length + i] = F2.length + 18 * y + i := Option.some.inj ((List.getElem?_eq_getElem hi2).symm.trans (jsX_getB hi))
        rw [e3] at r1
        rw [r1, show updZ PM y Z' y = Z' from if_pos rfl, ← mHB_ren (σ := σ) (b := b) hσ, hget_eq, List.getElem?_map, List.getElem?_eq_getElem hl]
        rfl
      · rw [a3 _ (by rw [l1]; omega) (fun q2 => by
          rcases jsX_mem.mp q2 with w | ⟨i2, hi2, e⟩
          · have := hb _ w
            omega
          · omega), fb_get F2 PM y i hy hi, show updZ PM x Z' y = PM y from if_neg q]
    · rw [hget_eq, hget_eq, List.getElem?_eq_none (by rw [a1]; omega), List.getElem?_eq_none (by rw [List.length_append, c1, blks_len]; omega)]
theorem CAL.embX {G : aG} {K : aK} {μ' : Nat} {pc : Nat} {ls : aL} {st av : List Value} {k n : Nat} {d' mc' ms' : Nat} {F F2 : aH} {PM : Nat → PS × MS} {x : Nat} {avc : List Value} {mvc mvJ : Nat → Bool} {Postc : Option Value → aH → Prop}
    (hS : aSp d' μ' avc (F ++ mHB F.length (PM x)) mvc mc' ms' Postc) (hx : x < 9) (js0 : List Nat) (hav : av = avc.map (trv (sg (jsX js0 (F2.length + 18 * x)) (F2.length + 162)))) (hlen : js0.length = F.length) (hnd : js0.Nodup) (hb : ∀ j ∈ js0, j < F2.length)
    (hm : js0.map (hget F2) = F.map (fun c => some (renc (sg (jsX js0 (F2.length + 18 * x)) (F2.length + 162)) c))) (hJ : ∀ j, mvs mvc (jsX js0 (F2.length + 18 * x)) 0 j = true → mvJ j = true) (hF : ∀ j c, hget F2 j = some c → j ∉ js0 → okC (F2.length + 162) mvJ c)
    (hr : ∀ r hc', Postc r hc' → ∃ F' Z', hc' = F' ++ mHB F.length Z' ∧ F'.length = F.length)
    (hd : d' + 1 ≤ gD G) (hk : k + mc' ≤ gC G) (hn : n + ms' ≤ gS G) (hw : (st.map fun v => v.category).sum ≤ 8) (hN : gN G ≤ F2.length + 162) (hm2 : ∀ j, j < gN G → gM G j = false → mvJ j = false) (hl : okL (F2.length + 162) mvJ ls = true) (hs : okS (F2.length + 162) mvJ st = true)
    (kk : ∀ r F' Z', Postc r (F' ++ mHB F.length Z') → F'.length = F.length → K pc ls ((r.map (trv (sg (jsX js0 (F2.length + 18 * x)) (F2.length + 162)))).toList ++ st) (mrg (sg (jsX js0 (F2.length + 18 * x)) (F2.length + 162)) F2 js0 F' ++ blks F2.length (updZ PM x Z') 9) (k + mc') (n + ms')) : CAL G K μ' av pc ls st (F2 ++ blks F2.length PM 9) k n := by
  have l1' : (F2 ++ blks F2.length PM 9).length = F2.length + 162 := fb_len F2 PM (nb := 9)
  refine CAL.mv hS (jsX js0 (F2.length + 18 * x)) (by rw [l1']; exact hav) (by rw [jsX_len, List.length_append, mHB_len, hlen]) ?_ (jsX_nd hnd hb (by omega)) ?_ ?_ hd hk hn hw (by rw [l1']; exact hN) ?_ (by rw [l1']; exact okL_mono hJ hl) (by rw [l1']; exact okS_mono hJ hs) ?_
  · rw [l1', List.map_append]
    show (js0 ++ _).map _ = _
    rw [List.map_append]
    congr 1
    · rw [← hm]
      apply List.map_congr_left
      intro j hj
      exact fb_getF F2 PM j (hb j hj)
    · have e : (mHB F.length (PM x)).map (fun c => some (renc (sg (jsX js0 (F2.length + 18 * x)) (F2.length + 162)) c)) = ((mHB F.length (PM x)).map (renc (sg (jsX js0 (F2.length + 18 * x)) (F2.length + 162)))).map some := by
        rw [List.map_map]
        rfl
      rw [e, mHB_ren (fun i hi => by rw [← hlen]; exact jsX_sgB hi)]
      apply List.ext_getElem?
      intro i
      rw [List.getElem?_map, List.getElem?_map]
      rcases Nat.lt_or_ge i 18 with z | z
      · have e3 : (jsB (F2.length + 18 * x))[i]? = some (F2.length + 18 * x + i) := by
          rw [List.getElem?_eq_getElem (by rw [jsB_len]; exact z), jsB_get]
        rw [e3, Option.map_some, fb_get F2 PM x i hx z, hget_eq]
        have hz : i < (mHB (F2.length + 18 * x) (PM x)).length := by rw [mHB_len]; exact z
        rw [List.getElem?_eq_getElem hz]
        rfl
      · rw [List.getElem?_eq_none (by rw [jsB_len]; exact z), List.getElem?_eq_none (by rw [mHB_len]; exact z)]
        rfl
  · intro j c hj hjn
    rw [l1']
    rcases Nat.lt_or_ge j F2.length with z | z
    · rw [fb_getF F2 PM j z] at hj
      exact okC_mono hJ (hF j c hj (fun q => hjn (jsX_mem.mpr (Or.inl q))))
    · have hj2 := hget_lt hj
      rw [l1'] at hj2
      obtain ⟨y, i, hy, hi, rfl⟩ := fb_split (nb := 9) z hj2
      rw [fb_get F2 PM y i hy hi] at hj
      have hyx : y ≠ x := fun q => hjn (jsX_mem.mpr (Or.inr ⟨i, hi, by rw [q]⟩))
      refine okH_get (okC_mHB (by omega) (fun i2 hi2 => ?_) _) hj
      cases hc : mvs mvc (jsX js0 (F2.length + 18 * x)) 0 (F2.length + 18 * y + i2)
      · rfl
      · obtain ⟨k2, hk2, h1, h2⟩ := mvs_t _ _ _ hc
        have h3 : F2.length + 18 * y + i2 ∈ jsX js0 (F2.length + 18 * x) := by
          rw [← h1]
          exact List.getElem_mem _
        rcases jsX_mem.mp h3 with w | ⟨i3, hi3, e⟩
        · have := hb _ w
          omega
        · omega
  · intro r hc' q
    obtain ⟨F', Z', rfl, h1⟩ := hr r hc' q
    rw [List.length_append, List.length_append, mHB_len, mHB_len, h1]
    exact Nat.le_refl _
  · intro j h1 h2
    cases hc : mvs mvc (jsX js0 (F2.length + 18 * x)) 0 j
    · rfl
    · have := hJ j hc
      rw [hm2 j h1 h2] at this
      exact absurd this (by decide)
  · intro r hc' q
    obtain ⟨F', Z', rfl, h1⟩ := hr r hc' q
    rw [l1', mrg_X hx hlen h1 hnd hb (fun i hi => by rw [← hlen]; exact jsX_sgB hi)]
    exact kk r F' Z' q h1
