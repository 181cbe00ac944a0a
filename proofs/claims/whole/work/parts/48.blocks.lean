/-! Nine machines behind other cells -/
def mHB (b : Nat) (Z : PS × MS) : aH := (mH Z.1 Z.2).map (renc (b + ·))
def blks (b : Nat) (PM : Nat → PS × MS) : Nat → aH
  | 0 => []
  | k + 1 => blks b PM k ++ mHB (b + 18 * k) (PM k)
def updZ (PM : Nat → PS × MS) (x : Nat) (Z : PS × MS) : Nat → PS × MS := fun y => if y = x then Z else PM y
def jsB (b : Nat) : List Nat := (List.range 18).map (b + ·)
theorem mHB_len (b : Nat) (Z : PS × MS) : (mHB b Z).length = 18 := rfl
theorem blks_len (b : Nat) (PM : Nat → PS × MS) : ∀ k, (blks b PM k).length = 18 * k
  | 0 => rfl
  | k + 1 => by
    show (blks b PM k ++ mHB (b + 18 * k) (PM k)).length = _
    rw [List.length_append, blks_len b PM k, mHB_len]
    omega
theorem blks_get (b : Nat) (PM : Nat → PS × MS) : ∀ k y i, y < k → i < 18 → hget (blks b PM k) (18 * y + i) = hget (mHB (b + 18 * y) (PM y)) i
  | 0, y, i, hy, _ => absurd hy (Nat.not_lt_zero y)
  | k + 1, y, i, hy, hi => by
    show hget (blks b PM k ++ mHB (b + 18 * k) (PM k)) _ = _
    rw [hget_eq, hget_eq]
    rcases Nat.lt_or_ge y k with z | z
    · rw [List.getElem?_append_left (by rw [blks_len]; omega), ← hget_eq, ← hget_eq]
      exact blks_get b PM k y i z hi
    · have : y = k := by omega
      subst this
      rw [List.getElem?_append_right (by rw [blks_len]; omega), blks_len, show 18 * y + i - 18 * y = i by omega]
theorem fb_get (F : aH) (PM : Nat → PS × MS) {nb : Nat} (y i : Nat) (hy : y < nb) (hi : i < 18) : hget (F ++ blks F.length PM nb) (F.length + 18 * y + i) = hget (mHB (F.length + 18 * y) (PM y)) i := by
  rw [hget_eq, List.getElem?_append_right (by omega), show F.length + 18 * y + i - F.length = 18 * y + i by omega, ← hget_eq]
  exact blks_get F.length PM nb y i hy hi
theorem fb_getF (F : aH) (PM : Nat → PS × MS) {nb : Nat} (j : Nat) (hj : j < F.length) : hget (F ++ blks F.length PM nb) j = hget F j := by
  rw [hget_eq, hget_eq, List.getElem?_append_left hj]
theorem fb_len (F : aH) (PM : Nat → PS × MS) {nb : Nat} : (F ++ blks F.length PM nb).length = F.length + 18 * nb := by
  rw [List.length_append, blks_len]
theorem fb_split {nb b j : Nat} (h1 : b ≤ j) (h2 : j < b + 18 * nb) : ∃ y i, y < nb ∧ i < 18 ∧ j = b + 18 * y + i := ⟨(j - b) / 18, (j - b) % 18, by omega, by omega, by omega⟩
theorem renc_mH {σ τ : Nat → Nat} (h : ∀ i, i < 18 → σ i = τ i) (P : PS) (M : MS) : (mH P M).map (renc σ) = (mH P M).map (renc τ) := by
  simp only [mH, mO, mPO, List.map_cons, List.map_nil, renc, trv, tra, h 1 (by decide), h 2 (by decide), h 3 (by decide), h 4 (by decide), h 5 (by decide), h 6 (by decide), h 7 (by decide), h 8 (by decide), h 9 (by decide), h 10 (by decide), h 11 (by decide), h 12 (by decide), h 13 (by decide), h 14 (by decide), h 15 (by decide), h 16 (by decide), h 17 (by decide)]
theorem jsB_len (b : Nat) : (jsB b).length = 18 := by
  unfold jsB
  rw [List.length_map, List.length_range]
theorem jsB_get {b i : Nat} (h : i < (jsB b).length) : (jsB b)[i] = b + i := by
  have h2 : i < 18 := by rw [← jsB_len b]; exact h
  have e : (jsB b)[i]? = some (b + i) := by
    unfold jsB
    rw [List.getElem?_map, List.getElem?_range h2]
    rfl
  exact Option.some.inj ((List.getElem?_eq_getElem h).symm.trans e)
theorem jsB_mem {b j : Nat} : j ∈ jsB b ↔ ∃ i, i < 18 ∧ j = b + i := by
  unfold jsB
  rw [List.mem_map]
  constructor
  · rintro ⟨i, h1, h2⟩
    exact ⟨i, List.mem_range.mp h1, h2.symm⟩
  · rintro ⟨i, h1, h2⟩
    exact ⟨i, List.mem_range.mpr h1, h2.symm⟩
theorem jsB_nd (b : Nat) : (jsB b).Nodup := List.pairwise_map.mpr (List.nodup_range.imp (fun h q => h (Nat.add_left_cancel q)))
theorem jsB_sg {b N i : Nat} (h : i < 18) : sg (jsB b) N i = b + i := by rw [sg_in _ _ _ (by rw [jsB_len]; exact h), jsB_get]
theorem fb_mrg (F : aH) (PM : Nat → PS × MS) {nb : Nat} (x : Nat) (hx : x < nb) (Z : PS × MS) : mrg (sg (jsB (F.length + 18 * x)) (F ++ blks F.length PM nb).length) (F ++ blks F.length PM nb) (jsB (F.length + 18 * x)) (mH Z.1 Z.2) = F ++ blks F.length (updZ PM x Z) nb := by
  have hlen := fb_len F PM (nb := nb)
  have hlen2 := fb_len F (updZ PM x Z) (nb := nb)
  obtain ⟨a1, a2, a3, -⟩ := mrg_spec (sg (jsB (F.length + 18 * x)) (F ++ blks F.length PM nb).length) (jsB (F.length + 18 * x)) (F ++ blks F.length PM nb) (mH Z.1 Z.2) (by rw [jsB_len]; exact Nat.le_refl 18) (jsB_nd _) (fun j hj => by
    obtain ⟨i, hi, rfl⟩ := jsB_mem.mp hj
    rw [hlen]
    omega)
  have a1' : (mrg (sg (jsB (F.length + 18 * x)) (F ++ blks F.length PM nb).length) (F ++ blks F.length PM nb) (jsB (F.length + 18 * x)) (mH Z.1 Z.2)).length = F.length + 18 * nb := by
    rw [a1, hlen, jsB_len]
    rfl
  apply List.ext_getElem?
  intro j
  rw [← hget_eq, ← hget_eq]
  rcases Nat.lt_or_ge j F.length with z | z
  · rw [a3 j (by rw [hlen]; omega) (fun q => by
      obtain ⟨i, hi, e⟩ := jsB_mem.mp q
      omega), fb_getF F PM j z, fb_getF F _ j z]
  · rcases Nat.lt_or_ge j (F.length + 18 * nb) with z2 | z2
    · obtain ⟨y, i, hy, hi, rfl⟩ := fb_split z z2
      rw [fb_get F _ y i hy hi]
      by_cases q : y = x
      · subst q
        have hi2 : i < (jsB (F.length + 18 * y)).length := by rw [jsB_len]; exact hi
        have hi3 : i < (mH Z.1 Z.2).length := hi
        have hc : hget (mH Z.1 Z.2) i = some ((mH Z.1 Z.2)[i]'hi3) := by rw [hget_eq, List.getElem?_eq_getElem hi3]
        have := a2 i hi2 _ hc
        rw [jsB_get] at this
        rw [this]
        show _ = hget (mHB (F.length + 18 * y) (updZ PM y Z y)) i
        rw [show updZ PM y Z y = Z from if_pos rfl]
        unfold mHB
        rw [hget_eq, ← renc_mH (σ := sg (jsB (F.length + 18 * y)) (F ++ blks F.length PM nb).length) (fun i hi => jsB_sg hi), List.getElem?_map, List.getElem?_eq_getElem hi3]
        rfl
      · rw [a3 _ (by rw [hlen]; omega) (fun q2 => by
          obtain ⟨i2, hi2, e⟩ := jsB_mem.mp q2
          omega), fb_get F PM y i hy hi]
        rw [show updZ PM x Z y = PM y from if_neg q]
    · rw [hget_eq, hget_eq, List.getElem?_eq_none (by rw [a1']; exact z2), List.getElem?_eq_none (by rw [hlen2]; exact z2)]
/-- names inside of machines -/
def mvI (b : Nat) : Nat → Bool := fun j => Nat.ble b j && !((j - b) % 18 == 0)
theorem okV_mono {n : Nat} {mv mv' : Nat → Bool} (h : ∀ j, mv' j = true → mv j = true) : ∀ {v : Value}, okV n mv v = true → okV n mv' v = true := by
  intro v hv
  cases v <;> simp_all [okV]
  next a =>
    cases hm : mv' a
    · rfl
    · have := h a hm
      rw [this] at hv
      exact absurd hv.2 (by decide)
theorem okS_mono {n : Nat} {mv mv' : Nat → Bool} (h : ∀ j, mv' j = true → mv j = true) : ∀ {l : List Value}, okS n mv l = true → okS n mv' l = true
  | [], _ => rfl
  | v :: l, q => by
    simp only [okS, Bool.and_eq_true] at q ⊢
    exact ⟨okV_mono h q.1, okS_mono h (l := l) q.2⟩
theorem okL_mono {n : Nat} {mv mv' : Nat → Bool} (h : ∀ j, mv' j = true → mv j = true) : ∀ {l : aL}, okL n mv l = true → okL n mv' l = true
  | [], _ => rfl
  | none :: l, q => by
    simp only [okL] at q ⊢
    exact okL_mono h (l := l) q
  | some v :: l, q => by
    simp only [okL, Bool.and_eq_true] at q ⊢
    exact ⟨okV_mono h q.1, okL_mono h (l := l) q.2⟩
theorem mvs_t {mv : Nat → Bool} : ∀ (as : List Nat) (i j : Nat), mvs mv as i j = true → ∃ k, ∃ hk : k < as.length, as[k] = j ∧ mv (i + k) = true
  | [], i, j, h => by simp [mvs] at h
  | a :: as, i, j, h => by
    simp only [mvs, Bool.or_eq_true, Bool.and_eq_true, beq_iff_eq] at h
    rcases h with ⟨h1, h2⟩ | h
    · exact ⟨0, Nat.succ_pos _, h1, h2⟩
    · obtain ⟨k, hk, h1, h2⟩ := mvs_t as (i + 1) j h
      exact ⟨k + 1, Nat.succ_lt_succ hk, h1, by rw [show i + (k + 1) = i + 1 + k by omega]; exact h2⟩
theorem mvs_I {mv : Nat → Bool} (hmv : ∀ i, mv i = true → 1 ≤ i) {b x j : Nat} (h : mvs mv (jsB (b + 18 * x)) 0 j = true) : mvI b j = true := by
  obtain ⟨k, hk, h1, h2⟩ := mvs_t _ _ _ h
  rw [jsB_get] at h1
  have hk2 : k < 18 := by rw [← jsB_len (b + 18 * x)]; exact hk
  have := hmv _ h2
  unfold mvI
  simp only [Bool.and_eq_true, Nat.ble_eq, Bool.not_eq_true', beq_eq_false_iff_ne]
  omega
theorem okC_mHB {n b : Nat} {mv : Nat → Bool} (hb : b + 18 ≤ n) (hm : ∀ i, i < 18 → mv (b + i) = false) (Z : PS × MS) : okH n mv (mHB b Z) := by
  have e : ∀ i : Nat, i < 18 → okV n mv (.ref (b + i)) = true := fun i hi => by
    have h1 : Nat.blt (b + i) n = true := by
      rw [Nat.blt_eq]
      omega
    simp only [okV, hm i hi, h1, Bool.not_false, Bool.and_true]
  have ei : ∀ x, okV n mv (.int x) = true := fun _ => rfl
  have ej : ∀ x, okV n mv (.long x) = true := fun _ => rfl
  unfold mHB
  simp only [mH, mO, mPO, List.map_cons, List.map_nil, renc, trv, tra, okH, okC, okS, e 1 (by decide), e 2 (by decide), e 3 (by decide), e 4 (by decide), e 5 (by decide), e 6 (by decide), e 7 (by decide), e 8 (by decide), e 9 (by decide), e 10 (by decide), e 11 (by decide), e 12 (by decide), e 13 (by decide), e 14 (by decide), e 15 (by decide), e 16 (by decide), e 17 (by decide), ei, ej, Bool.and_self, and_self]
/-- cells ahead of the machines name no cell inside of one -/
def okF (nb : Nat) (F : aH) : Prop := okH (F.length + 18 * nb) (mvI F.length) F
theorem okC_mono {n : Nat} {mv mv' : Nat → Bool} (h : ∀ j, mv' j = true → mv j = true) : ∀ {c : aC}, okC n mv c → okC n mv' c
  | .inl (_, _, .inr (.inr (.inr (.inr f)))), q => fun i j hj => by
    obtain ⟨h1, h2⟩ := q i j hj
    refine ⟨h1, ?_⟩
    cases hm : mv' j
    · rfl
    · rw [h j hm] at h2
      exact absurd h2 (by decide)
  | .inl (_, _, .inl _), _ => trivial
  | .inl (_, _, .inr (.inl _)), _ => trivial
  | .inl (_, _, .inr (.inr (.inl _))), _ => trivial
  | .inl (_, _, .inr (.inr (.inr (.inl _)))), _ => trivial
  | .inr (_, _), q => okS_mono h q
theorem CAL.blkG {G : aG} {K : aK} {μ' : Nat} {pc : Nat} {ls : aL} {st : List Value} {k n : Nat} {d' mc' ms' : Nat} {nb : Nat} {F : aH} {PM : Nat → PS × MS} {x : Nat} {as : List Value} {mvc mvJ : Nat → Bool} {Postc : Option Value → aH → Prop}
    (hS : aSp d' μ' (.ref 0 :: as) (mH (PM x).1 (PM x).2) mvc mc' ms' Postc) (hx : x < nb) (hF : okF nb F) (has : ∀ ρ, as.map (trv ρ) = as) (hmv : ∀ i, mvc i = true → 1 ≤ i) (hr : ∀ r hc', Postc r hc' → (∃ Z : PS × MS, hc' = mH Z.1 Z.2) ∧ ∀ ρ, r.map (trv ρ) = r)
    (hd : d' + 1 ≤ gD G) (hk : k + mc' ≤ gC G) (hn : n + ms' ≤ gS G) (hw : (st.map fun v => v.category).sum ≤ 8) (hN : gN G ≤ F.length + 18 * nb) (hJ : ∀ j, mvs mvc (jsB (F.length + 18 * x)) 0 j = true → mvJ j = true) (hm2 : ∀ j, j < gN G → gM G j = false → mvJ j = false) (hl : okL (F.length + 18 * nb) mvJ ls = true) (hs : okS (F.length + 18 * nb) mvJ st = true)
    (kk : ∀ r (Z : PS × MS), Postc r (mH Z.1 Z.2) → K pc ls (r.toList ++ st) (F ++ blks F.length (updZ PM x Z) nb) (k + mc') (n + ms')) : CAL G K μ' (.ref (F.length + 18 * x) :: as) pc ls st (F ++ blks F.length PM nb) k n := by
  have hlen := fb_len F PM (nb := nb)
  have hI : ∀ j, mvs mvc (jsB (F.length + 18 * x)) 0 j = true → mvI F.length j = true := fun j h => mvs_I hmv h
  refine CAL.mv hS (jsB (F.length + 18 * x)) ?_ (by rw [jsB_len]; rfl) ?_ (jsB_nd _) ?_ ?_ hd hk hn hw (by rw [hlen]; exact hN) ?_ (by rw [hlen]; exact okL_mono hJ hl) (by rw [hlen]; exact okS_mono hJ hs) ?_
  · rw [List.map_cons, has]
    congr 1
  · rw [show (mH (PM x).1 (PM x).2).map (fun c => some (renc (sg (jsB (F.length + 18 * x)) (F ++ blks F.length PM nb).length) c)) = ((mH (PM x).1 (PM x).2).map (renc (sg (jsB (F.length + 18 * x)) (F ++ blks F.length PM nb).length))).map some by rw [List.map_map]; rfl, renc_mH (τ := fun i => F.length + 18 * x + i) (fun i hi => jsB_sg hi)]
    apply List.ext_getElem?
    intro i
    rw [List.getElem?_map, List.getElem?_map]
    rcases Nat.lt_or_ge i 18 with z | z
    · have e : (jsB (F.length + 18 * x))[i]? = some (F.length + 18 * x + i) := by
        rw [List.getElem?_eq_getElem (by rw [jsB_len]; exact z), jsB_get]
      rw [e]
      show some (hget _ _) = _
      rw [fb_get F PM x i hx z]
      unfold mHB
      rw [hget_eq]
      have hz : i < ((mH (PM x).1 (PM x).2).map (renc (fun i => F.length + 18 * x + i))).length := by rw [List.length_map]; exact z
      rw [List.getElem?_eq_getElem hz]
      rfl
    · rw [List.getElem?_eq_none (by rw [jsB_len]; exact z), List.getElem?_eq_none (by rw [List.length_map]; exact z)]
      rfl
  · intro j c hj hjn
    rcases Nat.lt_or_ge j F.length with z | z
    · rw [fb_getF F PM j z] at hj
      rw [hlen]
      exact okC_mono hI (okH_get hF hj)
    · have hj2 := hget_lt hj
      rw [hlen] at hj2
      obtain ⟨y, i, hy, hi, rfl⟩ := fb_split z hj2
      rw [fb_get F PM y i hy hi] at hj
      have hyx : y ≠ x := fun q => hjn (jsB_mem.mpr ⟨i, hi, by rw [q]⟩)
      rw [hlen]
      refine okH_get (okC_mHB (by omega) (fun i2 hi2 => ?_) _) hj
      cases hc : mvs mvc (jsB (F.length + 18 * x)) 0 (F.length + 18 * y + i2)
      · rfl
      · obtain ⟨k2, hk2, h1, h2⟩ := mvs_t _ _ _ hc
        rw [jsB_get] at h1
        rw [jsB_len] at hk2
        omega
  · intro r hc' q
    obtain ⟨⟨Z, rfl⟩, -⟩ := hr r hc' q
    exact Nat.le_refl 18
  · intro j h1 h2
    cases hc : mvs mvc (jsB (F.length + 18 * x)) 0 j
    · rfl
    · have := hJ j hc
      rw [hm2 j h1 h2] at this
      exact absurd this (by decide)
  · intro r hc' q
    obtain ⟨⟨Z, rfl⟩, hrr⟩ := hr r hc' q
    rw [hrr, fb_mrg F PM x hx Z]
    exact kk r Z q
theorem CAL.blk {G : aG} {K : aK} {μ' : Nat} {pc : Nat} {ls : aL} {st : List Value} {k n : Nat} {d' mc' ms' : Nat} {nb : Nat} {F : aH} {PM : Nat → PS × MS} {x : Nat} {as : List Value} {mvc : Nat → Bool} {Postc : Option Value → aH → Prop}
    (hS : aSp d' μ' (.ref 0 :: as) (mH (PM x).1 (PM x).2) mvc mc' ms' Postc) (hx : x < nb) (hF : okF nb F) (has : ∀ ρ, as.map (trv ρ) = as) (hmv : ∀ i, mvc i = true → 1 ≤ i) (hr : ∀ r hc', Postc r hc' → (∃ Z : PS × MS, hc' = mH Z.1 Z.2) ∧ ∀ ρ, r.map (trv ρ) = r)
    (hd : d' + 1 ≤ gD G) (hk : k + mc' ≤ gC G) (hn : n + ms' ≤ gS G) (hw : (st.map fun v => v.category).sum ≤ 8) (hN : gN G ≤ F.length + 18 * nb) (hm2 : ∀ j, j < gN G → gM G j = false → mvI F.length j = false) (hl : okL (F.length + 18 * nb) (mvI F.length) ls = true) (hs : okS (F.length + 18 * nb) (mvI F.length) st = true)
    (kk : ∀ r (Z : PS × MS), Postc r (mH Z.1 Z.2) → K pc ls (r.toList ++ st) (F ++ blks F.length (updZ PM x Z) nb) (k + mc') (n + ms')) : CAL G K μ' (.ref (F.length + 18 * x) :: as) pc ls st (F ++ blks F.length PM nb) k n :=
  CAL.blkG (mvJ := mvI F.length) hS hx hF has hmv hr hd hk hn hw hN (fun _ h => mvs_I hmv h) hm2 hl hs kk
theorem CAL.blkN {G : aG} {K : aK} {μ' : Nat} {pc : Nat} {ls : aL} {st : List Value} {k n : Nat} {d' mc' ms' : Nat} {nb : Nat} {F : aH} {PM : Nat → PS × MS} {x : Nat} {as : List Value} {Postc : Option Value → aH → Prop}
    (hS : aSp d' μ' (.ref 0 :: as) (mH (PM x).1 (PM x).2) nomv mc' ms' Postc) (hx : x < nb) (hF : okF nb F) (has : ∀ ρ, as.map (trv ρ) = as) (hr : ∀ r hc', Postc r hc' → (∃ Z : PS × MS, hc' = mH Z.1 Z.2) ∧ ∀ ρ, r.map (trv ρ) = r)
    (hd : d' + 1 ≤ gD G) (hk : k + mc' ≤ gC G) (hn : n + ms' ≤ gS G) (hw : (st.map fun v => v.category).sum ≤ 8) (hN : gN G ≤ F.length + 18 * nb) (hl : okL (F.length + 18 * nb) nomv ls = true) (hs : okS (F.length + 18 * nb) nomv st = true)
    (kk : ∀ r (Z : PS × MS), Postc r (mH Z.1 Z.2) → K pc ls (r.toList ++ st) (F ++ blks F.length (updZ PM x Z) nb) (k + mc') (n + ms')) : CAL G K μ' (.ref (F.length + 18 * x) :: as) pc ls st (F ++ blks F.length PM nb) k n :=
  CAL.blkG (mvJ := nomv) hS hx hF has (fun i h => absurd h (by simp [nomv])) hr hd hk hn hw hN (fun j h => by rw [mvs_nomv] at h; exact h) (fun _ _ _ => rfl) hl hs kk
theorem CAL.one {G : aG} {K : aK} {μ' : Nat} {pc : Nat} {ls : aL} {st : List Value} {k n : Nat} {d' mc' ms' : Nat} (F : aH) {Z : PS × MS} {as : List Value} {mvc : Nat → Bool} {Postc : Option Value → aH → Prop}
    (hS : aSp d' μ' (.ref 0 :: as) (mH Z.1 Z.2) mvc mc' ms' Postc) (hF : okF 1 F) (has : ∀ ρ, as.map (trv ρ) = as) (hmv : ∀ i, mvc i = true → 1 ≤ i) (hr : ∀ r hc', Postc r hc' → (∃ Z : PS × MS, hc' = mH Z.1 Z.2) ∧ ∀ ρ, r.map (trv ρ) = r)
    (hd : d' + 1 ≤ gD G) (hk : k + mc' ≤ gC G) (hn : n + ms' ≤ gS G) (hw : (st.map fun v => v.category).sum ≤ 8) (hN : gN G ≤ F.length + 18) (hm2 : ∀ j, j < gN G → gM G j = false → mvI F.length j = false) (hl : okL (F.length + 18) (mvI F.length) ls = true) (hs : okS (F.length + 18) (mvI F.length) st = true)
    (kk : ∀ r (Z' : PS × MS), Postc r (mH Z'.1 Z'.2) → K pc ls (r.toList ++ st) (F ++ mHB F.length Z') (k + mc') (n + ms')) : CAL G K μ' (.ref F.length :: as) pc ls st (F ++ mHB F.length Z) k n :=
  CAL.blk (nb := 1) (F := F) (PM := fun _ => Z) (x := 0) hS (by decide) hF has hmv hr hd hk hn hw hN hm2 hl hs kk
theorem CAL.oneN {G : aG} {K : aK} {μ' : Nat} {pc : Nat} {ls : aL} {st : List Value} {k n : Nat} {d' mc' ms' : Nat} (F : aH) {Z : PS × MS} {as : List Value} {Postc : Option Value → aH → Prop}
    (hS : aSp d' μ' (.ref 0 :: as) (mH Z.1 Z.2) nomv mc' ms' Postc) (hF : okF 1 F) (has : ∀ ρ, as.map (trv ρ) = as) (hr : ∀ r hc', Postc r hc' → (∃ Z : PS × MS, hc' = mH Z.1 Z.2) ∧ ∀ ρ, r.map (trv ρ) = r)
    (hd : d' + 1 ≤ gD G) (hk : k + mc' ≤ gC G) (hn : n + ms' ≤ gS G) (hw : (st.map fun v => v.category).sum ≤ 8) (hN : gN G ≤ F.length + 18) (hl : okL (F.length + 18) nomv ls = true) (hs : okS (F.length + 18) nomv st = true)
    (kk : ∀ r (Z' : PS × MS), Postc r (mH Z'.1 Z'.2) → K pc ls (r.toList ++ st) (F ++ mHB F.length Z') (k + mc') (n + ms')) : CAL G K μ' (.ref F.length :: as) pc ls st (F ++ mHB F.length Z) k n :=
  CAL.blkN (nb := 1) (F := F) (PM := fun _ => Z) (x := 0) hS (by decide) hF has hr hd hk hn hw hN hl hs kk
theorem mvM_1 : ∀ i, mvM i = true → 1 ≤ i := by
  intro i h
  rcases Nat.eq_zero_or_pos i with z | z
  · subst z
    exact absurd h (by decide)
  · exact z
theorem nomv_1 : ∀ i, nomv i = true → 1 ≤ i := fun i h => absurd h (by simp [nomv])
