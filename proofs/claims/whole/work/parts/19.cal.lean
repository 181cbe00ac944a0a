/-! ===== how a call is met ===== -/
def okHB (n : Nat) (mv : Nat → Bool) : aH → Bool
  | [] => true
  | .inl (_, _, .inr (.inr (.inr (.inr _)))) :: _ => false
  | .inl (_, _, .inl _) :: h => okHB n mv h
  | .inl (_, _, .inr (.inl _)) :: h => okHB n mv h
  | .inl (_, _, .inr (.inr (.inl _))) :: h => okHB n mv h
  | .inl (_, _, .inr (.inr (.inr (.inl _)))) :: h => okHB n mv h
  | .inr (_, fs) :: h => okS n mv fs && okHB n mv h
theorem okHB_ok {n : Nat} {mv : Nat → Bool} : ∀ {h : aH}, okHB n mv h = true → okH n mv h
  | [], _ => trivial
  | .inl (_, _, .inr (.inr (.inr (.inr _)))) :: _, q => by simp [okHB] at q
  | .inl (_, _, .inl _) :: h, q => ⟨trivial, okHB_ok (h := h) q⟩
  | .inl (_, _, .inr (.inl _)) :: h, q => ⟨trivial, okHB_ok (h := h) q⟩
  | .inl (_, _, .inr (.inr (.inl _))) :: h, q => ⟨trivial, okHB_ok (h := h) q⟩
  | .inl (_, _, .inr (.inr (.inr (.inl _)))) :: h, q => ⟨trivial, okHB_ok (h := h) q⟩
  | .inr (_, fs) :: h, q => by
    simp only [okHB, Bool.and_eq_true] at q
    exact ⟨q.1, okHB_ok (h := h) q.2⟩
section CALS
variable {G : aG} {K : aK} {μ' : Nat} {av : List Value} {pc : Nat} {ls : aL} {st : List Value} {h : aH} {k n : Nat} {d' mc' ms' : Nat}
theorem CAL.dir {Post' : Option Value → aH → Prop} (hS : aSp d' μ' av h nomv mc' ms' Post') (hd : d' + 1 ≤ gD G) (hk : k + mc' ≤ gC G) (hn : n + ms' ≤ gS G) (hw : (st.map fun v => v.category).sum ≤ 8) (hN : gN G ≤ h.length) (hl : okL h.length nomv ls = true) (hs : okS h.length nomv st = true) (kk : ∀ r h', Post' r h' → K pc ls (r.toList ++ st) h' (k + mc') (n + ms')) : CAL G K μ' av pc ls st h k n :=
  ⟨d', nomv, mc', ms', Post', hS, hd, hk, hn, hw, hN, fun _ _ _ => rfl, hl, hs, kk⟩
theorem CAL.mv {avc : List Value} {hc : aH} {mvc : Nat → Bool} {Postc : Option Value → aH → Prop} (hS : aSp d' μ' avc hc mvc mc' ms' Postc) (js : List Nat) (hav : av = avc.map (trv (sg js h.length))) (hlen : js.length = hc.length) (hm : js.map (hget h) = hc.map (fun c => some (renc (sg js h.length) c))) (hnd : js.Nodup) (hok : ∀ j c, hget h j = some c → j ∉ js → okC h.length (mvs mvc js 0) c) (hpl : ∀ r hc', Postc r hc' → hc.length ≤ hc'.length)
    (hd : d' + 1 ≤ gD G) (hk : k + mc' ≤ gC G) (hn : n + ms' ≤ gS G) (hw : (st.map fun v => v.category).sum ≤ 8) (hN : gN G ≤ h.length) (hmv : ∀ j, j < gN G → gM G j = false → mvs mvc js 0 j = false) (hl : okL h.length (mvs mvc js 0) ls = true) (hs : okS h.length (mvs mvc js 0) st = true)
    (kk : ∀ r0 hc', Postc r0 hc' → K pc ls ((r0.map (trv (sg js h.length))).toList ++ st) (mrg (sg js h.length) h js hc') (k + mc') (n + ms')) : CAL G K μ' av pc ls st h k n := by
  subst hav
  refine ⟨d', mvs mvc js 0, mc', ms', _, sp_lift hS js hlen hm hnd hok hpl, hd, hk, hn, hw, hN, hmv, hl, hs, ?_⟩
  rintro r h' ⟨r0, hc', p1, rfl, rfl⟩
  exact kk r0 hc' p1
theorem mvs_nomv (js : List Nat) (i : Nat) : mvs nomv js i = nomv := funext fun j => mvs_no js i j
theorem CAL.nmP {avc : List Value} {hc : aH} {Postc : Option Value → aH → Prop} (hS : aSp d' μ' avc hc nomv mc' ms' Postc) (js : List Nat) (hav : av = avc.map (trv (sg js h.length))) (hlen : js.length = hc.length) (hm : js.map (hget h) = hc.map (fun c => some (renc (sg js h.length) c))) (hnd : js.Nodup) (hok : okH h.length nomv h) (hpl : ∀ r hc', Postc r hc' → hc.length ≤ hc'.length)
    (hd : d' + 1 ≤ gD G) (hk : k + mc' ≤ gC G) (hn : n + ms' ≤ gS G) (hw : (st.map fun v => v.category).sum ≤ 8) (hN : gN G ≤ h.length) (hl : okL h.length nomv ls = true) (hs : okS h.length nomv st = true)
    (kk : ∀ r0 hc', Postc r0 hc' → K pc ls ((r0.map (trv (sg js h.length))).toList ++ st) (mrg (sg js h.length) h js hc') (k + mc') (n + ms')) : CAL G K μ' av pc ls st h k n := by
  refine CAL.mv hS js hav hlen hm hnd (fun j c q _ => ?_) hpl hd hk hn hw hN (fun j _ _ => mvs_no js 0 j) ?_ ?_ kk
  · rw [mvs_nomv]; exact okH_get hok q
  · rw [mvs_nomv]; exact hl
  · rw [mvs_nomv]; exact hs
theorem CAL.nm {avc : List Value} {hc : aH} {Postc : Option Value → aH → Prop} (hS : aSp d' μ' avc hc nomv mc' ms' Postc) (js : List Nat) (hav : av = avc.map (trv (sg js h.length))) (hlen : js.length = hc.length) (hm : js.map (hget h) = hc.map (fun c => some (renc (sg js h.length) c))) (hnd : js.Nodup) (hok : okHB h.length nomv h = true) (hpl : ∀ r hc', Postc r hc' → hc.length ≤ hc'.length)
    (hd : d' + 1 ≤ gD G) (hk : k + mc' ≤ gC G) (hn : n + ms' ≤ gS G) (hw : (st.map fun v => v.category).sum ≤ 8) (hN : gN G ≤ h.length) (hl : okL h.length nomv ls = true) (hs : okS h.length nomv st = true)
    (kk : ∀ r0 hc', Postc r0 hc' → K pc ls ((r0.map (trv (sg js h.length))).toList ++ st) (mrg (sg js h.length) h js hc') (k + mc') (n + ms')) : CAL G K μ' av pc ls st h k n :=
  CAL.nmP hS js hav hlen hm hnd (okHB_ok hok) hpl hd hk hn hw hN hl hs kk
end CALS
def bN : Bool → Int32
  | true => nI 1
  | false => nI 0
theorem ren_map {h h' : aH} {τ : Nat → Nat} (hm : (List.range h'.length).map (fun i => hget h (τ i)) = h'.map (fun c => some (renc τ c))) : ∀ i c, hget h' i = some c → hget h (τ i) = some (renc τ c) := by
  intro i c hc
  have hi := hget_lt hc
  have h1 := congrArg (fun x : List (Option aC) => x[i]?) hm
  rw [hget_eq] at hc
  simp only [List.getElem?_map, hc, List.getElem?_range hi, Option.map_some, Option.some.injEq] at h1
  exact h1
theorem ren_inj {N : Nat} {τ : Nat → Nat} (hn : ((List.range N).map τ).Nodup) : ∀ i j, i < N → j < N → τ i = τ j → i = j := by
  intro i j hi hj q
  have := nd_inj hn (i := i) (j := j) (by simpa using hi) (by simpa using hj) (by simpa using q)
  exact this
theorem RET.ren {G : aG} {r : Option Value} {h : aH} {k n : Nat} (τ : Nat → Nat) (h' : aH) (r' : Option Value) (hm : (List.range h'.length).map (fun i => hget h (τ i)) = h'.map (fun c => some (renc τ c))) (hn : ((List.range h'.length).map τ).Nodup) (hf : ∀ j, j < gN G → gM G j = false → τ j = j) (hr : r = r'.map (trv τ)) (hp : gP G r' h') (hk : k ≤ gC G) (hs : n ≤ gS G) : RET G r h k n :=
  ⟨τ, h', r', ren_map hm, ren_inj hn, hf, hr, hp, hk, hs⟩
theorem aw_rens {μ : Nat} {G : aG} {pc : Nat} {ls : aL} {st : List Value} {h : aH} {k n : Nat} (τ : Nat → Nat) (h' : aH) (ls' : aL) (st' : List Value) (hm : (List.range h'.length).map (fun i => hget h (τ i)) = h'.map (fun c => some (renc τ c))) (hn : ((List.range h'.length).map τ).Nodup) (hf : ∀ j, j < gN G → gM G j = false → τ j = j) (hl : ls = ls'.map (fun o => o.map (trv τ))) (hs : st = st'.map (trv τ)) (K : AW μ G pc ls' st' h' k n) : AW μ G pc ls st h k n := by
  refine aw_ren (ren_map hm) (ren_inj hn) hf (fun i v q => ?_) hs K
  subst hl
  clear hm K hs
  induction ls' generalizing i with
  | nil => simp [lget] at q
  | cons o l ih =>
    cases i with
    | zero => simp only [lget] at q; subst q; rfl
    | succ i => exact ih i q
theorem oNew.mk {G : aG} {c : aC} {sz : Nat} {K : aK} {pc : Nat} {ls : aL} {st : List Value} {h : aH} {k n : Nat} (hk : k + 1 ≤ gC G) (hs : n + sz ≤ gS G) (hN : gN G ≤ h.length) (hok : okHB h.length nomv h = true) (hl : okL h.length nomv ls = true) (hst : okS h.length nomv st = true) (kk : K pc ls (.ref h.length :: st) (h ++ [c]) (k + 1) (n + sz)) : oNew G c sz K pc ls st h k n :=
  ⟨hk, hs, hN, okHB_ok hok, hl, hst, kk⟩
