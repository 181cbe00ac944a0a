/-! BookJudge and a text -/
abbrev gF (dp br fl du en le ah de : Int32) (ow st : Nat → Int32) (tl : Int32) (tb : Nat → Int32) : aH := [.inr (0, [.ref 1, .ref 2, .int dp, .int br, .int fl, .int du, .int en, .int le, .int ah, .int de]), .inl (1, 9, .inl ow), .inl (1, 9, .inl st), .inr (3, [.ref 4]), .inl (3, 9, .inr (.inr (.inr (.inr (aF 7))))), .inr (8, [.ref 6, .int tl]), .inl (0, 150, .inl tb)]
theorem okF_gF (dp br fl du en le ah de : Int32) (ow st : Nat → Int32) (tl : Int32) (tb : Nat → Int32) : okF 9 (gF dp br fl du en le ah de ow st tl tb) := ⟨rfl, trivial, trivial, rfl, aF_ok, rfl, trivial, trivial⟩
theorem aF_ren {js0 : List Nat} {b b2 N : Nat} (h : js0.length = b) : (fun i => (aF b i).map (sg (jsE js0 b2) N)) = aF b2 := by
  funext i
  unfold aF
  split
  · rw [Option.map_some, ← h, jsE_sgB (by omega)]
  · rfl
abbrev sgG : Nat → Nat := sg (jsE [0, 1, 2, 3, 4] 7) 169
theorem sgG_i (i : Nat) (h : i < 5) : sgG i = i := by
  match i, h with
  | 0, _ => rfl
  | 1, _ => rfl
  | 2, _ => rfl
  | 3, _ => rfl
  | 4, _ => rfl
theorem bF_ren (dp br fl du en le ah de : Int32) (ow st : Nat → Int32) : (bF dp br fl du en le ah de ow st).map (renc sgG) = [.inr (0, [.ref 1, .ref 2, .int dp, .int br, .int fl, .int du, .int en, .int le, .int ah, .int de]), .inl (1, 9, .inl ow), .inl (1, 9, .inl st), .inr (3, [.ref 4]), .inl (3, 9, .inr (.inr (.inr (.inr (aF 7)))))] := by
  simp only [bF, List.map_cons, List.map_nil, renc, trv, tra, sgG_i 1 (by decide), sgG_i 2 (by decide), sgG_i 3 (by decide), sgG_i 4 (by decide)]
  rw [show (fun i => (aF 5 i).map sgG) = aF 7 from aF_ren rfl]
section GO
variable {G : aG} {K : aK} {μ' : Nat} {pc : Nat} {ls : aL} {st0 : List Value} {k n : Nat} {d' mc' ms' : Nat} {dp br fl du en le ah de : Int32} {ow st : Nat → Int32} {tl : Int32} {tb : Nat → Int32} {PM : Nat → PS × MS} {as : List Value} {Postc : Option Value → aH → Prop}
theorem CAL.bkG {mvc mvJ : Nat → Bool} (hS : aSp d' μ' (.ref 0 :: as) (bH dp br fl du en le ah de ow st PM) mvc mc' ms' Postc) (has : as.map (trv sgG) = as) (hmv : ∀ j, mvc j = true → mvI 5 j = true)
    (hr : ∀ r hc', Postc r hc' → ∀ ρ, r.map (trv ρ) = r)
    (hd : d' + 1 ≤ gD G) (hk : k + mc' ≤ gC G) (hn : n + ms' ≤ gS G) (hw : (st0.map fun v => v.category).sum ≤ 8) (hN : gN G ≤ 169) (hJ : ∀ j, mvs mvc (jsE [0, 1, 2, 3, 4] 7) 0 j = true → mvJ j = true) (hm2 : ∀ j, j < gN G → gM G j = false → mvJ j = false) (hl : okL 169 mvJ ls = true) (hs : okS 169 mvJ st0 = true)
    (kk : ∀ r hc', Postc r hc' → ∃ dp br fl du en le ah de ow st PM', hc' = bH dp br fl du en le ah de ow st PM' ∧ K pc ls (r.toList ++ st0) (gF dp br fl du en le ah de ow st tl tb ++ blks 7 PM' 9) (k + mc') (n + ms')) : CAL G K μ' (.ref 0 :: as) pc ls st0 (gF dp br fl du en le ah de ow st tl tb ++ blks 7 PM 9) k n := by
  refine CAL.emb (F := bF dp br fl du en le ah de ow st) (F2 := gF dp br fl du en le ah de ow st tl tb) (mvJ := mvJ) hS [0, 1, 2, 3, 4] ?_ rfl (by decide) (show ∀ j ∈ [0, 1, 2, 3, 4], j < 7 by decide) ?_ (okF_gF ..) hmv ?_ hd hk hn hw hN hJ hm2 hl hs ?_
  · show _ = trv sgG (.ref 0) :: as.map (trv sgG)
    rw [has]
    rfl
  · have e : (bF dp br fl du en le ah de ow st).map (fun c => some (renc sgG c)) = ((bF dp br fl du en le ah de ow st).map (renc sgG)).map some := by
      rw [List.map_map]
      rfl
    show _ = (bF dp br fl du en le ah de ow st).map (fun c => some (renc sgG c))
    rw [e, bF_ren]
    rfl
  · intro r hc' q
    obtain ⟨dp, br, fl, du, en, le, ah, de, ow, st, PM', rfl, -⟩ := kk r hc' q
    exact ⟨bF dp br fl du en le ah de ow st, PM', rfl, rfl⟩
  · intro r F' PM' q hF'
    obtain ⟨dp', br', fl', du', en', le', ah', de', ow', st', PM2, e, hK⟩ := kk r _ q
    have hrr := hr r _ q
    have e1 : F' = bF dp' br' fl' du' en' le' ah' de' ow' st' := (List.append_inj e hF').1
    have e2 : blks 5 PM' 9 = blks 5 PM2 9 := (List.append_inj e hF').2
    subst e1
    rw [hrr]
    have e3 : blks 7 PM' 9 = blks 7 PM2 9 := by
      rw [← blks_ren (σ := fun i => i + 2) (b := 5) (b2 := 7) (PM := PM') 9 (fun i _ => by omega), ← blks_ren (σ := fun i => i + 2) (b := 5) (b2 := 7) (PM := PM2) 9 (fun i _ => by omega), e2]
    have e4 : mrg sgG (gF dp br fl du en le ah de ow st tl tb) [0, 1, 2, 3, 4] (bF dp' br' fl' du' en' le' ah' de' ow' st') = gF dp' br' fl' du' en' le' ah' de' ow' st' tl tb := by
      have hb := bF_ren dp' br' fl' du' en' le' ah' de' ow' st'
      simp only [bF, List.map_cons, List.map_nil] at hb
      simp only [List.cons.injEq, and_true] at hb
      obtain ⟨h0, h1, h2, h3, h4⟩ := hb
      simp only [bF, gF, mrg, hset, h0, h1, h2, h3, h4, List.map_nil, List.append_nil]
    have := hK
    rw [← e3] at this
    show K pc ls _ (mrg sgG (gF dp br fl du en le ah de ow st tl tb) [0, 1, 2, 3, 4] (bF dp' br' fl' du' en' le' ah' de' ow' st') ++ blks 7 PM' 9) _ _
    rw [e4]
    exact this
theorem CAL.bkN (hS : aSp d' μ' (.ref 0 :: as) (bH dp br fl du en le ah de ow st PM) nomv mc' ms' Postc) (has : as.map (trv sgG) = as)
    (hr : ∀ r hc', Postc r hc' → ∀ ρ, r.map (trv ρ) = r)
    (hd : d' + 1 ≤ gD G) (hk : k + mc' ≤ gC G) (hn : n + ms' ≤ gS G) (hw : (st0.map fun v => v.category).sum ≤ 8) (hN : gN G ≤ 169) (hl : okL 169 nomv ls = true) (hs : okS 169 nomv st0 = true)
    (kk : ∀ r hc', Postc r hc' → ∃ dp br fl du en le ah de ow st PM', hc' = bH dp br fl du en le ah de ow st PM' ∧ K pc ls (r.toList ++ st0) (gF dp br fl du en le ah de ow st tl tb ++ blks 7 PM' 9) (k + mc') (n + ms')) : CAL G K μ' (.ref 0 :: as) pc ls st0 (gF dp br fl du en le ah de ow st tl tb ++ blks 7 PM 9) k n :=
  CAL.bkG (mvJ := nomv) hS has (fun j h => absurd h (by simp [nomv])) hr hd hk hn hw hN (fun j h => by rw [mvs_nomv] at h; exact h) (fun _ _ _ => rfl) hl hs kk
theorem CAL.bkM (hS : aSp d' μ' (.ref 0 :: as) (bH dp br fl du en le ah de ow st PM) (mvI 5) mc' ms' Postc) (has : as.map (trv sgG) = as)
    (hr : ∀ r hc', Postc r hc' → ∀ ρ, r.map (trv ρ) = r)
    (hd : d' + 1 ≤ gD G) (hk : k + mc' ≤ gC G) (hn : n + ms' ≤ gS G) (hw : (st0.map fun v => v.category).sum ≤ 8) (hN : gN G ≤ 169) (hm : gM G = mvI 7) (hl : okL 169 (mvI 7) ls = true) (hs : okS 169 (mvI 7) st0 = true)
    (kk : ∀ r hc', Postc r hc' → ∃ dp br fl du en le ah de ow st PM', hc' = bH dp br fl du en le ah de ow st PM' ∧ K pc ls (r.toList ++ st0) (gF dp br fl du en le ah de ow st tl tb ++ blks 7 PM' 9) (k + mc') (n + ms')) : CAL G K μ' (.ref 0 :: as) pc ls st0 (gF dp br fl du en le ah de ow st tl tb ++ blks 7 PM 9) k n := by
  refine CAL.bkG (mvJ := mvI 7) hS has (fun j h => h) hr hd hk hn hw hN ?_ (fun j _ h => by rw [← hm]; exact h) hl hs kk
  intro j h
  obtain ⟨k2, hk2, h1, h2⟩ := mvs_t _ _ _ h
  rw [Nat.zero_add] at h2
  unfold mvI at h2
  simp only [Bool.and_eq_true, Nat.ble_eq, Bool.not_eq_true', beq_eq_false_iff_ne] at h2
  rw [jsE_len] at hk2
  have hk4 : k2 < 5 + 162 := hk2
  obtain ⟨i, rfl⟩ : ∃ i, k2 = 5 + i := ⟨k2 - 5, by omega⟩
  have e := jsE_getB (js0 := [0, 1, 2, 3, 4]) (b2 := 7) (show i < 162 by omega)
  have hk3 : 5 + i < (jsE [0, 1, 2, 3, 4] 7).length := by rw [jsE_len]; exact hk2
  have e2 : (jsE [0, 1, 2, 3, 4] 7)[5 + i] = 7 + i := Option.some.inj ((List.getElem?_eq_getElem hk3).symm.trans e)
  rw [← h1, e2]
  unfold mvI
  simp only [Bool.and_eq_true, Nat.ble_eq, Bool.not_eq_true', beq_eq_false_iff_ne]
  omega
end GO
