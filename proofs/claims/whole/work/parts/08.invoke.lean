/-! ===== calls ===== -/
theorem nT_same {u U : State} (hv : u.vm = U.vm) (h : ∀ w ∈ nT, va_Nw w u) : ∀ w ∈ nT, va_Nw w U := by
  intro w hw
  have h1 := h w hw
  have h2 := (List.mem_filter.mp hw).2
  cases w with
  | fieldLinkNest a i b n d x => exact va_Nw.same rfl hv h1
  | methodLinkNest a i b x => exact va_Nw.same rfl hv h1
  | arrayOver ty =>
    cases ty with
    | object C => exact va_AO.moved (by rw [hv]; exact Vm.Alike.refl U.vm) h1
    | _ => simp [isNw] at h2
  | _ => simp [isNw] at h2
theorem cTab_ok {own idx μ' kn : Nat} {host : String} {p1 p2 p3 : Nat} (hf : (own, idx, μ', kn, host, p1, p2, p3) ∈ cTab) :
    μ' < mN ∧ kn < 6 ∧ (if 3 ≤ kn then Cond.methodLinkNest (cN own) idx (mY μ') host else Cond.methodLink (cN own) idx (mY μ')) ∈ lw_tbl ∧ (if kn = 1 ∨ kn = 4 then Cond.static (mY μ') else Cond.instanceMethod (mY μ')) ∈ lw_tbl ∧ (kn = 0 ∨ kn = 3 → Cond.selects (mY μ').cls (mY μ') (mY μ') ∈ lw_tbl) ∧ (kn = 2 ∨ kn = 5 → (mY μ').name = "<init>" ∧ mR μ' = none) := by
  have h := List.all_eq_true.mp cOk _ hf
  simp only [cOkB, Bool.and_eq_true, Bool.or_eq_true, Bool.not_eq_true', Bool.or_eq_false_iff, decide_eq_true_eq, beq_iff_eq, beq_eq_false_iff_ne] at h
  obtain ⟨⟨⟨⟨⟨h1, h2⟩, h3⟩, h4⟩, h5⟩, h6⟩ := h
  refine ⟨h1, h2, List.mem_of_getElem? h3, List.mem_of_getElem? h4, fun q => ?_, fun q => ?_⟩
  · rcases h5 with h5 | h5
    · omega
    · exact List.mem_of_getElem? h5
  · rcases h6 with h6 | h6
    · omega
    · exact h6
theorem cN_cl : ∀ ci, ci < 11 → (clT ci).1 = cN ci := by decide +kernel
theorem mW_good {μ' : Nat} (h : μ' < mN) : GoodIn gT (mW μ') := by
  intro w hw
  rcases List.mem_cons.mp hw with rfl | hw
  · exact ⟨gT_mem (mCode_mem h) rfl, good_of_word rfl⟩
  · exact ⟨hw, good_of_word (List.mem_filter.mp hw).2⟩
section AWV
variable {μ : Nat} {G : aG} {pc : Nat} {ls : aL} {st : List Value} {h : aH} {k n : Nat}
variable {d' μ' mc' ms' : Nat} {mv' : Nat → Bool} {Post' : Option Value → aH → Prop} {av : List Value}
variable {l : Launch} {D : va_G} {dA : Nat → ClassId} {p : Program} {e : Env} {s : State} {m : MethodId} {args : Array Value} {below : List Frame} {meth : Method} {c : Code} {ρ0 ρ : Nat → Nat} {H : Heap} {locs : List Loc} {lsr : Array Slot}
theorem aw_behind {st0 : List Value} {a : Array Value} (C : aCtx D dA μ p s m args meth c) (S : aSt G D dA s ρ0 ρ h H locs) (L : lv_has lsr (mL μ) (lpr ρ 0 ls))
    (hr : va_Run p l e (aRm (gD G) (gC G) (gS G)) s m args below meth c H locs k n mc' ms' (F0 m pc lsr st0) (st.map (trv ρ)) (aQc (d', h.length, mv', mc', ms', Post') D dA ρ a) (AA ρ h.length H.size))
    (hn : gN G ≤ h.length) (hmv : ∀ j, j < gN G → gM G j = false → mv' j = false) (hl : okL h.length mv' ls = true) (hs : okS h.length mv' st = true)
    (K : ∀ r h', Post' r h' → AW μ G (pc + 3) ls (r.toList ++ st) h' (k + mc') (n + ms')) :
    W p l e (aRm (gD G) (gC G) (gS G)) s m args below meth c H locs k n (MQ below (aQc G D dA ρ0) args s (gC G) (gS G) (AA ρ0 (gN G) s.heap.size)) (F0 m pc lsr st0) := by
  intro T hT X
  obtain ⟨v, st₀, t, T', L', h0, X', hL, e1, e2, ⟨⟨r, h', ρ', hv, hp, hfx', hP', hK', hD'⟩, hz, hk⟩, stp⟩ := hr T hT X
  cases hv
  obtain ⟨hfx, hP, hD, hS⟩ := S
  rw [h0] at hD' hz hk
  have hAA : ∀ q, AA ρ h.length H.size q → AA ρ0 (gN G) s.heap.size q := by
    intro q hq
    rcases hq with ⟨j, hj, rfl⟩ | hq
    · obtain ⟨c0, hc0⟩ : ∃ c0, hget h j = some c0 := by rw [hget_eq]; exact ⟨_, List.getElem?_eq_getElem hj⟩
      exact hD.2 j _ (rws_get0 hc0)
    · exact Or.inr (Nat.le_trans hS.1 hq)
  have hfx2 : ∀ j, j < h.length → mv' j = false → ρ' j = ρ j := fun j h1 h2 => hfx' j h1 h2
  have hS' : va_S (AA ρ0 (gN G) s.heap.size) s.heap T'.heap (locs ++ L') := by
    refine ⟨Nat.le_trans hS.1 (by rw [e1]; exact hz), fun q h1 h2 => ?_, fun q hq => ?_⟩
    · rw [e1, hk q (Nat.lt_of_lt_of_le h1 hS.1) (fun z => h2 (hAA q z))]
      exact hS.2.1 q h1 h2
    · rcases List.mem_append.mp hq with h | h
      · exact hS.2.2 q h
      · exact hAA _ (hL q h)
  have K' := K r h' hp l D dA p e s m args below meth c ρ0 ρ' T'.heap (locs ++ L') lsr C ⟨fun j h1 h2 => (hfx2 j (Nat.lt_of_lt_of_le h1 hn) (hmv j h1 h2)).trans (hfx j h1 h2), by rw [e1]; exact hP', hD'.weaken (fun _ _ _ h => hAA _ h), hS'⟩ (lv_mono L fun q hq => by
    obtain ⟨i, v, h1, rfl⟩ := (lpr_mem _ _ 0 q).mp hq
    exact (lpr_mem _ _ 0 _).mpr ⟨i, v, h1, by rw [okL_tr hfx2 hl i v h1]⟩)
  obtain ⟨t2, a1, b1⟩ := K' T' rfl X'
  refine ⟨t2, stp t2 ?_, b1⟩
  have e3 : (r.toList ++ st).map (trv ρ') = (r.map (trv ρ')).toList ++ st.map (trv ρ) := by
    rw [List.map_append, okS_tr hfx2 hs]
    cases r <;> rfl
  rw [e3] at a1
  exact a1
theorem aw_pre (hS : aSp d' μ' av h mv' mc' ms' Post') (C : aCtx D dA μ p s m args meth c) (S : aSt G D dA s ρ0 ρ h H locs) : PreS s H (va_Pc (av.map (trv ρ)) (fun U => U.heap.size = H.size ∧ va_P D aCl (rws dA ρ 0 h) U.heap ∧ va_K D aCl (aTy dA) U ∧ va_D (fun _ => True) (rws dA ρ 0 h) ∧ ∀ w ∈ nT, va_Nw w U)) (av.map (trv ρ)) :=
  ⟨fun a U g mk q => by
    obtain ⟨q0, q1, qP, qK, qD, qN⟩ := q
    exact ⟨q0, q1, qP, va_K.moved (u := U) (U := U.calling g mk a) (Vm.Alike.refl U.vm) qK, qD, nT_same (u := U) (U := U.calling g mk a) rfl qN⟩, fun U hU hW => ⟨rfl, by rw [hU], by rw [hU]; exact S.2.1, va_K.moved hW.alike C.2.2.2.2.2.2.2.2.1, S.2.2.1.weaken (fun _ _ _ _ => trivial), nT_warm hW C.2.2.2.2.2.2.1⟩⟩
theorem aw_callV {idx kn b ci : Nat} {host : String} {p1 p2 p3 : Nat} {fs : List Value} (hd : decode (mB μ) pc = .ok (.invokevirtual idx, 3)) (hμ : cN (mK μ) = (mY μ).cls) (hf : (mK μ, idx, μ', kn, host, p1, p2, p3) ∈ cTab) (hkn : kn = 0 ∨ kn = 3) (hci : mK μ' = ci) (hcl : ci < 11) (hrc : hget h b = some (.inr (ci, fs))) (hS : aSp d' μ' (.ref b :: av) h mv' mc' ms' Post') (hlen : av.length = mP μ') (hdep : d' + 1 ≤ gD G) (hkc : k + mc' ≤ gC G) (hns : n + ms' ≤ gS G) (hw : (st.map fun v => v.category).sum ≤ 8)
    (hn : gN G ≤ h.length) (hmv : ∀ j, j < gN G → gM G j = false → mv' j = false) (hl : okL h.length mv' ls = true) (hs : okS h.length mv' st = true)
    (K : ∀ r h', Post' r h' → AW μ G (pc + 3) ls (r.toList ++ st) h' (k + mc') (n + ms')) : AW μ G pc ls (av.reverse ++ .ref b :: st) h k n := by
  intro l D dA p e s m args below meth c ρ0 ρ H locs lsr C S L
  obtain ⟨f1, f2, f3, f4, f5, f6⟩ := cTab_ok hf
  rw [hμ] at f3
  obtain ⟨g1, g2, g3, g4, g5, g7, g6⟩ := mTab_ok f1
  have hG := C.2.2.2.2.2.1
  have hcls : (clT ci).1 = (mY μ').cls := by
    rw [← g6, hci]
    exact cN_cl ci hcl
  have hp := aw_pre hS C S
  have hR : d' + 1 ≤ (aRm (gD G) (gC G) (gS G)).frames ∧ 8 + (mL μ' + 11) + (aRm d' mc' ms').locals ≤ (aRm (gD G) (gC G) (gS G)).locals := ⟨hdep, by show 8 + (mL μ' + 11) + 100 * d' ≤ 100 * gD G; omega⟩
  have hpv : PreV s H (mY μ').cls (ρ b) (va_Pc ((Value.ref b :: av).map (trv ρ)) (fun U => U.heap.size = H.size ∧ va_P D aCl (rws dA ρ 0 h) U.heap ∧ va_K D aCl (aTy dA) U ∧ va_D (fun _ => True) (rws dA ρ 0 h) ∧ ∀ w ∈ nT, va_Nw w U)) (av.map (trv ρ)) := ⟨hp.1, by rw [← hcls]; exact va_recv C.2.2.2.2.2.2.2.2.1 S.2.1 (clT_get hcl) (rws_get0 hrc), hp.2⟩
  have est : (av.reverse ++ .ref b :: st).map (trv ρ) = (av.map (trv ρ)).reverse ++ .ref (ρ b) :: st.map (trv ρ) := by
    rw [List.map_append, List.map_reverse]; rfl
  rw [est]
  have hW8 : 2 * (F0 m pc lsr ((av.map (trv ρ)).reverse ++ .ref (ρ b) :: st.map (trv ρ))).monitorRoom + ((st.map (trv ρ)).map fun v => v.category).sum ≤ 8 := by
    rw [map_cat]; show 2 * 0 + _ ≤ 8; omega
  rcases hkn with rfl | rfl
  · refine aw_behind C S L (va_runV ⟨C.1, C.2.1, C.2.2.2.1, C.2.2.2.2.1, hG⟩ (hS l D dA ρ H.size) ⟨callB_of (mP μ') hG (mW_good f1) rfl rfl rfl (hG _ (gT_mem g3 rfl)) (hG _ (gT_mem f3 rfl)) ⟨g2.1, g2.2, g5⟩ hR, hG _ (gT_mem f4 rfl), hG _ (gT_mem (f5 (Or.inl rfl)) rfl)⟩ hpv rfl (by rw [List.length_map]; exact hlen) L.1 rfl hW8 hd ⟨hkc, hns⟩) hn hmv hl hs K
  · refine aw_behind C S L (va_runVN ⟨C.1, C.2.1, C.2.2.2.1, C.2.2.2.2.1, hG⟩ (hS l D dA ρ H.size) ⟨va_cnB (mP μ') hG (mW_good f1) rfl rfl rfl (C.2.2.2.2.2.2.1 _ (nT_mem f3 rfl)) (hG _ (gT_mem g3 rfl)) ⟨g2.1, g2.2, g5⟩ hR, hG _ (gT_mem f4 rfl), hG _ (gT_mem (f5 (Or.inr rfl)) rfl)⟩ hpv rfl (by rw [List.length_map]; exact hlen) L.1 rfl hW8 hd ⟨hkc, hns⟩) hn hmv hl hs K
theorem aw_callI {idx kn b : Nat} {host : String} {p1 p2 p3 : Nat} (hd : decode (mB μ) pc = .ok (.invokespecial idx, 3)) (hμ : cN (mK μ) = (mY μ).cls) (hf : (mK μ, idx, μ', kn, host, p1, p2, p3) ∈ cTab) (hkn : kn = 2 ∨ kn = 5) (hS : aSp d' μ' (.ref b :: av) h mv' mc' ms' Post') (hlen : av.length = mP μ') (hdep : d' + 1 ≤ gD G) (hkc : k + mc' ≤ gC G) (hns : n + ms' ≤ gS G) (hw : (st.map fun v => v.category).sum ≤ 8)
    (hn : gN G ≤ h.length) (hmv : ∀ j, j < gN G → gM G j = false → mv' j = false) (hl : okL h.length mv' ls = true) (hs : okS h.length mv' st = true)
    (K : ∀ r h', Post' r h' → AW μ G (pc + 3) ls (r.toList ++ st) h' (k + mc') (n + ms')) : AW μ G pc ls (av.reverse ++ .ref b :: st) h k n := by
  intro l D dA p e s m args below meth c ρ0 ρ H locs lsr C S L
  obtain ⟨f1, f2, f3, f4, f5, f6⟩ := cTab_ok hf
  rw [hμ] at f3
  obtain ⟨g1, g2, g3, g4, g5, g7, g6⟩ := mTab_ok f1
  obtain ⟨f8, f7⟩ := f6 hkn
  have hG := C.2.2.2.2.2.1
  have hp := aw_pre hS C S
  have hR : d' + 1 ≤ (aRm (gD G) (gC G) (gS G)).frames ∧ 8 + (mL μ' + 11) + (aRm d' mc' ms').locals ≤ (aRm (gD G) (gC G) (gS G)).locals := ⟨hdep, by show 8 + (mL μ' + 11) + 100 * d' ≤ 100 * gD G; omega⟩
  have est : (av.reverse ++ .ref b :: st).map (trv ρ) = (av.map (trv ρ)).reverse ++ .ref (ρ b) :: st.map (trv ρ) := by
    rw [List.map_append, List.map_reverse]; rfl
  rw [est]
  have hW8 : 2 * (F0 m pc lsr ((av.map (trv ρ)).reverse ++ .ref (ρ b) :: st.map (trv ρ))).monitorRoom + ((st.map (trv ρ)).map fun v => v.category).sum ≤ 8 := by
    rw [map_cat]; show 2 * 0 + _ ≤ 8; omega
  have hcw : mW μ' = Cond.code (mY μ') (mB μ') (mL μ') none :: lw_tbl.filter goodWord := by rw [← f7]; rfl
  rcases hkn with rfl | rfl
  · refine aw_behind C S L (va_runI ⟨C.1, C.2.1, C.2.2.2.1, C.2.2.2.2.1, hG⟩ (hS l D dA ρ H.size) ⟨callB_of (mP μ') hG (mW_good f1) hcw rfl rfl (hG _ (gT_mem g3 rfl)) (hG _ (gT_mem f3 rfl)) ⟨g2.1, g2.2, g5⟩ hR, f8, hG _ (gT_mem f4 rfl)⟩ hp rfl (by rw [List.length_map]; exact hlen) L.1 rfl hW8 hd ⟨hkc, hns⟩) hn hmv hl hs K
  · refine aw_behind C S L (va_runIN ⟨C.1, C.2.1, C.2.2.2.1, C.2.2.2.2.1, hG⟩ (hS l D dA ρ H.size) ⟨va_cnB (mP μ') hG (mW_good f1) hcw rfl rfl (C.2.2.2.2.2.2.1 _ (nT_mem f3 rfl)) (hG _ (gT_mem g3 rfl)) ⟨g2.1, g2.2, g5⟩ hR, f8, hG _ (gT_mem f4 rfl)⟩ hp rfl (by rw [List.length_map]; exact hlen) L.1 rfl hW8 hd ⟨hkc, hns⟩) hn hmv hl hs K
theorem aw_callS {idx kn : Nat} {host : String} {p1 p2 p3 : Nat} (hd : decode (mB μ) pc = .ok (.invokestatic idx, 3)) (hμ : cN (mK μ) = (mY μ).cls) (hf : (mK μ, idx, μ', kn, host, p1, p2, p3) ∈ cTab) (hkn : kn = 1 ∨ kn = 4) (hS : aSp d' μ' av h mv' mc' ms' Post') (hlen : av.length = mP μ') (hdep : d' + 1 ≤ gD G) (hkc : k + mc' ≤ gC G) (hns : n + ms' ≤ gS G) (hw : (st.map fun v => v.category).sum ≤ 8)
    (hn : gN G ≤ h.length) (hmv : ∀ j, j < gN G → gM G j = false → mv' j = false) (hl : okL h.length mv' ls = true) (hs : okS h.length mv' st = true)
    (K : ∀ r h', Post' r h' → AW μ G (pc + 3) ls (r.toList ++ st) h' (k + mc') (n + ms')) : AW μ G pc ls (av.reverse ++ st) h k n := by
  intro l D dA p e s m args below meth c ρ0 ρ H locs lsr C S L
  obtain ⟨f1, f2, f3, f4, f5, f6⟩ := cTab_ok hf
  rw [hμ] at f3
  obtain ⟨g1, g2, g3, g4, g5, g7, g6⟩ := mTab_ok f1
  have hG := C.2.2.2.2.2.1
  have hp := aw_pre hS C S
  have hR : d' + 1 ≤ (aRm (gD G) (gC G) (gS G)).frames ∧ 8 + (mL μ' + 11) + (aRm d' mc' ms').locals ≤ (aRm (gD G) (gC G) (gS G)).locals := ⟨hdep, by show 8 + (mL μ' + 11) + 100 * d' ≤ 100 * gD G; omega⟩
  have est : (av.reverse ++ st).map (trv ρ) = (av.map (trv ρ)).reverse ++ st.map (trv ρ) := by
    rw [List.map_append, List.map_reverse]
  rw [est]
  have hW8 : 2 * (F0 m pc lsr ((av.map (trv ρ)).reverse ++ st.map (trv ρ))).monitorRoom + ((st.map (trv ρ)).map fun v => v.category).sum ≤ 8 := by
    rw [map_cat]; show 2 * 0 + _ ≤ 8; omega
  rcases hkn with rfl | rfl
  · refine aw_behind C S L (va_runS ⟨C.1, C.2.1, C.2.2.2.1, C.2.2.2.2.1, hG⟩ (hS l D dA ρ H.size) ⟨callB_of (mP μ') hG (mW_good f1) rfl rfl rfl (hG _ (gT_mem g3 rfl)) (hG _ (gT_mem f3 rfl)) ⟨g2.1, g2.2, g5⟩ hR, hG _ (gT_mem f4 rfl)⟩ hp rfl (by rw [List.length_map]; exact hlen) L.1 rfl hW8 hd ⟨hkc, hns⟩) hn hmv hl hs K
  · refine aw_behind C S L (va_runSN ⟨C.1, C.2.1, C.2.2.2.1, C.2.2.2.2.1, hG⟩ (hS l D dA ρ H.size) ⟨va_cnB (mP μ') hG (mW_good f1) rfl rfl rfl (C.2.2.2.2.2.2.1 _ (nT_mem f3 rfl)) (hG _ (gT_mem g3 rfl)) ⟨g2.1, g2.2, g5⟩ hR, hG _ (gT_mem f4 rfl), trivial⟩ hp rfl (by rw [List.length_map]; exact hlen) L.1 rfl hW8 hd ⟨hkc, hns⟩) hn hmv hl hs K
end AWV
