/-! The law: its world, and a call in it -/
def lA (s : State) : Nat → Prop := fun q => s.heap.size ≤ q
def lC (D : va_G) (dA : Nat → ClassId) (p : Program) (s : State) (m : MethodId) (b L : Nat) (xs : Nat → Int32) (meth : Method) (c : Code) : Prop := p.tables.exec = Jvm.exec ∧ c.code = code ∧ meth.sig.returnType = ret ∧ c.maxLocals = 4 ∧ s.vm.findClass R_law = some m.cls ∧ (∀ w ∈ gT, w.before #[Value.ref b] s = true) ∧ (∀ w ∈ nT, va_Nw w s) ∧ meth.locks = false ∧ va_K D aCl (aTy dA) s ∧ va_X b L xs s s.heap ∧ b < s.heap.size
/-- the cells of both sides, apart -/
def lS (D : va_G) (dA : Nat → ClassId) (s : State) (ρ1 ρ2 : Nat → Nat) (h1 h2 : aH) (H : Heap) (locs : List Loc) : Prop := va_P D aCl (rws dA ρ1 0 h1) H ∧ va_P D aCl (rws dA ρ2 0 h2) H ∧ va_D (lA s) (rws dA ρ1 0 h1) ∧ va_D (lA s) (rws dA ρ2 0 h2) ∧ (∀ i j, i < h1.length → j < h2.length → ρ1 i ≠ ρ2 j) ∧ va_S (lA s) s.heap H locs
section LW
variable {l : Launch} {D : va_G} {dA : Nat → ClassId} {p : Program} {e : Env} {s : State} {m : MethodId} {b L : Nat} {xs : Nat → Int32} {below : List Frame} {meth : Method} {c : Code} {ρ1 ρ2 : Nat → Nat} {h1 h2 : aH} {H : Heap} {locs : List Loc} {lsr : Array Slot} {k n pc : Nat} {st : List Value} {Q : State → Prop}
theorem lS.symm (S : lS D dA s ρ1 ρ2 h1 h2 H locs) : lS D dA s ρ2 ρ1 h2 h1 H locs := ⟨S.2.1, S.1, S.2.2.2.1, S.2.2.1, fun i j hi hj q => S.2.2.2.2.1 j i hj hi q.symm, S.2.2.2.2.2⟩
variable {d' μ' mc' ms' : Nat} {mv' : Nat → Bool} {Post' : Option Value → aH → Prop} {av : List Value}
theorem law_behind {st0 : List Value} {a : Array Value} (S : lS D dA s ρ1 ρ2 h1 h2 H locs)
    (hr : va_Run p l e room_1 s m #[Value.ref b] below meth c H locs k n mc' ms' (F0 m pc lsr st0) st (aQc (d', h1.length, mv', mc', ms', Post') D dA ρ1 a) (AA ρ1 h1.length H.size))
    (K : ∀ r h' ρ' H' locs', Post' r h' → (∀ j, j < h1.length → mv' j = false → ρ' j = ρ1 j) → lS D dA s ρ' ρ2 h' h2 H' locs' → W p l e room_1 s m #[Value.ref b] below meth c H' locs' (k + mc') (n + ms') Q (F0 m (pc + 3) lsr ((r.map (trv ρ')).toList ++ st))) :
    W p l e room_1 s m #[Value.ref b] below meth c H locs k n Q (F0 m pc lsr st0) := by
  intro T hT X
  obtain ⟨v, st₀, t, T', L', h0, X', hL, e1, e2, ⟨⟨r, h', ρ', hv, hp, hfx', hP', hK', hD'⟩, hz, hk⟩, stp⟩ := hr T hT X
  cases hv
  obtain ⟨hP1, hP2, hD1, hD2, hdis, hS⟩ := S
  rw [h0] at hD' hz hk
  have hAA : ∀ q, AA ρ1 h1.length H.size q → lA s q := by
    intro q hq
    rcases hq with ⟨j, hj, rfl⟩ | hq
    · obtain ⟨c0, hc0⟩ : ∃ c0, hget h1 j = some c0 := by rw [hget_eq]; exact ⟨_, List.getElem?_eq_getElem hj⟩
      exact hD1.2 j _ (rws_get0 hc0)
    · exact Nat.le_trans hS.1 hq
  have hapart : ∀ (i : Nat) (q : Nat × va_E), (rws dA ρ2 0 h2)[i]? = some q → q.1 < H.size ∧ ¬ AA ρ1 h1.length H.size q.1 := by
    intro i q hq
    have hlt := (hP2 i q hq).lt
    obtain ⟨c0, hc0, rfl⟩ := rws_of hq
    refine ⟨hlt, fun hz => ?_⟩
    rcases hz with ⟨j, hj, ej⟩ | hz
    · exact hdis j i hj (hget_lt hc0) ej
    · exact absurd hlt (Nat.not_lt.mpr hz)
  have hS' : va_S (lA s) s.heap T'.heap (locs ++ L') := by
    refine ⟨Nat.le_trans hS.1 (by rw [e1]; exact hz), fun q h1 h2 => ?_, fun q hq => ?_⟩
    · rw [e1, hk q (Nat.lt_of_lt_of_le h1 hS.1) (fun z => h2 (hAA q z))]
      exact hS.2.1 q h1 h2
    · rcases List.mem_append.mp hq with h | h
      · exact hS.2.2 q h
      · exact hAA _ (hL q h)
  have hdis' : ∀ i j, i < h'.length → j < h2.length → ρ' i ≠ ρ2 j := by
    intro i j hi hj q
    obtain ⟨c0, hc0⟩ : ∃ c0, hget h' i = some c0 := by rw [hget_eq]; exact ⟨_, List.getElem?_eq_getElem hi⟩
    obtain ⟨c1, hc1⟩ : ∃ c1, hget h2 j = some c1 := by rw [hget_eq]; exact ⟨_, List.getElem?_eq_getElem hj⟩
    have w1 := hD'.2 i _ (rws_get0 hc0)
    have w2 := (hapart j _ (rws_get0 hc1)).2
    rw [show ((ρ' i, trc dA ρ' c0) : Nat × va_E).1 = ρ2 j from q] at w1
    exact w2 w1
  have K' := K r h' ρ' T'.heap (locs ++ L') hp (fun j h1 h2 => hfx' j h1 h2) ⟨by rw [e1]; exact hP', fun i q hq => by rw [e1]; exact (hP2 i q hq).kept (hk q.1 (hapart i q hq).1 (hapart i q hq).2), hD'.weaken (fun _ _ _ h => hAA _ h), hD2, hdis', hS'⟩
  obtain ⟨t2, a1, b1⟩ := K' T' rfl X'
  exact ⟨t2, stp t2 a1, b1⟩
theorem law_pre (C : lC D dA p s m b L xs meth c) (S : lS D dA s ρ1 ρ2 h1 h2 H locs) (av : List Value) : PreS s H (va_Pc (av.map (trv ρ1)) (fun U => U.heap.size = H.size ∧ va_P D aCl (rws dA ρ1 0 h1) U.heap ∧ va_K D aCl (aTy dA) U ∧ va_D (fun _ => True) (rws dA ρ1 0 h1) ∧ ∀ w ∈ nT, va_Nw w U)) (av.map (trv ρ1)) :=
  ⟨fun a U g mk q => by
    obtain ⟨q0, q1, qP, qK, qD, qN⟩ := q
    exact ⟨q0, q1, qP, va_K.moved (u := U) (U := U.calling g mk a) (Vm.Alike.refl U.vm) qK, qD, nT_same (u := U) (U := U.calling g mk a) rfl qN⟩, fun U hU hW => ⟨rfl, by rw [hU], by rw [hU]; exact S.1, va_K.moved hW.alike C.2.2.2.2.2.2.2.2.1, S.2.2.1.weaken (fun _ _ _ _ => trivial), nT_warm hW C.2.2.2.2.2.2.1⟩⟩
theorem law_call {idx pa pb pz ci : Nat} {fs : List Value} (C : lC D dA p s m b L xs meth c) (S : lS D dA s ρ1 ρ2 h1 h2 H locs) (hsz : lsr.size = 4) (hd : decode code pc = .ok (.invokevirtual idx, 3)) (hf : (idx, μ', pa, pb, pz) ∈ lTab) (hci : mK μ' = ci) (hcl : ci < 11) (hrc : hget h1 0 = some (.inr (ci, fs))) (hSp : aSp d' μ' (.ref 0 :: av) h1 mv' mc' ms' Post') (hav : ∀ ρ, av.map (trv ρ) = av) (hlen : av.length = mP μ') (hdep : d' ≤ 800) (hkc : k + mc' ≤ 600000) (hns : n + ms' ≤ 7302250) (hw : (st.map fun v => v.category).sum ≤ 8)
    (K : ∀ r h' ρ' H' locs', Post' r h' → (∀ j, j < h1.length → mv' j = false → ρ' j = ρ1 j) → lS D dA s ρ' ρ2 h' h2 H' locs' → W p l e room_1 s m #[Value.ref b] below meth c H' locs' (k + mc') (n + ms') Q (F0 m (pc + 3) lsr ((r.map (trv ρ')).toList ++ st))) :
    W p l e room_1 s m #[Value.ref b] below meth c H locs k n Q (F0 m pc lsr (av.reverse ++ .ref (ρ1 0) :: st)) := by
  obtain ⟨f1, f3, f4, f5⟩ := lTab_ok hf
  obtain ⟨g1, g2, g3, g4, g5, g7, g6⟩ := mTab_ok f1
  have hG := C.2.2.2.2.2.1
  have hcls : (clT ci).1 = (mY μ').cls := by
    rw [← g6, hci]
    exact cN_cl ci hcl
  have hp := law_pre C S (.ref 0 :: av)
  have hR : d' + 1 ≤ room_1.frames ∧ 8 + (mL μ' + 11) + (aRm d' mc' ms').locals ≤ room_1.locals := ⟨by show d' + 1 ≤ 2048; omega, by show 8 + (mL μ' + 11) + 100 * d' ≤ 84000; omega⟩
  have hpv : PreV s H (mY μ').cls (ρ1 0) (va_Pc ((Value.ref 0 :: av).map (trv ρ1)) (fun U => U.heap.size = H.size ∧ va_P D aCl (rws dA ρ1 0 h1) U.heap ∧ va_K D aCl (aTy dA) U ∧ va_D (fun _ => True) (rws dA ρ1 0 h1) ∧ ∀ w ∈ nT, va_Nw w U)) (av.map (trv ρ1)) := ⟨hp.1, by rw [← hcls]; exact va_recv C.2.2.2.2.2.2.2.2.1 S.1 (clT_get hcl) (rws_get0 hrc), hp.2⟩
  have est : av.reverse ++ .ref (ρ1 0) :: st = (av.map (trv ρ1)).reverse ++ .ref (ρ1 0) :: st := by rw [hav ρ1]
  rw [est]
  have hW8 : 2 * (F0 m pc lsr ((av.map (trv ρ1)).reverse ++ .ref (ρ1 0) :: st)).monitorRoom + (st.map fun v => v.category).sum ≤ 8 := by
    show 2 * 0 + _ ≤ 8
    omega
  exact law_behind S (va_runV ⟨C.1, C.2.1, C.2.2.2.1, C.2.2.2.2.1, hG⟩ (hSp l D dA ρ1 H.size) ⟨callB_of (mP μ') hG (mW_good f1) rfl rfl rfl (hG _ (gT_mem g3 rfl)) (hG _ (gT_mem f3 rfl)) ⟨g2.1, g2.2, g5⟩ hR, hG _ (gT_mem f4 rfl), hG _ (gT_mem f5 rfl)⟩ hpv rfl (by rw [List.length_map]; exact hlen) hsz rfl hW8 hd ⟨hkc, hns⟩) K
theorem law_callI {idx : Nat} (C : lC D dA p s m b L xs meth c) (S : lS D dA s ρ1 ρ2 h1 h2 H locs) (hsz : lsr.size = 4) (hd : decode code pc = .ok (.invokespecial idx, 3)) (f1 : μ' < mN) (f3 : Cond.methodLink R_law idx (mY μ') ∈ lw_tbl) (f4 : Cond.instanceMethod (mY μ') ∈ lw_tbl) (f8 : (mY μ').name = "<init>") (f7 : mR μ' = none) (hSp : aSp d' μ' [.ref 0] h1 mv' mc' ms' Post') (hlen : 0 = mP μ') (hdep : d' ≤ 800) (hkc : k + mc' ≤ 600000) (hns : n + ms' ≤ 7302250) (hw : (st.map fun v => v.category).sum ≤ 8)
    (K : ∀ r h' ρ' H' locs', Post' r h' → (∀ j, j < h1.length → mv' j = false → ρ' j = ρ1 j) → lS D dA s ρ' ρ2 h' h2 H' locs' → W p l e room_1 s m #[Value.ref b] below meth c H' locs' (k + mc') (n + ms') Q (F0 m (pc + 3) lsr ((r.map (trv ρ')).toList ++ st))) :
    W p l e room_1 s m #[Value.ref b] below meth c H locs k n Q (F0 m pc lsr (.ref (ρ1 0) :: st)) := by
  obtain ⟨g1, g2, g3, g4, g5, g7, g6⟩ := mTab_ok f1
  have hG := C.2.2.2.2.2.1
  have hp := law_pre C S [.ref 0]
  have hR : d' + 1 ≤ room_1.frames ∧ 8 + (mL μ' + 11) + (aRm d' mc' ms').locals ≤ room_1.locals := ⟨by show d' + 1 ≤ 2048; omega, by show 8 + (mL μ' + 11) + 100 * d' ≤ 84000; omega⟩
  have hW8 : 2 * (F0 m pc lsr (.ref (ρ1 0) :: st)).monitorRoom + (st.map fun v => v.category).sum ≤ 8 := by
    show 2 * 0 + _ ≤ 8
    omega
  have hcw : mW μ' = Cond.code (mY μ') (mB μ') (mL μ') none :: lw_tbl.filter goodWord := by rw [← f7]; rfl
  exact law_behind S (va_runI (As := []) ⟨C.1, C.2.1, C.2.2.2.1, C.2.2.2.2.1, hG⟩ (hSp l D dA ρ1 H.size) ⟨callB_of (mP μ') hG (mW_good f1) hcw rfl rfl (hG _ (gT_mem g3 rfl)) (hG _ (gT_mem f3 rfl)) ⟨g2.1, g2.2, g5⟩ hR, f8, hG _ (gT_mem f4 rfl)⟩ hp rfl hlen hsz rfl hW8 hd ⟨hkc, hns⟩) K
/-- a new object beside the cells -/
theorem law_new {ci idx : Nat} (C : lC D dA p s m b L xs meth c) (S : lS D dA s ρ1 ρ2 h1 [] H locs) (hci : ci < 11) (hd : decode code pc = .ok (.new idx, 3)) (hwl : Cond.classLink R_law idx (clT ci).1 ∈ lw_tbl) (hz : Cond.initialized (clT ci).1 ∈ lw_tbl) (hk : k + 1 ≤ 600000) (hs : n + (clT ci).2.2 ≤ 7302250)
    (K : ∀ q H', lS D dA s ρ1 (fun _ => q) h1 [.inr (ci, dfl ci)] H' locs → W p l e room_1 s m #[Value.ref b] below meth c H' locs (k + 1) (n + (clT ci).2.2) Q (F0 m (pc + 3) lsr (.ref q :: st))) :
    W p l e room_1 s m #[Value.ref b] below meth c H locs k n Q (F0 m pc lsr st) := by
  have hG := C.2.2.2.2.2.1
  obtain ⟨hP1, -, hD1, -, -, hS⟩ := S
  refine va_new (ci := ci) (tys := aTy dA) (fs := dfl ci) (A := lA s) C.1 C.2.1 hG (uwOk ci hci) (fty ci) (ftOk ci hci) C.2.2.2.2.1 (hG _ (gT_mem hwl rfl)) (hG _ (gT_mem (clInst ci hci) rfl)) (hG _ (gT_mem hz rfl)) C.2.2.2.2.2.2.2.2.1 hP1 hD1 hS (fun q hq => hq) (clT_get hci) (fun j hj => by simp [vp_V, dfl, hj]) hk hs hd fun q H1 b1 b2 b3 => ?_
  have er : rws dA (fun _ => q) 0 [.inr (ci, dfl ci)] = [(q, .inr (ci, dfl ci))] := by
    show [(q, trc dA (fun _ => q) (.inr (ci, dfl ci)))] = _
    simp only [trc, dfl_tr]
  have hle : ∀ (i : Nat) (x : Nat × va_E), (rws dA ρ1 0 h1)[i]? = some x → (rws dA ρ1 0 h1 ++ [(q, .inr (ci, dfl ci))])[i]? = some x := fun i x hx => by
    rw [List.getElem?_append_left (List.getElem?_eq_some_iff.mp hx).1]
    exact hx
  have hri : ∀ (i : Nat) (x : Nat × va_E), (rws dA (fun _ => q) 0 [.inr (ci, dfl ci)])[i]? = some x → i = 0 ∧ (rws dA ρ1 0 h1 ++ [(q, .inr (ci, dfl ci))])[(rws dA ρ1 0 h1).length]? = some x := fun i x hx => by
    rw [er] at hx
    have hi : i < 1 := (List.getElem?_eq_some_iff.mp hx).1
    have h0 : i = 0 := by omega
    subst h0
    refine ⟨rfl, ?_⟩
    rw [List.getElem?_append_right (Nat.le_refl _), Nat.sub_self]
    exact hx
  refine K q H1 ⟨fun i x hx => b1 i x (hle i x hx), fun i x hx => b1 _ x (hri i x hx).2, ⟨fun i j x y hx hy hq => b2.1 i j x y (hle i x hx) (hle j y hy) hq, fun i x hx => b2.2 i x (hle i x hx)⟩, ⟨fun i j x y hx hy _ => (hri i x hx).1.trans (hri j y hy).1.symm, fun i x hx => b2.2 _ x (hri i x hx).2⟩, fun i j hi hj hq => ?_, b3⟩
  obtain ⟨c0, hc0⟩ : ∃ c0, hget h1 i = some c0 := by rw [hget_eq]; exact ⟨_, List.getElem?_eq_getElem hi⟩
  have w1 := hle i _ (rws_get0 (dA := dA) (ρ := ρ1) hc0)
  have w2 := (hri 0 (q, .inr (ci, dfl ci)) (by rw [er]; rfl)).2
  have w3 := b2.1 i _ _ _ w1 w2 hq
  rw [rws_len] at w3
  omega
end LW
theorem law_nw {b : Nat} {s : State} (hts : ∀ w ∈ lw_tbl, w.before #[Value.ref b] s = true) : ∀ w ∈ nT, va_Nw w s := by
  intro w hw
  have h1 := hts w (List.mem_filter.mp hw).1
  have h2 := (List.mem_filter.mp hw).2
  cases w with
  | fieldLinkNest a i b n d x => exact va_Nw.of rfl h1
  | methodLinkNest a i b x => exact va_Nw.of rfl h1
  | arrayOver ty =>
    cases ty with
    | object C => exact va_AO.of h1
    | _ => simp [isNw] at h2
  | _ => simp [isNw] at h2
theorem law_arr {b : Nat} {s : State} {t : FieldType} (h : (Cond.arrayClass t).before #[Value.ref b] s = true) (ho : ∀ C, t ≠ .object C) : ∃ c : ClassId, ArrOfT s c t ∧ va_RA s c t := by
  obtain ⟨c, k, comp, h1, h2, h3⟩ := Cond.arrayClass_spec h
  refine ⟨c, fun N z => ⟨(fun q hq => by cases hq), k, h2, comp, h3⟩, ?_⟩
  cases t <;> first | exact h1 | exact absurd rfl (ho _)
theorem law_arO {b : Nat} {s : State} {C : String} (h : (Cond.arrayOver (.object C)).before #[Value.ref b] s = true) : ∃ c : ClassId, ArrOfT s c (.object C) ∧ va_RA s c (.object C) := by
  obtain ⟨comp, c, k, h1, -, h2, h3, h4⟩ := Cond.arrayOver_spec h
  exact ⟨c, fun N z => ⟨(fun q hq => by cases hq), k, h2, comp, h3⟩, k, comp, h2, h3, h1, h4⟩
theorem law_K {b : Nat} {s : State} (hts : ∀ w ∈ lw_tbl, w.before #[Value.ref b] s = true) : ∃ (D : va_G) (dA : Nat → ClassId), va_K D aCl (aTy dA) s := by
  have hG : ∀ w ∈ gT, w.before #[Value.ref b] s = true := fun w hw => hts w (List.mem_filter.mp hw).1
  have hkn : ∀ ci, ci < 11 → ∃ q : ClassId × (Nat → Nat), u_Kn s (clT ci).1 (clT ci).2.1 (clT ci).2.2 q.1 q.2 := fun ci hci => by
    obtain ⟨cC, iS, hq⟩ := u_known hG (uwOk ci hci) (hts _ (clInst ci hci))
    exact ⟨(cC, iS), hq⟩
  have hk2 : ∀ ci, ∃ q : ClassId × (Nat → Nat), ci < 11 → u_Kn s (clT ci).1 (clT ci).2.1 (clT ci).2.2 q.1 q.2 := fun ci => by
    by_cases h : ci < 11
    · obtain ⟨q, hq⟩ := hkn ci h
      exact ⟨q, fun _ => hq⟩
    · obtain ⟨q, -⟩ := hkn 0 (by decide)
      exact ⟨q, fun z => absurd z h⟩
  obtain ⟨f, hf⟩ : ∃ f : Nat → ClassId × (Nat → Nat), ∀ ci, ci < 11 → u_Kn s (clT ci).1 (clT ci).2.1 (clT ci).2.2 (f ci).1 (f ci).2 := ⟨fun ci => Classical.choose (hk2 ci), fun ci hci => Classical.choose_spec (hk2 ci) hci⟩
  obtain ⟨⟨w0, w1, w2⟩, w3, w4⟩ := lwArr
  obtain ⟨a0, k0⟩ := law_arr (hts _ w0) (fun C h => by cases h)
  obtain ⟨a1, k1⟩ := law_arr (hts _ w1) (fun C h => by cases h)
  obtain ⟨a2, k2⟩ := law_arr (hts _ w2) (fun C h => by cases h)
  obtain ⟨a3, k3⟩ := law_arO (hts _ w3)
  obtain ⟨a4, k4⟩ := law_arO (hts _ w4)
  refine ⟨(fun ci => (f ci).1, fun ci => (f ci).2), fun t => if t = 0 then a0 else if t = 1 then a1 else if t = 2 then a2 else if t = 3 then a3 else a4, fun ci q hq => ?_, fun t q hq => ?_⟩
  · have hci : ci < 11 := (List.getElem?_eq_some_iff.mp hq).1
    rw [clT_get hci] at hq
    cases hq
    exact hf ci hci
  · match t, hq with
    | 0, hq => cases hq; exact k0
    | 1, hq => cases hq; exact k1
    | 2, hq => cases hq; exact k2
    | 3, hq => cases hq; exact k3
    | 4, hq => cases hq; exact k4
    | t + 5, hq => simp [aTy] at hq
