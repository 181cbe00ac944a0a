/-! ===== rules for arrays, and for new cells ===== -/
def igetC : Option aC → Nat → Option (Nat × (Nat → Int32))
  | some (.inl (t, n, .inl f)), t0 => if t = t0 then some (n, f) else none
  | _, _ => none
def iget (h : aH) (a t : Nat) : Option (Nat × (Nat → Int32)) := igetC (hget h a) t
theorem iget_spec {h : aH} {a t n : Nat} {f : Nat → Int32} (q : iget h a t = some (n, f)) : hget h a = some (.inl (t, n, .inl f)) := by
  unfold iget at q
  cases hc : hget h a with
  | none => rw [hc] at q; simp [igetC] at q
  | some c =>
    rw [hc] at q
    rcases c with ⟨t', m, f | f | f | f | f⟩ | ⟨ci, fs⟩ <;> simp only [igetC] at q
    · split at q
      next e => subst e; cases q; rfl
      next => cases q
    all_goals cases q
def jgetC : Option aC → Option (Nat × (Nat → Int64))
  | some (.inl (t, n, .inr (.inl f))) => if t = 2 then some (n, f) else none
  | _ => none
def jget (h : aH) (a : Nat) : Option (Nat × (Nat → Int64)) := jgetC (hget h a)
theorem jget_spec {h : aH} {a n : Nat} {f : Nat → Int64} (q : jget h a = some (n, f)) : hget h a = some (.inl (2, n, .inr (.inl f))) := by
  unfold jget at q
  cases hc : hget h a with
  | none => rw [hc] at q; simp [jgetC] at q
  | some c =>
    rw [hc] at q
    rcases c with ⟨t', m, f | f | f | f | f⟩ | ⟨ci, fs⟩ <;> simp only [jgetC] at q
    · cases q
    · split at q
      next e => subst e; cases q; rfl
      next => cases q
    all_goals cases q
def qgetC : Option aC → Option (Nat × Nat × (Nat → Option Nat))
  | some (.inl (t, n, .inr (.inr (.inr (.inr f))))) => some (t, n, f)
  | _ => none
def qget (h : aH) (a : Nat) : Option (Nat × Nat × (Nat → Option Nat)) := qgetC (hget h a)
theorem qget_spec {h : aH} {a t n : Nat} {f : Nat → Option Nat} (q : qget h a = some (t, n, f)) : hget h a = some (.inl (t, n, .inr (.inr (.inr (.inr f))))) := by
  unfold qget at q
  cases hc : hget h a with
  | none => rw [hc] at q; simp [qgetC] at q
  | some c =>
    rw [hc] at q
    rcases c with ⟨t', m, f | f | f | f | f⟩ | ⟨ci, fs⟩ <;> simp only [qgetC] at q <;> cases q
    rfl
def lenC : Option aC → Option (Nat × Nat)
  | some (.inl (t, n, _)) => some (t, n)
  | _ => none
def alen (h : aH) (a : Nat) : Option (Nat × Nat) := lenC (hget h a)
theorem alen_spec {h : aH} {a t n : Nat} (q : alen h a = some (t, n)) : ∃ x, hget h a = some (.inl (t, n, x)) := by
  unfold alen at q
  cases hc : hget h a with
  | none => rw [hc] at q; simp [lenC] at q
  | some c =>
    rw [hc] at q
    rcases c with ⟨t', m, x⟩ | ⟨ci, fs⟩ <;> simp only [lenC] at q <;> cases q
    exact ⟨x, rfl⟩
theorem tra_1 (ρ : Nat → Nat) (x : vp_A) : (tra ρ x).1 = x.1 := by rcases x with ⟨n, f | f | f | f | f⟩ <;> rfl
section AWA
variable {μ : Nat} {G : aG} {pc : Nat} {ls : aL} {st : List Value} {h : aH} {k n : Nat}
theorem aw_iald {a N : Nat} {f : Nat → Int32} {i : Int32} (hd : decode (mB μ) pc = .ok (.iaload, 1)) (hv : iget h a 1 = some (N, f)) (hi : vp_in i N) (K : AW μ G (pc + 1) ls (.int (f i.toNatClampNeg) :: st) h k n) : AW μ G pc ls (.int i :: .ref a :: st) h k n := by
  intro l D dA p e s m args below meth c ρ0 ρ H locs lsr C S L
  exact va_iald (tys := aTy dA) C.1 C.2.1 C.2.2.2.2.2.2.2.2.1 S.2.1 a 1 (rws_get0 (iget_spec hv)) rfl hi hd (K l D dA p e s m args below meth c ρ0 ρ H locs lsr C S L)
theorem aw_bald {a N : Nat} {f : Nat → Int32} {i : Int32} (hd : decode (mB μ) pc = .ok (.baload, 1)) (hv : iget h a 0 = some (N, f)) (hi : vp_in i N) (K : AW μ G (pc + 1) ls (.int (f i.toNatClampNeg) :: st) h k n) : AW μ G pc ls (.int i :: .ref a :: st) h k n := by
  intro l D dA p e s m args below meth c ρ0 ρ H locs lsr C S L
  exact va_bald (tys := aTy dA) C.1 C.2.1 C.2.2.2.2.2.2.2.2.1 S.2.1 a 0 (rws_get0 (iget_spec hv)) rfl hi hd (K l D dA p e s m args below meth c ρ0 ρ H locs lsr C S L)
theorem aw_lald {a N : Nat} {f : Nat → Int64} {i : Int32} (hd : decode (mB μ) pc = .ok (.laload, 1)) (hv : jget h a = some (N, f)) (hi : vp_in i N) (K : AW μ G (pc + 1) ls (.long (f i.toNatClampNeg) :: st) h k n) : AW μ G pc ls (.int i :: .ref a :: st) h k n := by
  intro l D dA p e s m args below meth c ρ0 ρ H locs lsr C S L
  exact va_lald (tys := aTy dA) C.1 C.2.1 C.2.2.2.2.2.2.2.2.1 S.2.1 a 2 (rws_get0 (jget_spec hv)) rfl hi hd (K l D dA p e s m args below meth c ρ0 ρ H locs lsr C S L)
theorem aTy_get {dA : Nat → ClassId} {t : Nat} (ht : t < 5) : ∃ ty, (aTy dA)[t]? = some (dA t, ty) := by
  rcases (show t = 0 ∨ t = 1 ∨ t = 2 ∨ t = 3 ∨ t = 4 by omega) with rfl | rfl | rfl | rfl | rfl <;> exact ⟨_, rfl⟩
theorem aw_alen {a t N : Nat} (hd : decode (mB μ) pc = .ok (.arraylength, 1)) (hv : alen h a = some (t, N)) (ht : t < 5) (K : AW μ G (pc + 1) ls (.int (Int32.ofNat N) :: st) h k n) : AW μ G pc ls (.ref a :: st) h k n := by
  intro l D dA p e s m args below meth c ρ0 ρ H locs lsr C S L
  obtain ⟨x, hx⟩ := alen_spec hv
  obtain ⟨ty, hty⟩ := aTy_get (dA := dA) ht
  exact va_alen C.1 C.2.1 C.2.2.2.2.2.2.2.2.1 S.2.1 a t (rws_get0 hx) hty (by rw [tra_1]) hd (K l D dA p e s m args below meth c ρ0 ρ H locs lsr C S L)
theorem aw_aald {a t N b : Nat} {f : Nat → Option Nat} {i : Int32} (hd : decode (mB μ) pc = .ok (.aaload, 1)) (hv : qget h a = some (t, N, f)) (ht : t = 3 ∨ t = 4) (hi : vp_in i N) (hb : f i.toNatClampNeg = some b) (K : AW μ G (pc + 1) ls (.ref b :: st) h k n) : AW μ G pc ls (.int i :: .ref a :: st) h k n := by
  intro l D dA p e s m args below meth c ρ0 ρ H locs lsr C S L
  have K' := K l D dA p e s m args below meth c ρ0 ρ H locs lsr C S L
  have e1 : va_rf ((f i.toNatClampNeg).map ρ) = .ref (ρ b) := by rw [hb]; rfl
  rcases ht with rfl | rfl
  · refine va_aldq (tys := aTy dA) C.1 C.2.1 C.2.2.2.2.2.2.2.2.1 S.2.1 a 3 (rws_get0 (qget_spec hv)) rfl hi hd ?_
    show W _ _ _ _ _ _ _ _ _ _ _ _ _ _ _ (F0 m (pc + 1) lsr (va_rf ((f i.toNatClampNeg).map ρ) :: _))
    rw [e1]; exact K'
  · refine va_aldq (tys := aTy dA) C.1 C.2.1 C.2.2.2.2.2.2.2.2.1 S.2.1 a 4 (rws_get0 (qget_spec hv)) rfl hi hd ?_
    show W _ _ _ _ _ _ _ _ _ _ _ _ _ _ _ (F0 m (pc + 1) lsr (va_rf ((f i.toNatClampNeg).map ρ) :: _))
    rw [e1]; exact K'
theorem aw_iast {a N : Nat} {f : Nat → Int32} {i x : Int32} (hd : decode (mB μ) pc = .ok (.iastore, 1)) (hv : iget h a 1 = some (N, f)) (hi : vp_in i N) (K : AW μ G (pc + 1) ls st (hset h a (.inl (1, N, .inl (upd f i.toNatClampNeg x)))) k n) : AW μ G pc ls (.int x :: .int i :: .ref a :: st) h k n := by
  intro l D dA p e s m args below meth c ρ0 ρ H locs lsr C S L
  obtain ⟨hfx, hP, hD, hS⟩ := S
  refine va_iast (tys := aTy dA) C.1 C.2.1 C.2.2.2.2.2.2.2.2.1 hP hD hS a 1 (rws_get0 (iget_spec hv)) rfl hi hd fun H1 locs1 a1 a2 a3 => ?_
  refine K l D dA p e s m args below meth c ρ0 ρ H1 locs1 lsr C ⟨hfx, ?_, ?_, a3⟩ L
  · rw [rws_set, Nat.zero_add]; exact a1
  · rw [rws_set, Nat.zero_add]; exact a2
theorem aw_bast {a N : Nat} {f : Nat → Int32} {i x : Int32} (hd : decode (mB μ) pc = .ok (.bastore, 1)) (hv : iget h a 0 = some (N, f)) (hi : vp_in i N) (K : AW μ G (pc + 1) ls st (hset h a (.inl (0, N, .inl (upd f i.toNatClampNeg (vp_nar .byte x))))) k n) : AW μ G pc ls (.int x :: .int i :: .ref a :: st) h k n := by
  intro l D dA p e s m args below meth c ρ0 ρ H locs lsr C S L
  obtain ⟨hfx, hP, hD, hS⟩ := S
  refine va_bast (tys := aTy dA) C.1 C.2.1 C.2.2.2.2.2.2.2.2.1 hP hD hS a 0 (rws_get0 (iget_spec hv)) rfl hi hd fun H1 locs1 a1 a2 a3 => ?_
  refine K l D dA p e s m args below meth c ρ0 ρ H1 locs1 lsr C ⟨hfx, ?_, ?_, a3⟩ L
  · rw [rws_set, Nat.zero_add]; exact a1
  · rw [rws_set, Nat.zero_add]; exact a2
theorem aw_last {a N : Nat} {f : Nat → Int64} {i : Int32} {x : Int64} (hd : decode (mB μ) pc = .ok (.lastore, 1)) (hv : jget h a = some (N, f)) (hi : vp_in i N) (K : AW μ G (pc + 1) ls st (hset h a (.inl (2, N, .inr (.inl (vp_updL f i.toNatClampNeg x))))) k n) : AW μ G pc ls (.long x :: .int i :: .ref a :: st) h k n := by
  intro l D dA p e s m args below meth c ρ0 ρ H locs lsr C S L
  obtain ⟨hfx, hP, hD, hS⟩ := S
  refine va_last (tys := aTy dA) C.1 C.2.1 C.2.2.2.2.2.2.2.2.1 hP hD hS a 2 (rws_get0 (jget_spec hv)) rfl hi hd fun H1 locs1 a1 a2 a3 => ?_
  refine K l D dA p e s m args below meth c ρ0 ρ H1 locs1 lsr C ⟨hfx, ?_, ?_, a3⟩ L
  · rw [rws_set, Nat.zero_add]; exact a1
  · rw [rws_set, Nat.zero_add]; exact a2
theorem aw_aast {a t ci N b : Nat} {f : Nat → Option Nat} {fs : List Value} {i : Int32} (hd : decode (mB μ) pc = .ok (.aastore, 1)) (hv : qget h a = some (t, N, f)) (ht : (t = 3 ∧ ci = 2) ∨ (t = 4 ∧ ci = 7)) (hi : vp_in i N) (hb : hget h b = some (.inr (ci, fs))) (K : AW μ G (pc + 1) ls st (hset h a (.inl (t, N, .inr (.inr (.inr (.inr (va_up f i.toNatClampNeg (some b)))))))) k n) : AW μ G pc ls (.ref b :: .int i :: .ref a :: st) h k n := by
  intro l D dA p e s m args below meth c ρ0 ρ H locs lsr C S L
  obtain ⟨hfx, hP, hD, hS⟩ := S
  have key : ∀ (t0 : Nat) (r : vw_C), (aTy dA)[t0]? = some (dA t, .object r.1) → aCl[ci]? = some r → W p l e (aRm (gD G) (gC G) (gS G)) s m args below meth c H locs k n (MQ below (aQc G D dA ρ0) args s (gC G) (gS G) (AA ρ0 (gN G) s.heap.size)) (F0 m pc lsr ((Value.ref b :: .int i :: .ref a :: st).map (trv ρ))) := by
    intro t0 r h1 h2
    refine va_astq (tys := aTy dA) (r := r) C.1 C.2.1 C.2.2.2.2.2.2.2.2.1 hP hD hS a t0 b ci (rws_get0 (qget_spec hv)) h1 (rws_get0 hb) h2 hi hd fun H1 locs1 a1 a2 a3 => ?_
    have e1 : (fun j => (va_up f i.toNatClampNeg (some b) j).map ρ) = va_up (fun j => (f j).map ρ) i.toNatClampNeg (some (ρ b)) := by
      funext j
      unfold va_up
      split <;> rfl
    refine K l D dA p e s m args below meth c ρ0 ρ H1 locs1 lsr C ⟨hfx, ?_, ?_, a3⟩ L
    · rw [rws_set, Nat.zero_add]
      simp only [trc, tra, e1]
      exact a1
    · rw [rws_set, Nat.zero_add]
      simp only [trc, tra, e1]
      exact a2
  rcases ht with ⟨rfl, rfl⟩ | ⟨rfl, rfl⟩
  · exact key 3 (clT 2) rfl (clT_get (by omega))
  · exact key 4 (clT 7) rfl (clT_get (by omega))
/-! new cells: the new name is the heap's length -/
def nomv : Nat → Bool := fun _ => false
theorem new_st {D : va_G} {dA : Nat → ClassId} {s : State} {ρ0 ρ : Nat → Nat} {H1 : Heap} {locs : List Loc} {q : Nat} {cN : aC} {e : va_E} (hfx : aFx G ρ0 ρ) (hn : gN G ≤ h.length) (hc : okH h.length nomv h) (he : trc dA (fun j => if j = h.length then q else ρ j) cN = e)
    (a1 : va_P D aCl (rws dA ρ 0 h ++ [(q, e)]) H1) (a2 : va_D (AA ρ0 (gN G) s.heap.size) (rws dA ρ 0 h ++ [(q, e)])) (a3 : va_S (AA ρ0 (gN G) s.heap.size) s.heap H1 locs) : aSt G D dA s ρ0 (fun j => if j = h.length then q else ρ j) (h ++ [cN]) H1 locs := by
  have e1 : rws dA (fun j => if j = h.length then q else ρ j) 0 (h ++ [cN]) = rws dA ρ 0 h ++ [(q, e)] := by
    rw [rws_app, he, rws_tr (ρ := ρ) (n := h.length) (mv := nomv) (fun j hj _ => if_neg (Nat.ne_of_lt hj)) hc (fun k _ h2 => if_neg (by omega))]
    simp
  refine ⟨fun j h1 h2 => ?_, by rw [e1]; exact a1, by rw [e1]; exact a2, a3⟩
  show (if j = h.length then q else ρ j) = ρ0 j
  rw [if_neg (by omega)]
  exact hfx j h1 h2
theorem new_l {ρ : Nat → Nat} {N q nL : Nat} {lsr : Array Slot} (hl : okL N nomv ls = true) (L : lv_has lsr nL (lpr ρ 0 ls)) : lv_has lsr nL (lpr (fun j => if j = N then q else ρ j) 0 ls) := by
  refine lv_mono L fun x hx => ?_
  obtain ⟨i, v, h1, rfl⟩ := (lpr_mem _ _ 0 x).mp hx
  refine (lpr_mem _ _ 0 _).mpr ⟨i, v, h1, ?_⟩
  rw [okL_tr (ρ := ρ) (fun j hj _ => if_neg (Nat.ne_of_lt hj)) hl i v h1]
theorem new_s {ρ : Nat → Nat} {N q : Nat} (hs : okS N nomv st = true) : st.map (trv (fun j => if j = N then q else ρ j)) = st.map (trv ρ) := okS_tr (fun j hj _ => if_neg (Nat.ne_of_lt hj)) hs
theorem aTy_uniq {dA : Nat → ClassId} {D : va_G} {s : State} {cA : ClassId} {ty : FieldType} {t : Nat} (hK : va_K D aCl (aTy dA ++ [(cA, ty)]) s) (ht : (aTy dA)[t]? = some (dA t, ty)) : cA = dA t := by
  have h1 := (hK.2 t (dA t, ty) (by rw [List.getElem?_append_left (List.getElem?_eq_some_iff.mp ht).1]; exact ht)).2
  have h2 := (hK.2 5 (cA, ty) rfl).2
  cases ty with
  | object C =>
    obtain ⟨k1, c1, b1, b2, b3, b4⟩ := h1
    obtain ⟨k2, c2, d1, d2, d3, d4⟩ := h2
    exact Option.some.inj (d4.symm.trans b4)
  | _ => exact Option.some.inj (h2.symm.trans h1)
theorem aw_newI {x : Int32} {N : Nat} (hd : decode (mB μ) pc = .ok (.newarray .int, 2)) (hx : ¬ x < 0) (hN : x.toNatClampNeg = N) (hb : N * 4 ≤ 536870912) (hk : k + 1 ≤ gC G) (hs : n + N ≤ gS G) (hn : gN G ≤ h.length) (hc : okH h.length nomv h) (hl : okL h.length nomv ls = true) (hst : okS h.length nomv st = true)
    (K : AW μ G (pc + 2) ls (.ref h.length :: st) (h ++ [.inl (1, N, .inl (fun _ => 0))]) (k + 1) (n + N)) : AW μ G pc ls (.int x :: st) h k n := by
  intro l D dA p e s m args below meth c ρ0 ρ H locs lsr C S L
  obtain ⟨hfx, hP, hD, hS⟩ := S
  refine va_newa (atype := .int) (ty := .int) (tys := aTy dA) (a0 := (N, .inl (fun _ => 0))) C.1 C.2.1 (C.2.2.2.2.2.1 (.arrayClass .int) (by decide +kernel)) rfl C.2.2.2.2.2.2.2.2.1 hP hD hS (fun q hq => Or.inr hq) (fun cA => rfl) hx hN hb hk hs hd fun q cA H1 b0 b1 b2 b3 => ?_
  obtain rfl := aTy_uniq (t := 1) b0 rfl
  have K' := K l D dA p e s m args below meth c ρ0 (fun j => if j = h.length then q else ρ j) H1 locs lsr C (new_st hfx hn hc rfl b1 b2 b3) (new_l hl L)
  have e1 : (Value.ref h.length :: st).map (trv (fun j => if j = h.length then q else ρ j)) = .ref q :: st.map (trv ρ) := by
    rw [List.map_cons, new_s hst]; simp [trv]
  rw [e1] at K'
  exact K'
theorem aw_newB {x : Int32} {N : Nat} (hd : decode (mB μ) pc = .ok (.newarray .byte, 2)) (hx : ¬ x < 0) (hN : x.toNatClampNeg = N) (hb : N * 1 ≤ 536870912) (hk : k + 1 ≤ gC G) (hs : n + N ≤ gS G) (hn : gN G ≤ h.length) (hc : okH h.length nomv h) (hl : okL h.length nomv ls = true) (hst : okS h.length nomv st = true)
    (K : AW μ G (pc + 2) ls (.ref h.length :: st) (h ++ [.inl (0, N, .inl (fun _ => 0))]) (k + 1) (n + N)) : AW μ G pc ls (.int x :: st) h k n := by
  intro l D dA p e s m args below meth c ρ0 ρ H locs lsr C S L
  obtain ⟨hfx, hP, hD, hS⟩ := S
  refine va_newa (atype := .byte) (ty := .byte) (tys := aTy dA) (a0 := (N, .inl (fun _ => 0))) C.1 C.2.1 (C.2.2.2.2.2.1 (.arrayClass .byte) (by decide +kernel)) rfl C.2.2.2.2.2.2.2.2.1 hP hD hS (fun q hq => Or.inr hq) (fun cA => rfl) hx hN hb hk hs hd fun q cA H1 b0 b1 b2 b3 => ?_
  obtain rfl := aTy_uniq (t := 0) b0 rfl
  have K' := K l D dA p e s m args below meth c ρ0 (fun j => if j = h.length then q else ρ j) H1 locs lsr C (new_st hfx hn hc rfl b1 b2 b3) (new_l hl L)
  have e1 : (Value.ref h.length :: st).map (trv (fun j => if j = h.length then q else ρ j)) = .ref q :: st.map (trv ρ) := by
    rw [List.map_cons, new_s hst]; simp [trv]
  rw [e1] at K'
  exact K'
theorem aw_newJ {x : Int32} {N : Nat} (hd : decode (mB μ) pc = .ok (.newarray .long, 2)) (hx : ¬ x < 0) (hN : x.toNatClampNeg = N) (hb : N * 8 ≤ 536870912) (hk : k + 1 ≤ gC G) (hs : n + N ≤ gS G) (hn : gN G ≤ h.length) (hc : okH h.length nomv h) (hl : okL h.length nomv ls = true) (hst : okS h.length nomv st = true)
    (K : AW μ G (pc + 2) ls (.ref h.length :: st) (h ++ [.inl (2, N, .inr (.inl (fun _ => 0)))]) (k + 1) (n + N)) : AW μ G pc ls (.int x :: st) h k n := by
  intro l D dA p e s m args below meth c ρ0 ρ H locs lsr C S L
  obtain ⟨hfx, hP, hD, hS⟩ := S
  refine va_newa (atype := .long) (ty := .long) (tys := aTy dA) (a0 := (N, .inr (.inl (fun _ => 0)))) C.1 C.2.1 (C.2.2.2.2.2.1 (.arrayClass .long) (by decide +kernel)) rfl C.2.2.2.2.2.2.2.2.1 hP hD hS (fun q hq => Or.inr hq) (fun cA => rfl) hx hN hb hk hs hd fun q cA H1 b0 b1 b2 b3 => ?_
  obtain rfl := aTy_uniq (t := 2) b0 rfl
  have K' := K l D dA p e s m args below meth c ρ0 (fun j => if j = h.length then q else ρ j) H1 locs lsr C (new_st hfx hn hc rfl b1 b2 b3) (new_l hl L)
  have e1 : (Value.ref h.length :: st).map (trv (fun j => if j = h.length then q else ρ j)) = .ref q :: st.map (trv ρ) := by
    rw [List.map_cons, new_s hst]; simp [trv]
  rw [e1] at K'
  exact K'
theorem aw_newQ {x : Int32} {N t idx : Nat} {C0 : String} (hd : decode (mB μ) pc = .ok (.anewarray idx, 3)) (hw : Cond.classLink (mY μ).cls idx C0 ∈ lw_tbl) (ho : Cond.arrayOver (.object C0) ∈ lw_tbl) (ht : (t = 3 ∧ C0 = "ResidualJudge$Machine") ∨ (t = 4 ∧ C0 = "ResidualJudge$Scene")) (hx : ¬ x < 0) (hN : x.toNatClampNeg = N) (hb : N * 4 ≤ 536870912) (hk : k + 1 ≤ gC G) (hs : n + N ≤ gS G) (hn : gN G ≤ h.length) (hc : okH h.length nomv h) (hl : okL h.length nomv ls = true) (hst : okS h.length nomv st = true)
    (K : AW μ G (pc + 3) ls (.ref h.length :: st) (h ++ [.inl (t, N, .inr (.inr (.inr (.inr (fun _ => none)))))]) (k + 1) (n + N)) : AW μ G pc ls (.int x :: st) h k n := by
  intro l D dA p e s m args below meth c ρ0 ρ H locs lsr C S L
  obtain ⟨hfx, hP, hD, hS⟩ := S
  have hov : va_AO C0 s := C.2.2.2.2.2.2.1 _ (nT_mem ho rfl)
  refine va_newq (tys := aTy dA) C.1 C.2.1 C.2.2.2.2.1 (C.2.2.2.2.2.1 _ (gT_mem hw rfl)) hov C.2.2.2.2.2.2.2.2.1 hP hD hS (fun q hq => Or.inr hq) hx hN hb hk hs hd fun q cA H1 b0 b1 b2 b3 => ?_
  have hcA : cA = dA t := by
    rcases ht with ⟨rfl, rfl⟩ | ⟨rfl, rfl⟩
    · exact aTy_uniq (t := 3) b0 rfl
    · exact aTy_uniq (t := 4) b0 rfl
  subst hcA
  have K' := K l D dA p e s m args below meth c ρ0 (fun j => if j = h.length then q else ρ j) H1 locs lsr C (new_st hfx hn hc rfl b1 b2 b3) (new_l hl L)
  have e1 : (Value.ref h.length :: st).map (trv (fun j => if j = h.length then q else ρ j)) = .ref q :: st.map (trv ρ) := by
    rw [List.map_cons, new_s hst]; simp [trv]
  rw [e1] at K'
  exact K'
def dfl (ci : Nat) : List Value := (List.range (clT ci).2.2).map (fun k => defaultValue (fty ci k))
theorem trv_dfl (ρ : Nat → Nat) (ty : FieldType) : trv ρ (defaultValue ty) = defaultValue ty := by cases ty <;> rfl
theorem dfl_tr (ρ : Nat → Nat) (ci : Nat) : (dfl ci).map (trv ρ) = dfl ci := by
  unfold dfl
  rw [List.map_map]
  congr 1
  funext k
  exact trv_dfl ρ _
theorem aw_new {ci idx : Nat} (hd : decode (mB μ) pc = .ok (.new idx, 3)) (hci : ci < 11) (hw : Cond.classLink (mY μ).cls idx (clT ci).1 ∈ lw_tbl) (hi : Cond.instantiable (clT ci).1 (clT ci).2.2 ∈ lw_tbl) (hz : Cond.initialized (clT ci).1 ∈ lw_tbl) (hk : k + 1 ≤ gC G) (hs : n + (clT ci).2.2 ≤ gS G) (hn : gN G ≤ h.length) (hc : okH h.length nomv h) (hl : okL h.length nomv ls = true) (hst : okS h.length nomv st = true)
    (K : AW μ G (pc + 3) ls (.ref h.length :: st) (h ++ [.inr (ci, dfl ci)]) (k + 1) (n + (clT ci).2.2)) : AW μ G pc ls st h k n := by
  intro l D dA p e s m args below meth c ρ0 ρ H locs lsr C S L
  obtain ⟨hfx, hP, hD, hS⟩ := S
  have hG := C.2.2.2.2.2.1
  refine va_new (ci := ci) (tys := aTy dA) (fs := dfl ci) C.1 C.2.1 hG (uwOk ci hci) (fty ci) (ftOk ci hci) C.2.2.2.2.1 (hG _ (gT_mem hw rfl)) (hG _ (gT_mem hi rfl)) (hG _ (gT_mem hz rfl)) C.2.2.2.2.2.2.2.2.1 hP hD hS (fun q hq => Or.inr hq) (clT_get hci) (fun j hj => by simp [vp_V, dfl, hj]) hk hs hd fun q H1 b1 b2 b3 => ?_
  have K' := K l D dA p e s m args below meth c ρ0 (fun j => if j = h.length then q else ρ j) H1 locs lsr C (new_st hfx hn hc (by simp only [trc, dfl_tr]) b1 b2 b3) (new_l hl L)
  have e1 : (Value.ref h.length :: st).map (trv (fun j => if j = h.length then q else ρ j)) = .ref q :: st.map (trv ρ) := by
    rw [List.map_cons, new_s hst]; simp [trv]
  rw [e1] at K'
  exact K'
/-! constants -/
theorem aw_ldc {idx : Nat} {v : Int32} (hd : decode (mB μ) pc = .ok (.ldc idx, 2)) (hw : Cond.constant (mY μ).cls idx v ∈ lw_tbl) (K : AW μ G (pc + 2) ls (.int v :: st) h k n) : AW μ G pc ls st h k n := by
  intro l D dA p e s m args below meth c ρ0 ρ H locs lsr C S L
  exact W.ldc C.1 C.2.1 C.2.2.2.2.1 (C.2.2.2.2.2.1 _ (gT_mem hw rfl)) rfl hd (K l D dA p e s m args below meth c ρ0 ρ H locs lsr C S L)
theorem aw_ldcw {idx : Nat} {v : Int32} (hd : decode (mB μ) pc = .ok (.ldc_w idx, 3)) (hw : Cond.constant (mY μ).cls idx v ∈ lw_tbl) (K : AW μ G (pc + 3) ls (.int v :: st) h k n) : AW μ G pc ls st h k n := by
  intro l D dA p e s m args below meth c ρ0 ρ H locs lsr C S L
  exact lv_ldcw C.1 C.2.1 C.2.2.2.2.1 (C.2.2.2.2.2.1 _ (gT_mem hw rfl)) hd (K l D dA p e s m args below meth c ρ0 ρ H locs lsr C S L)
theorem aw_ldcf {idx : Nat} {v : UInt32} (hd : decode (mB μ) pc = .ok (.ldc idx, 2)) (hw : Cond.constantFloat (mY μ).cls idx v ∈ lw_tbl) (K : AW μ G (pc + 2) ls (.float v :: st) h k n) : AW μ G pc ls st h k n := by
  intro l D dA p e s m args below meth c ρ0 ρ H locs lsr C S L
  exact lv_ldcf C.1 C.2.1 C.2.2.2.2.1 (C.2.2.2.2.2.1 _ (gT_mem hw rfl)) hd (K l D dA p e s m args below meth c ρ0 ρ H locs lsr C S L)
theorem aw_ldc2 {idx : Nat} {v : Int64} (hd : decode (mB μ) pc = .ok (.ldc2_w idx, 3)) (hw : Cond.constantLong (mY μ).cls idx v ∈ lw_tbl) (K : AW μ G (pc + 3) ls (.long v :: st) h k n) : AW μ G pc ls st h k n := by
  intro l D dA p e s m args below meth c ρ0 ρ H locs lsr C S L
  exact W.ldc2 C.1 C.2.1 C.2.2.2.2.1 (C.2.2.2.2.2.1 _ (gT_mem hw rfl)) rfl hd (K l D dA p e s m args below meth c ρ0 ρ H locs lsr C S L)
end AWA
