/-! ===== cells by names: a heap is a list of cells, a reference a place in it ===== -/
abbrev aC : Type := (Nat × vp_A) ⊕ (Nat × List Value)
abbrev aH : Type := List aC
abbrev aL : Type := List (Option Value)
def lget : aL → Nat → Option Value
  | [], _ => none
  | o :: _, 0 => o
  | _ :: l, i + 1 => lget l i
def hget : aH → Nat → Option aC
  | [], _ => none
  | c :: _, 0 => some c
  | _ :: l, i + 1 => hget l i
def hset : aH → Nat → aC → aH
  | [], _, _ => []
  | _ :: l, 0, c => c :: l
  | b :: l, i + 1, c => b :: hset l i c
def vget : List Value → Nat → Option Value
  | [], _ => none
  | c :: _, 0 => some c
  | _ :: l, i + 1 => vget l i
def vset : List Value → Nat → Value → List Value
  | [], _, _ => []
  | _ :: l, 0, c => c :: l
  | b :: l, i + 1, c => b :: vset l i c
theorem hget_eq : ∀ (h : aH) (i : Nat), hget h i = h[i]?
  | [], i => by simp [hget]
  | c :: l, 0 => by simp [hget]
  | c :: l, i + 1 => by simp [hget, hget_eq l i]
theorem hset_eq : ∀ (h : aH) (i : Nat) (c : aC), hset h i c = h.set i c
  | [], i, c => by simp [hset]
  | b :: l, 0, c => by simp [hset]
  | b :: l, i + 1, c => by simp [hset, hset_eq l i c]
theorem vget_eq : ∀ (h : List Value) (i : Nat), vget h i = h[i]?
  | [], i => by simp [vget]
  | c :: l, 0 => by simp [vget]
  | c :: l, i + 1 => by simp [vget, vget_eq l i]
theorem vset_eq : ∀ (h : List Value) (i : Nat) (c : Value), vset h i c = h.set i c
  | [], i, c => by simp [vset]
  | b :: l, 0, c => by simp [vset]
  | b :: l, i + 1, c => by simp [vset, vset_eq l i c]
theorem hget_lt {h : aH} {i : Nat} {c : aC} (q : hget h i = some c) : i < h.length := by
  rw [hget_eq] at q
  exact (List.getElem?_eq_some_iff.mp q).1
theorem hset_len (h : aH) (i : Nat) (c : aC) : (hset h i c).length = h.length := by rw [hset_eq, List.length_set]
/-! names to addresses -/
def trv (ρ : Nat → Nat) : Value → Value
  | .ref a => .ref (ρ a)
  | v => v
theorem trv_cat (ρ : Nat → Nat) (v : Value) : (trv ρ v).category = v.category := by cases v <;> rfl
def tra (ρ : Nat → Nat) : vp_A → vp_A
  | (n, .inl f) => (n, .inl f)
  | (n, .inr (.inl f)) => (n, .inr (.inl f))
  | (n, .inr (.inr (.inl f))) => (n, .inr (.inr (.inl f)))
  | (n, .inr (.inr (.inr (.inl f)))) => (n, .inr (.inr (.inr (.inl f))))
  | (n, .inr (.inr (.inr (.inr f)))) => (n, .inr (.inr (.inr (.inr (fun i => (f i).map ρ)))))
def trc (dA : Nat → ClassId) (ρ : Nat → Nat) : aC → va_E
  | .inl a => .inl (dA a.1, tra ρ a.2)
  | .inr o => .inr (o.1, o.2.map (trv ρ))
def renc (τ : Nat → Nat) : aC → aC
  | .inl a => .inl (a.1, tra τ a.2)
  | .inr o => .inr (o.1, o.2.map (trv τ))
theorem trv_trv (ρ τ : Nat → Nat) (v : Value) : trv ρ (trv τ v) = trv (fun i => ρ (τ i)) v := by cases v <;> rfl
theorem trc_renc (dA : Nat → ClassId) (ρ τ : Nat → Nat) (c : aC) : trc dA ρ (renc τ c) = trc dA (fun i => ρ (τ i)) c := by
  rcases c with ⟨t, n, f | f | f | f | f⟩ | ⟨ci, fs⟩
  · rfl
  · rfl
  · rfl
  · rfl
  · simp [trc, renc, tra, Option.map_map, Function.comp_def]
  · simp [trc, renc, trv_trv, Function.comp_def]
def rws (dA : Nat → ClassId) (ρ : Nat → Nat) : Nat → aH → va_W
  | _, [] => []
  | j, c :: h => (ρ j, trc dA ρ c) :: rws dA ρ (j + 1) h
theorem rws_get (dA : Nat → ClassId) (ρ : Nat → Nat) : ∀ (h : aH) (j k : Nat), (rws dA ρ j h)[k]? = (hget h k).map (fun c => (ρ (j + k), trc dA ρ c))
  | [], j, k => by simp [rws, hget]
  | c :: h, j, 0 => by simp [rws, hget]
  | c :: h, j, k + 1 => by
    simp only [rws, hget, List.getElem?_cons_succ, rws_get dA ρ h (j + 1) k]
    rw [show j + 1 + k = j + (k + 1) by omega]
theorem rws_get0 {dA : Nat → ClassId} {ρ : Nat → Nat} {h : aH} {k : Nat} {c : aC} (q : hget h k = some c) : (rws dA ρ 0 h)[k]? = some (ρ k, trc dA ρ c) := by
  rw [rws_get, q, Nat.zero_add]; rfl
theorem rws_of {dA : Nat → ClassId} {ρ : Nat → Nat} {h : aH} {k : Nat} {x : Nat × va_E} (q : (rws dA ρ 0 h)[k]? = some x) : ∃ c, hget h k = some c ∧ x = (ρ k, trc dA ρ c) := by
  rw [rws_get, Nat.zero_add] at q
  cases hc : hget h k with
  | none => rw [hc] at q; cases q
  | some c => rw [hc] at q; exact ⟨c, rfl, (Option.some.inj q).symm⟩
theorem rws_set (dA : Nat → ClassId) (ρ : Nat → Nat) : ∀ (h : aH) (j k : Nat) (c : aC), rws dA ρ j (hset h k c) = (rws dA ρ j h).set k (ρ (j + k), trc dA ρ c)
  | [], j, k, c => by simp [rws, hset]
  | b :: h, j, 0, c => by simp [rws, hset]
  | b :: h, j, k + 1, c => by
    simp only [rws, hset, List.set_cons_succ, rws_set dA ρ h (j + 1) k c]
    rw [show j + 1 + k = j + (k + 1) by omega]
theorem rws_app (dA : Nat → ClassId) (ρ : Nat → Nat) : ∀ (h : aH) (j : Nat) (c : aC), rws dA ρ j (h ++ [c]) = rws dA ρ j h ++ [(ρ (j + h.length), trc dA ρ c)]
  | [], j, c => by simp [rws]
  | b :: h, j, c => by
    simp only [List.cons_append, rws, rws_app dA ρ h (j + 1) c, List.length_cons]
    rw [show j + 1 + h.length = j + (h.length + 1) by omega]
theorem rws_len (dA : Nat → ClassId) (ρ : Nat → Nat) : ∀ (h : aH) (j : Nat), (rws dA ρ j h).length = h.length
  | [], j => rfl
  | c :: h, j => by simp [rws, rws_len dA ρ h (j + 1)]
/-! which references a value, a cell names -/
def okV (n : Nat) (mv : Nat → Bool) : Value → Bool
  | .ref j => Nat.blt j n && !(mv j)
  | _ => true
def okS (n : Nat) (mv : Nat → Bool) : List Value → Bool
  | [] => true
  | v :: l => okV n mv v && okS n mv l
def okL (n : Nat) (mv : Nat → Bool) : aL → Bool
  | [] => true
  | none :: l => okL n mv l
  | some v :: l => okV n mv v && okL n mv l
theorem okV_tr {n : Nat} {mv : Nat → Bool} {ρ ρ' : Nat → Nat} (hr : ∀ j, j < n → mv j = false → ρ' j = ρ j) {v : Value} (h : okV n mv v = true) : trv ρ' v = trv ρ v := by
  cases v with
  | ref a =>
    simp only [okV, Bool.and_eq_true, Bool.not_eq_true', Nat.blt_eq] at h
    simp only [trv, hr a h.1 h.2]
  | _ => rfl
theorem okS_tr {n : Nat} {mv : Nat → Bool} {ρ ρ' : Nat → Nat} (hr : ∀ j, j < n → mv j = false → ρ' j = ρ j) : ∀ {l : List Value}, okS n mv l = true → l.map (trv ρ') = l.map (trv ρ)
  | [], _ => rfl
  | v :: l, h => by
    simp only [okS, Bool.and_eq_true] at h
    simp only [List.map_cons, okV_tr hr h.1, okS_tr hr h.2]
theorem okL_tr {n : Nat} {mv : Nat → Bool} {ρ ρ' : Nat → Nat} (hr : ∀ j, j < n → mv j = false → ρ' j = ρ j) : ∀ {l : aL}, okL n mv l = true → ∀ (i : Nat) (v : Value), lget l i = some v → trv ρ' v = trv ρ v
  | [], _, i, v, q => by simp [lget] at q
  | none :: l, h, 0, v, q => by simp [lget] at q
  | none :: l, h, i + 1, v, q => okL_tr hr (l := l) h i v q
  | some w :: l, h, 0, v, q => by
    simp only [okL, Bool.and_eq_true] at h
    simp only [lget, Option.some.injEq] at q
    subst q
    exact okV_tr hr h.1
  | some w :: l, h, i + 1, v, q => by
    simp only [okL, Bool.and_eq_true] at h
    exact okL_tr hr (l := l) h.2 i v q
/-- a cell names old cells alone that do not move -/
def okC (n : Nat) (mv : Nat → Bool) : aC → Prop
  | .inl (_, _, .inr (.inr (.inr (.inr f)))) => ∀ i j, f i = some j → j < n ∧ mv j = false
  | .inl _ => True
  | .inr (_, fs) => okS n mv fs = true
theorem okC_tr {n : Nat} {mv : Nat → Bool} {ρ ρ' : Nat → Nat} (hr : ∀ j, j < n → mv j = false → ρ' j = ρ j) {dA : Nat → ClassId} {c : aC} (h : okC n mv c) : trc dA ρ' c = trc dA ρ c := by
  rcases c with ⟨t, k, f | f | f | f | f⟩ | ⟨ci, fs⟩
  · rfl
  · rfl
  · rfl
  · rfl
  · have e : (fun i => (f i).map ρ') = (fun i => (f i).map ρ) := by
      funext i
      cases hf : f i with
      | none => rfl
      | some j =>
        obtain ⟨h1, h2⟩ := h i j hf
        simp [hr j h1 h2]
    simp only [trc, tra, e]
  · simp only [trc, okS_tr hr h]
def okH (n : Nat) (mv : Nat → Bool) : aH → Prop
  | [] => True
  | c :: h => okC n mv c ∧ okH n mv h
theorem okH_get {n : Nat} {mv : Nat → Bool} : ∀ {h : aH}, okH n mv h → ∀ {k : Nat} {c : aC}, hget h k = some c → okC n mv c
  | [], _, k, c, q => by simp [hget] at q
  | b :: h, w, 0, c, q => by
    simp only [hget, Option.some.injEq] at q
    subst q
    exact w.1
  | b :: h, w, k + 1, c, q => okH_get (h := h) w.2 q
theorem rws_tr {n : Nat} {mv : Nat → Bool} {ρ ρ' : Nat → Nat} (hr : ∀ j, j < n → mv j = false → ρ' j = ρ j) {dA : Nat → ClassId} : ∀ {h : aH} {j : Nat}, okH n mv h → (∀ k, j ≤ k → k < j + h.length → ρ' k = ρ k) → rws dA ρ' j h = rws dA ρ j h
  | [], j, _, _ => rfl
  | c :: h, j, w, q => by
    simp only [rws, okC_tr hr w.1, q j (Nat.le_refl j) (by simp), rws_tr hr (h := h) (j := j + 1) w.2 (fun k h1 h2 => q k (by omega) (by simp only [List.length_cons]; omega))]
/-! locals -/
def kil : Option Value → Option Value
  | some (.long _) => none
  | some (.double _) => none
  | o => o
def lput1 : aL → Nat → Value → aL
  | [], _, _ => []
  | _ :: l, 0, v => some v :: l
  | o :: l, 1, v => kil o :: lput1 l 0 v
  | o :: l, i + 2, v => o :: lput1 l (i + 1) v
def lput2 : aL → Nat → Value → aL
  | [], _, _ => []
  | [_], 0, v => [some v]
  | _ :: _ :: l, 0, v => some v :: none :: l
  | o :: l, 1, v => kil o :: lput2 l 0 v
  | o :: l, i + 2, v => o :: lput2 l (i + 1) v
/-- the listed locals as the kit lists them -/
def lpr (ρ : Nat → Nat) : Nat → aL → List (Nat × Value)
  | _, [] => []
  | j, none :: l => lpr ρ (j + 1) l
  | j, some v :: l => (j, trv ρ v) :: lpr ρ (j + 1) l
theorem lpr_mem (ρ : Nat → Nat) : ∀ (l : aL) (j : Nat) (q : Nat × Value), q ∈ lpr ρ j l ↔ ∃ i v, lget l i = some v ∧ q = (j + i, trv ρ v)
  | [], j, q => by simp [lpr, lget]
  | none :: l, j, q => by
    rw [lpr, lpr_mem ρ l (j + 1) q]
    constructor
    · rintro ⟨i, v, h1, h2⟩
      exact ⟨i + 1, v, h1, by rw [h2]; congr 1; omega⟩
    · rintro ⟨i, v, h1, h2⟩
      cases i with
      | zero => simp [lget] at h1
      | succ i => exact ⟨i, v, h1, by rw [h2]; congr 1; omega⟩
  | some w :: l, j, q => by
    rw [lpr, List.mem_cons, lpr_mem ρ l (j + 1) q]
    constructor
    · rintro (h | ⟨i, v, h1, h2⟩)
      · exact ⟨0, w, rfl, h⟩
      · exact ⟨i + 1, v, h1, by rw [h2]; congr 1; omega⟩
    · rintro ⟨i, v, h1, h2⟩
      cases i with
      | zero =>
        simp only [lget, Option.some.injEq] at h1
        subst h1
        exact Or.inl h2
      | succ i => exact Or.inr ⟨i, v, h1, by rw [h2]; congr 1; omega⟩
theorem lv_mono {ls : Array Slot} {nL : Nat} {l l' : List (Nat × Value)} (h : lv_has ls nL l) (hs : ∀ q ∈ l', q ∈ l) : lv_has ls nL l' := ⟨h.1, h.2.1, fun q hq => h.2.2 q (hs q hq)⟩
theorem lv_of {ρ : Nat → Nat} {ls : Array Slot} {nL : Nat} {l : aL} (h : lv_has ls nL (lpr ρ 0 l)) {i : Nat} {v : Value} (q : lget l i = some v) : ls[i]? = some (.val (trv ρ v)) := by
  have := h.2.2 (i, trv ρ v) ((lpr_mem ρ l 0 _).mpr ⟨i, v, q, by simp⟩)
  exact this
theorem kil_some {o : Option Value} {v : Value} (h : kil o = some v) : o = some v ∧ ¬ v.category = 2 := by
  cases o with
  | none => simp [kil] at h
  | some w => cases w <;> simp [kil] at h <;> subst h <;> exact ⟨rfl, by simp [Value.category]⟩
theorem lput1_get : ∀ (l : aL) (i : Nat) (v : Value) (j : Nat) (w : Value), lget (lput1 l i v) j = some w → (j = i ∧ w = v) ∨ (j ≠ i ∧ lget l j = some w ∧ ¬ (j + 1 = i ∧ w.category = 2))
  | [], i, v, j, w, h => by simp [lput1, lget] at h
  | o :: l, 0, v, 0, w, h => by simp [lput1, lget] at h; exact Or.inl ⟨rfl, h.symm⟩
  | o :: l, 0, v, j + 1, w, h => by simp only [lput1, lget] at h; exact Or.inr ⟨by omega, h, by omega⟩
  | o :: l, 1, v, 0, w, h => by
    simp only [lput1, lget] at h
    obtain ⟨h1, h2⟩ := kil_some h
    exact Or.inr ⟨by omega, h1, fun q => h2 q.2⟩
  | o :: l, 1, v, j + 1, w, h => by
    simp only [lput1, lget] at h
    rcases lput1_get l 0 v j w h with ⟨h1, h2⟩ | ⟨h1, h2, h3⟩
    · exact Or.inl ⟨by omega, h2⟩
    · exact Or.inr ⟨by omega, h2, by omega⟩
  | o :: l, i + 2, v, 0, w, h => by simp only [lput1, lget] at h; exact Or.inr ⟨by omega, h, by omega⟩
  | o :: l, i + 2, v, j + 1, w, h => by
    simp only [lput1, lget] at h
    rcases lput1_get l (i + 1) v j w h with ⟨h1, h2⟩ | ⟨h1, h2, h3⟩
    · exact Or.inl ⟨by omega, h2⟩
    · exact Or.inr ⟨by omega, h2, fun q => h3 ⟨by omega, q.2⟩⟩
theorem lput2_get : ∀ (l : aL) (i : Nat) (v : Value) (j : Nat) (w : Value), lget (lput2 l i v) j = some w → (j = i ∧ w = v) ∨ (j ≠ i ∧ j ≠ i + 1 ∧ lget l j = some w ∧ ¬ (j + 1 = i ∧ w.category = 2))
  | [], i, v, j, w, h => by simp [lput2, lget] at h
  | [o], 0, v, 0, w, h => by simp [lput2, lget] at h; exact Or.inl ⟨rfl, h.symm⟩
  | [o], 0, v, j + 1, w, h => by simp [lput2, lget] at h
  | o :: o2 :: l, 0, v, 0, w, h => by simp [lput2, lget] at h; exact Or.inl ⟨rfl, h.symm⟩
  | o :: o2 :: l, 0, v, 1, w, h => by simp [lput2, lget] at h
  | o :: o2 :: l, 0, v, j + 2, w, h => by simp only [lput2, lget] at h; exact Or.inr ⟨by omega, by omega, h, by omega⟩
  | o :: l, 1, v, 0, w, h => by
    have h' : kil o = some w := by cases l <;> simpa [lput2, lget] using h
    obtain ⟨h1, h2⟩ := kil_some h'
    exact Or.inr ⟨by omega, by omega, h1, fun q => h2 q.2⟩
  | o :: l, 1, v, j + 1, w, h => by
    have h' : lget (lput2 l 0 v) j = some w := by cases l <;> simpa [lput2, lget] using h
    rcases lput2_get l 0 v j w h' with ⟨h1, h2⟩ | ⟨h1, h2, h3, h4⟩
    · exact Or.inl ⟨by omega, h2⟩
    · exact Or.inr ⟨by omega, by omega, h3, by omega⟩
  | o :: l, i + 2, v, 0, w, h => by
    have h' : o = some w := by cases l <;> simpa [lput2, lget] using h
    exact Or.inr ⟨by omega, by omega, h', by omega⟩
  | o :: l, i + 2, v, j + 1, w, h => by
    have h' : lget (lput2 l (i + 1) v) j = some w := by cases l <;> simpa [lput2, lget] using h
    rcases lput2_get l (i + 1) v j w h' with ⟨h1, h2⟩ | ⟨h1, h2, h3, h4⟩
    · exact Or.inl ⟨by omega, h2⟩
    · exact Or.inr ⟨by omega, by omega, h3, fun q => h4 ⟨by omega, q.2⟩⟩
theorem lput1_sub {ρ : Nat → Nat} {l : aL} {i : Nat} {v : Value} : ∀ q ∈ lpr ρ 0 (lput1 l i v), q ∈ (i, trv ρ v) :: (lpr ρ 0 l).filter (fun q => !(q.1 == i) && !(q.1 + 1 == i && q.2.category == 2)) := by
  intro q hq
  obtain ⟨j, w, h1, rfl⟩ := (lpr_mem ρ _ 0 q).mp hq
  simp only [Nat.zero_add]
  rcases lput1_get l i v j w h1 with ⟨rfl, rfl⟩ | ⟨h2, h3, h4⟩
  · exact List.mem_cons_self
  · refine List.mem_cons_of_mem _ (List.mem_filter.mpr ⟨(lpr_mem ρ l 0 _).mpr ⟨j, w, h3, by simp⟩, ?_⟩)
    simp only [trv_cat, Bool.and_eq_true, Bool.not_eq_true', beq_eq_false_iff_ne, ne_eq, Bool.and_eq_false_iff]
    refine ⟨h2, ?_⟩
    rcases Nat.decEq (j + 1) i with q | q
    · exact Or.inl q
    · exact Or.inr fun z => h4 ⟨q, z⟩
theorem lput2_sub {ρ : Nat → Nat} {l : aL} {i : Nat} {v : Value} : ∀ q ∈ lpr ρ 0 (lput2 l i v), q ∈ (i, trv ρ v) :: (lpr ρ 0 l).filter (fun q => !(q.1 == i) && (!(q.1 == i + 1) && !(q.1 + 1 == i && q.2.category == 2))) := by
  intro q hq
  obtain ⟨j, w, h1, rfl⟩ := (lpr_mem ρ _ 0 q).mp hq
  simp only [Nat.zero_add]
  rcases lput2_get l i v j w h1 with ⟨rfl, rfl⟩ | ⟨h2, h2', h3, h4⟩
  · exact List.mem_cons_self
  · refine List.mem_cons_of_mem _ (List.mem_filter.mpr ⟨(lpr_mem ρ l 0 _).mpr ⟨j, w, h3, by simp⟩, ?_⟩)
    simp only [trv_cat, Bool.and_eq_true, Bool.not_eq_true', beq_eq_false_iff_ne, ne_eq, Bool.and_eq_false_iff]
    refine ⟨h2, h2', ?_⟩
    rcases Nat.decEq (j + 1) i with q | q
    · exact Or.inl q
    · exact Or.inr fun z => h4 ⟨q, z⟩
/-- the locals with which a method begins -/
def eL : List Value → Nat → aL
  | [], 0 => []
  | [], n + 1 => none :: eL [] n
  | .long x :: vs, n + 2 => some (.long x) :: none :: eL vs n
  | .double x :: vs, n + 2 => some (.double x) :: none :: eL vs n
  | .int x :: vs, n + 1 => some (.int x) :: eL vs n
  | .float x :: vs, n + 1 => some (.float x) :: eL vs n
  | .null :: vs, n + 1 => some .null :: eL vs n
  | .ref a :: vs, n + 1 => some (.ref a) :: eL vs n
  | _, _ => []
theorem eL_nil (n i : Nat) : lget (eL [] n) i = none := by
  induction n generalizing i with
  | zero => simp [eL, lget]
  | succ n ih => cases i with
    | zero => simp [eL, lget]
    | succ i => simp [eL, lget, ih i]
theorem eL_sub (ρ : Nat → Nat) : ∀ (vs : List Value) (n j : Nat) (q : Nat × Value), q ∈ lpr ρ j (eL vs n) → q ∈ lv_args j (vs.map (trv ρ))
  | [], n, j, q, h => by
    obtain ⟨i, v, h1, -⟩ := (lpr_mem ρ _ j q).mp h
    rw [eL_nil] at h1; cases h1
  | .long x :: vs, 0, j, q, h => by simp [eL, lpr] at h
  | .long x :: vs, 1, j, q, h => by simp [eL, lpr] at h
  | .long x :: vs, n + 2, j, q, h => by
    simp only [eL, lpr, List.mem_cons] at h
    rcases h with h | h
    · rw [h]; exact List.mem_cons_self
    · exact List.mem_cons_of_mem _ (eL_sub ρ vs n (j + 2) q h)
  | .double x :: vs, 0, j, q, h => by simp [eL, lpr] at h
  | .double x :: vs, 1, j, q, h => by simp [eL, lpr] at h
  | .double x :: vs, n + 2, j, q, h => by
    simp only [eL, lpr, List.mem_cons] at h
    rcases h with h | h
    · rw [h]; exact List.mem_cons_self
    · exact List.mem_cons_of_mem _ (eL_sub ρ vs n (j + 2) q h)
  | .int x :: vs, 0, j, q, h => by simp [eL, lpr] at h
  | .float x :: vs, 0, j, q, h => by simp [eL, lpr] at h
  | .null :: vs, 0, j, q, h => by simp [eL, lpr] at h
  | .ref x :: vs, 0, j, q, h => by simp [eL, lpr] at h
  | .retAddr x :: vs, n, j, q, h => by cases n <;> simp [eL, lpr] at h
  | .int x :: vs, n + 1, j, q, h => by
    simp only [eL, lpr, List.mem_cons] at h
    rcases h with h | h
    · rw [h]; exact List.mem_cons_self
    · exact List.mem_cons_of_mem _ (eL_sub ρ vs n (j + 1) q h)
  | .float x :: vs, n + 1, j, q, h => by
    simp only [eL, lpr, List.mem_cons] at h
    rcases h with h | h
    · rw [h]; exact List.mem_cons_self
    · exact List.mem_cons_of_mem _ (eL_sub ρ vs n (j + 1) q h)
  | .null :: vs, n + 1, j, q, h => by
    simp only [eL, lpr, List.mem_cons] at h
    rcases h with h | h
    · rw [h]; exact List.mem_cons_self
    · exact List.mem_cons_of_mem _ (eL_sub ρ vs n (j + 1) q h)
  | .ref x :: vs, n + 1, j, q, h => by
    simp only [eL, lpr, List.mem_cons] at h
    rcases h with h | h
    · rw [h]; exact List.mem_cons_self
    · exact List.mem_cons_of_mem _ (eL_sub ρ vs n (j + 1) q h)
