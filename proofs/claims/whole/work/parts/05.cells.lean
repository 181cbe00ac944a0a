/-! ===== rules for cells: fields, arrays, new cells ===== -/
theorem gT_mem {w : Cond} (h : w ∈ lw_tbl) (hg : goodWord w = true) : w ∈ gT := List.mem_filter.mpr ⟨h, hg⟩
theorem nT_mem {w : Cond} (h : w ∈ lw_tbl) (hg : isNw w = true) : w ∈ nT := List.mem_filter.mpr ⟨h, hg⟩
theorem uwOk : ∀ ci, ci < 11 → ∀ w ∈ u_ws (clT ci).1 (clT ci).2.1 (clT ci).2.2, w ∈ gT := by decide +kernel
theorem nmOk : ∀ ci, ci < 11 → ∀ a, a < (clT ci).2.2 → ∀ b, b < (clT ci).2.2 → a ≠ b → ((clT ci).2.1 a).2.1 ≠ ((clT ci).2.1 b).2.1 := by decide +kernel
def fty (ci k : Nat) : FieldType := (parseFieldDescriptor ((clT ci).2.1 k).2.2.1).getD .int
theorem ftOk : ∀ ci, ci < 11 → ∀ k, k < (clT ci).2.2 → parseFieldDescriptor ((clT ci).2.1 k).2.2.1 = some (fty ci k) := by decide +kernel
theorem clT_get {ci : Nat} (h : ci < 11) : aCl[ci]? = some ((clT ci).1, (clT ci).2.1, (clT ci).2.2) := by
  have h1 : aCl[ci]? = some (aCl[ci]'(by simpa using h)) := List.getElem?_eq_getElem _
  rw [h1]
  unfold clT
  rw [List.getD_eq_getElem?_getD, h1]
  rfl
theorem fTab_ok {own idx ci k tag : Nat} {nest fin : Bool} {host : String} {pl : Nat} (hf : (own, idx, ci, k, nest, fin, tag, host, pl) ∈ fTab) :
    ci < 11 ∧ k < (clT ci).2.2 ∧ (if nest then Cond.fieldLinkNest (cN own) idx (clT ci).1 ((clT ci).2.1 k).2.1 ((clT ci).2.1 k).2.2.1 host else Cond.fieldLink (cN own) idx (clT ci).1 ((clT ci).2.1 k).2.1 ((clT ci).2.1 k).2.2.1) ∈ lw_tbl ∧ ((clT ci).2.1 k).1 = (clT ci).1 ∧ ((clT ci).2.1 k).2.2.2 = fin ∧ tagOk tag (fty ci k) = true := by
  have h := List.all_eq_true.mp fOk _ hf
  simp only [fOkB, Bool.and_eq_true, decide_eq_true_eq, beq_iff_eq] at h
  obtain ⟨⟨⟨⟨⟨h5, h6⟩, h1⟩, h2⟩, h3⟩, h4⟩ := h
  exact ⟨h1, h2, List.mem_of_getElem? h3, h4, h5, h6⟩
/-- a field's value -/
def fgetC : Option aC → Nat → Nat → Option Value
  | some (.inr (c, fs)), ci, k => if c = ci then vget fs k else none
  | _, _, _ => none
def fget (h : aH) (a ci k : Nat) : Option Value := fgetC (hget h a) ci k
theorem fget_spec {h : aH} {a ci k : Nat} {v : Value} (q : fget h a ci k = some v) : ∃ fs, hget h a = some (.inr (ci, fs)) ∧ vget fs k = some v := by
  unfold fget at q
  cases hc : hget h a with
  | none => rw [hc] at q; simp [fgetC] at q
  | some c =>
    rw [hc] at q
    rcases c with x | ⟨c1, fs⟩
    · simp [fgetC] at q
    · simp only [fgetC] at q
      split at q
      next e => subst e; exact ⟨fs, rfl, q⟩
      next => cases q
section AWC
variable {μ : Nat} {G : aG} {pc : Nat} {ls : aL} {st : List Value} {h : aH} {k n : Nat}
theorem aw_getf {idx ci fk a tag : Nat} {nest fin : Bool} {host : String} {pl : Nat} {v : Value} (hd : decode (mB μ) pc = .ok (.getfield idx, 3)) (hμ : cN (mK μ) = (mY μ).cls) (hf : (mK μ, idx, ci, fk, nest, fin, tag, host, pl) ∈ fTab) (hv : fget h a ci fk = some v) (K : AW μ G (pc + 3) ls (v :: st) h k n) : AW μ G pc ls (.ref a :: st) h k n := by
  intro l D dA p e s m args below meth c ρ0 ρ H locs lsr C S L
  have K' := K l D dA p e s m args below meth c ρ0 ρ H locs lsr C S L
  obtain ⟨hx, hb, hr, hml, hown, hts, hnw, hlk, hK, hnm⟩ := C
  obtain ⟨hfx, hP, hD, hS⟩ := S
  obtain ⟨fs, e1, e2⟩ := fget_spec hv
  obtain ⟨f1, f2, f3, f4, f5, f6⟩ := fTab_ok hf
  rw [hμ] at f3
  have he := rws_get0 (dA := dA) (ρ := ρ) e1
  have hvv : (fs.map (trv ρ))[fk]? = some (trv ρ v) := by rw [List.getElem?_map, ← vget_eq, e2]; rfl
  cases nest with
  | false => exact va_get hx hb hts (uwOk ci f1) hown hK hP a he (clT_get f1) fk f2 (hts _ (gT_mem f3 rfl)) (fun x q => by rw [← f4]; exact q) hvv hd K'
  | true => exact va_getN hx hb hts (uwOk ci f1) hown hK hP a he (clT_get f1) fk f2 (va_Nw.use rfl (hnw _ (nT_mem f3 rfl))) (fun x q => by rw [← f4]; exact q) hvv hd K'
/-- a field set -/
def pOk (ty : FieldType) (v : Value) : Prop := narrow ty v = v ∧ fits ty v = true
theorem pOk_tr {ty : FieldType} {v : Value} (q : pOk ty v) (ρ : Nat → Nat) : narrow ty (trv ρ v) = trv ρ v ∧ fits ty (trv ρ v) = true := by
  cases v with
  | ref a => cases ty <;> simp_all [pOk, trv, narrow, fits]
  | _ => exact q
def fputC : Option aC → aH → Nat → Nat → Nat → Value → Option aH
  | some (.inr (c, fs)), h, a, ci, k, v => if c = ci then (match vget fs k with | some _ => some (hset h a (.inr (c, vset fs k v))) | none => none) else none
  | _, _, _, _, _, _ => none
def fput (h : aH) (a ci k : Nat) (v : Value) : Option aH := fputC (hget h a) h a ci k v
theorem fput_spec {h h1 : aH} {a ci k : Nat} {v : Value} (q : fput h a ci k v = some h1) : ∃ fs w, hget h a = some (.inr (ci, fs)) ∧ vget fs k = some w ∧ h1 = hset h a (.inr (ci, vset fs k v)) := by
  unfold fput at q
  cases hc : hget h a with
  | none => rw [hc] at q; simp [fputC] at q
  | some c =>
    rw [hc] at q
    rcases c with x | ⟨c1, fs⟩
    · simp [fputC] at q
    · simp only [fputC] at q
      split at q
      next e =>
        subst e
        cases hw : vget fs k with
        | none => rw [hw] at q; cases q
        | some w => rw [hw] at q; exact ⟨fs, w, rfl, hw, (Option.some.inj q).symm⟩
      next => cases q
theorem map_vset (ρ : Nat → Nat) (fs : List Value) (k : Nat) (v : Value) : (vset fs k v).map (trv ρ) = (fs.map (trv ρ)).set k (trv ρ v) := by
  rw [vset_eq, List.map_set]
theorem aw_putf {idx ci fk a tag : Nat} {nest fin : Bool} {host : String} {pl : Nat} {v : Value} {h1 : aH} (hd : decode (mB μ) pc = .ok (.putfield idx, 3)) (hμ : cN (mK μ) = (mY μ).cls) (hf : (mK μ, idx, ci, fk, nest, fin, tag, host, pl) ∈ fTab) (hfin : fin = false ∨ (nest = false ∧ (mY μ).name = "<init>" ∧ (clT ci).1 = (mY μ).cls)) (hp : pOk (fty ci fk) v) (hh : fput h a ci fk v = some h1) (K : AW μ G (pc + 3) ls st h1 k n) : AW μ G pc ls (v :: .ref a :: st) h k n := by
  intro l D dA p e s m args below meth c ρ0 ρ H locs lsr C S L
  have K' := K l D dA p e s m args below meth c ρ0 ρ
  have C' := C
  obtain ⟨hx, hb, hr, hml, hown, hts, hnw, hlk, hK, hnm⟩ := C
  obtain ⟨hfx, hP, hD, hS⟩ := S
  obtain ⟨fs, w, e1, e2, e3⟩ := fput_spec hh
  obtain ⟨f1, f2, f3, f4, f5, f6⟩ := fTab_ok hf
  rw [hμ] at f3
  have he := rws_get0 (dA := dA) (ρ := ρ) e1
  have hlen : fk < (fs.map (trv ρ)).length := by
    rw [vget_eq] at e2
    rw [List.length_map]
    exact (List.getElem?_eq_some_iff.mp e2).1
  have hw : rws dA ρ 0 h1 = (rws dA ρ 0 h).set a (ρ a, .inr (ci, (fs.map (trv ρ)).set fk (trv ρ v))) := by
    rw [e3, rws_set, Nat.zero_add]
    simp only [trc, map_vset]
  obtain ⟨n1, n2⟩ := pOk_tr hp ρ
  have kk : ∀ (H1 : Heap) (locs1 : List Loc), va_P D aCl ((rws dA ρ 0 h).set a (ρ a, .inr (ci, (fs.map (trv ρ)).set fk (trv ρ v)))) H1 → va_D (AA ρ0 (gN G) s.heap.size) ((rws dA ρ 0 h).set a (ρ a, .inr (ci, (fs.map (trv ρ)).set fk (trv ρ v)))) → va_S (AA ρ0 (gN G) s.heap.size) s.heap H1 locs1 → W p l e (aRm (gD G) (gC G) (gS G)) s m args below meth c H1 locs1 k n (MQ below (aQc G D dA ρ0) args s (gC G) (gS G) (AA ρ0 (gN G) s.heap.size)) (F0 m (pc + 3) lsr (st.map (trv ρ))) := by
    intro H1 locs1 a1 a2 a3
    rw [← hw] at a1 a2
    exact K' H1 locs1 lsr C' ⟨hfx, a1, a2, a3⟩ L
  cases nest with
  | false =>
    rw [← f5] at hfin
    rcases hfin with hfin | ⟨-, hin, hcl⟩
    · exact va_put hx hb hts (uwOk ci f1) (fty ci) (ftOk ci f1) (nmOk ci f1) hown hK hP hD hS a he (clT_get f1) fk f2 (hts _ (gT_mem f3 rfl)) (fun x q => by rw [← f4]; exact q) hfin (ftOk ci f1 fk f2) n1 n2 hlen hd kk
    · cases hfb : ((clT ci).2.1 fk).2.2.2 with
      | false => exact va_put hx hb hts (uwOk ci f1) (fty ci) (ftOk ci f1) (nmOk ci f1) hown hK hP hD hS a he (clT_get f1) fk f2 (hts _ (gT_mem f3 rfl)) (fun x q => by rw [← f4]; exact q) hfb (ftOk ci f1 fk f2) n1 n2 hlen hd kk
      | true => exact va_putF hx hb hts (uwOk ci f1) (fty ci) (ftOk ci f1) (nmOk ci f1) hown hK hP hD hS a he (clT_get f1) fk f2 (hts _ (gT_mem f3 rfl)) (fun x q => by rw [← f4]; exact q) hfb (by rw [hnm]; exact hin) (by rw [f4]; exact hcl) (ftOk ci f1 fk f2) n1 n2 hlen hd kk
  | true =>
    rw [← f5] at hfin
    rcases hfin with hfin | ⟨q, -⟩
    · exact va_putN hx hb hts (uwOk ci f1) (fty ci) (ftOk ci f1) (nmOk ci f1) hown hK hP hD hS a he (clT_get f1) fk f2 (va_Nw.use rfl (hnw _ (nT_mem f3 rfl))) (fun x q => by rw [← f4]; exact q) hfin (ftOk ci f1 fk f2) n1 n2 hlen hd kk
    · cases q
end AWC
