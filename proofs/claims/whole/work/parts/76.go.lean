/-! BookJudge.goThrough -/
theorem okH_app {n : Nat} {mv : Nat → Bool} : ∀ {A B : aH}, okH n mv A → okH n mv B → okH n mv (A ++ B)
  | [], _, _, h => h
  | _ :: _, _, h, h2 => ⟨h.1, okH_app h.2 h2⟩
theorem okH_mono {n : Nat} {mv mv' : Nat → Bool} (h : ∀ j, mv' j = true → mv j = true) : ∀ {A : aH}, okH n mv A → okH n mv' A
  | [], _ => trivial
  | _ :: _, q => ⟨okC_mono h q.1, okH_mono h q.2⟩
theorem okH_blks {n b : Nat} {PM : Nat → PS × MS} : ∀ k, b + 18 * k ≤ n → okH n nomv (blks b PM k)
  | 0, _ => trivial
  | k + 1, h => okH_app (okH_blks k (by omega)) (okC_mHB (by omega) (fun _ _ => rfl) _)
theorem okH_fb {nb : Nat} {F : aH} (PM : Nat → PS × MS) (h : okF nb F) : okH (F.length + 18 * nb) nomv (F ++ blks F.length PM nb) := okH_app (okH_mono (fun j q => absurd q (by simp [nomv])) h) (okH_blks nb (Nat.le_refl _))
theorem kbT_br {κ κ' : kB} {c pl : Nat} (h1 : 1 ≤ κ.1.length) (hb : ∀ b, κ.2.1 = some b → b < 8) (e : kbT κ c pl = some κ') : ∀ b, κ'.2.1 = some b → b < 8 := by
  intro b hbb
  unfold kbT at e
  split at e
  next q =>
    have := Option.some.inj e
    subst this
    rw [kbL_br κ _ _ h1] at hbb
    have := Option.some.inj hbb
    omega
  · have hC : ∀ z, (kbC κ pl).2.1 = some z → z < 8 := fun z hz => absurd hz (by simp [kbC])
    split at e
    · split at e
      · have := Option.some.inj e
        subst this
        exact absurd hbb (by simp [kbO])
      · split at e
        · have := Option.some.inj e
          subst this
          exact hC b hbb
        · split at e
          · have := Option.some.inj e
            subst this
            exact hb b hbb
          · exact absurd e (by simp)
    · split at e
      · have := Option.some.inj e
        subst this
        exact hC b hbb
      · split at e
        · have := Option.some.inj e
          subst this
          exact hb b hbb
        · exact absurd e (by simp)
theorem kbL_len {κ : kB} (so pl : Nat) : (kbL κ so pl).1.length = κ.1.length := by
  obtain ⟨stk, br, q, le, de, ν⟩ := κ
  unfold kbL
  dsimp only
  cases ebA ν br q pl le with
  | some t => rfl
  | none =>
    cases stk with
    | nil => rfl
    | cons p R =>
      obtain ⟨x, m⟩ := p
      dsimp only
      split <;> rfl
theorem kbT_len {κ κ' : kB} {c pl : Nat} (h1 : 1 ≤ κ.1.length) (h9 : κ.1.length ≤ 9) (e : kbT κ c pl = some κ') : 1 ≤ κ'.1.length ∧ κ'.1.length ≤ 9 := by
  unfold kbT at e
  split at e
  · have := Option.some.inj e
    subst this
    rw [kbL_len]
    exact ⟨h1, h9⟩
  · have hC : 2 ≤ κ.1.length → 1 ≤ (kbC κ pl).1.length ∧ (kbC κ pl).1.length ≤ 9 := fun z => by
      show 1 ≤ κ.1.tail.length ∧ κ.1.tail.length ≤ 9
      rw [List.length_tail]
      omega
    split at e
    · split at e
      next q =>
        have := Option.some.inj e
        subst this
        show 1 ≤ (_ :: κ.1).length ∧ (_ :: κ.1).length ≤ 9
        rw [List.length_cons]
        omega
      · split at e
        next q =>
          have := Option.some.inj e
          subst this
          exact hC q.2
        · split at e
          · have := Option.some.inj e
            subst this
            exact ⟨h1, h9⟩
          · exact absurd e (by simp)
    · split at e
      next q =>
        have := Option.some.inj e
        subst this
        exact hC q.2
      · split at e
        · have := Option.some.inj e
          subst this
          exact ⟨h1, h9⟩
        · exact absurd e (by simp)
theorem kbF_le : ∀ (cs : List Nat) (i : Nat) {κ : kB}, okK κ → 1 ≤ κ.1.length → κ.1.length ≤ 9 → (∀ b, κ.2.1 = some b → b < 8) → leV κ.2.2.2.2.2 (kbF κ cs i).2.2.2.2.2.2
  | [], i, κ, _, _, _, _ => leV_rf _
  | c :: cs, i, κ, h, h1, h9, hb => by
    unfold kbF
    cases e : kbT κ c i with
    | none => exact leV_rf _
    | some κ' =>
      obtain ⟨a1, a2⟩ := kbT_le h (fun b hbb => by have := hb b hbb; omega) e
      obtain ⟨l1, l2⟩ := kbT_len h1 h9 e
      exact leV_tr a1 (kbF_le cs (i + 1) a2 l1 l2 (kbT_br h1 hb e))
theorem kbR_K {κ : kB} {ow st : Nat → Int32} {PM : Nat → PS × MS} (h : kbR κ ow st PM) (h9 : ∀ x, 9 ≤ x → okN (κ.2.2.2.2.2 x)) : okK κ := by
  refine ⟨fun x => ?_, ?_⟩
  · rcases Nat.lt_or_ge x 9 with z | z
    · exact yR_N (h.2.2.2.2.2.2 x z)
    · exact h9 x z
  · have : ∀ {R : List (Nat × Nat)}, stR κ.2.2.2.2.2 ow st R → ∀ t ∈ R, t.1 < 9 := by
      intro R
      induction R with
      | nil => exact fun _ t ht => absurd ht List.not_mem_nil
      | cons p R ih =>
        intro q t ht
        rcases List.mem_cons.mp ht with z | z
        · rw [z]
          exact q.2.1
        · exact ih q.2.2.2 t z
    exact this h.1
