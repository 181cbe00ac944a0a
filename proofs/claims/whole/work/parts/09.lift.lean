/-! ===== a contract over few cells, used among more: names of the callee to names of the caller ===== -/
def sg : List Nat → Nat → Nat → Nat
  | [], N, i => N + i
  | j :: _, _, 0 => j
  | _ :: js, N, i + 1 => sg js N i
theorem sg_in : ∀ (js : List Nat) (N i : Nat) (h : i < js.length), sg js N i = js[i]
  | [], _, _, h => by simp at h
  | j :: js, N, 0, h => rfl
  | j :: js, N, i + 1, h => by simp only [sg, sg_in js N i (by simpa using h), List.getElem_cons_succ]
theorem sg_out : ∀ (js : List Nat) (N i : Nat), js.length ≤ i → sg js N i = N + (i - js.length)
  | [], N, i, h => by simp [sg]
  | j :: js, N, 0, h => by simp at h
  | j :: js, N, i + 1, h => by
    rw [sg, sg_out js N i (by simpa using h)]
    simp
def mrg (σ : Nat → Nat) : aH → List Nat → aH → aH
  | h, [], cs => h ++ cs.map (renc σ)
  | h, _ :: _, [] => h
  | h, j :: js, c :: cs => mrg σ (hset h j (renc σ c)) js cs
theorem hget_set_eq {h : aH} {j : Nat} {c : aC} (hj : j < h.length) : hget (hset h j c) j = some c := by
  rw [hget_eq, hset_eq, List.getElem?_set_self hj]
theorem hget_set_ne {h : aH} {i j : Nat} {c : aC} (hj : i ≠ j) : hget (hset h i c) j = hget h j := by
  rw [hget_eq, hget_eq, hset_eq, List.getElem?_set_ne hj]
theorem mrg_spec (σ : Nat → Nat) : ∀ (js : List Nat) (h cs : aH), js.length ≤ cs.length → js.Nodup → (∀ j ∈ js, j < h.length) →
    (mrg σ h js cs).length = h.length + (cs.length - js.length) ∧ (∀ i (hi : i < js.length) c, hget cs i = some c → hget (mrg σ h js cs) js[i] = some (renc σ c)) ∧ (∀ j, j < h.length → j ∉ js → hget (mrg σ h js cs) j = hget h j) ∧ (∀ i c, js.length ≤ i → hget cs i = some c → hget (mrg σ h js cs) (h.length + (i - js.length)) = some (renc σ c))
  | [], h, cs, h1, h2, h3 => by
    refine ⟨by simp [mrg], fun i hi => absurd hi (by simp), fun j hj _ => ?_, fun i c hi hc => ?_⟩
    · simp only [mrg, hget_eq, List.getElem?_append_left hj]
    · have hl := hget_lt hc
      rw [hget_eq] at hc
      simp only [mrg, hget_eq, List.length_nil, Nat.sub_zero]
      rw [List.getElem?_append_right (by omega), show h.length + i - h.length = i by omega, List.getElem?_map, hc]
      rfl
  | j :: js, h, [], h1, h2, h3 => by simp at h1
  | j :: js, h, c0 :: cs, h1, h2, h3 => by
    have hj : j < h.length := h3 j List.mem_cons_self
    have hnd := List.nodup_cons.mp h2
    obtain ⟨a1, a2, a3, a4⟩ := mrg_spec σ js (hset h j (renc σ c0)) cs (by simpa using h1) hnd.2 (fun x hx => by rw [hset_len]; exact h3 x (List.mem_cons_of_mem _ hx))
    rw [hset_len] at a1 a3 a4
    refine ⟨by simp only [mrg, a1, List.length_cons]; omega, fun i hi c hc => ?_, fun x hx hn => ?_, fun i c hi hc => ?_⟩
    · cases i with
      | zero =>
        simp only [hget, Option.some.injEq] at hc
        subst hc
        simp only [mrg, List.getElem_cons_zero]
        rw [a3 j hj hnd.1, hget_set_eq hj]
      | succ i => exact a2 i (by simpa using hi) c hc
    · simp only [mrg]
      rw [a3 x hx (fun q => hn (List.mem_cons_of_mem _ q)), hget_set_ne (fun q => hn (by rw [← q]; exact List.mem_cons_self))]
    · cases i with
      | zero => simp at hi
      | succ i =>
        have := a4 i c (by simpa using hi) hc
        simp only [mrg, List.length_cons]
        rw [show i + 1 - (js.length + 1) = i - js.length by omega]
        exact this
/-- the caller's names that the callee's moving names are -/
def mvs (mv : Nat → Bool) : List Nat → Nat → Nat → Bool
  | [], _, _ => false
  | a :: as, i, j => (a == j && mv i) || mvs mv as (i + 1) j
theorem mvs_spec (mv : Nat → Bool) : ∀ (as : List Nat) (i j : Nat), mvs mv as i j = false → ∀ k (hk : k < as.length), as[k] = j → mv (i + k) = false
  | [], i, j, h, k, hk, e => by simp at hk
  | a :: as, i, j, h, 0, hk, e => by
    simp only [List.getElem_cons_zero] at e
    subst e
    simp [mvs] at h
    exact h.1
  | a :: as, i, j, h, k + 1, hk, e => by
    simp only [mvs, Bool.or_eq_false_iff] at h
    have := mvs_spec mv as (i + 1) j h.2 k (by simpa using hk) (by simpa using e)
    rw [show i + (k + 1) = i + 1 + k by omega]
    exact this
theorem mvs_no (as : List Nat) (i j : Nat) : mvs nomv as i j = false := by
  induction as generalizing i with
  | nil => rfl
  | cons a as ih => simp [mvs, nomv, ih]
theorem nd_inj {js : List Nat} (hnd : js.Nodup) {i j : Nat} (hi : i < js.length) (hj : j < js.length) (q : js[i] = js[j]) : i = j := by
  have hp := List.pairwise_iff_getElem.mp hnd
  rcases Nat.lt_trichotomy i j with h | h | h
  · exact absurd q (hp i j hi hj h)
  · exact h
  · exact absurd q.symm (hp j i hj hi h)
theorem sp_lift {d μ : Nat} {avc : List Value} {hc : aH} {mvc : Nat → Bool} {mc ms : Nat} {Postc : Option Value → aH → Prop} (hS : aSp d μ avc hc mvc mc ms Postc) {h : aH} (js : List Nat) (hlen : js.length = hc.length) (hm : js.map (hget h) = hc.map (fun c => some (renc (sg js h.length) c))) (hnd : js.Nodup) (hok : ∀ j c, hget h j = some c → j ∉ js → okC h.length (mvs mvc js 0) c) (hpl : ∀ r hc', Postc r hc' → hc.length ≤ hc'.length) :
    aSp d μ (avc.map (trv (sg js h.length))) h (mvs mvc js 0) mc ms (fun r h' => ∃ r0 hc', Postc r0 hc' ∧ r = r0.map (trv (sg js h.length)) ∧ h' = mrg (sg js h.length) h js hc') := by
  intro l D dA ρ sz
  have hN : ∀ j ∈ js, j < h.length := by
    intro j hj
    have h1 : hget h j ∈ js.map (hget h) := List.mem_map_of_mem hj
    rw [hm] at h1
    obtain ⟨c, -, h2⟩ := List.mem_map.mp h1
    exact hget_lt h2.symm
  have t1 : ∀ i c, hget hc i = some c → hget h (sg js h.length i) = some (renc (sg js h.length) c) := by
    intro i c hci
    have hi : i < js.length := by rw [hlen]; exact hget_lt hci
    rw [sg_in js _ i hi]
    have h1 := congrArg (fun x : List (Option aC) => x[i]?) hm
    rw [hget_eq] at hci
    simp only [List.getElem?_map, hci, Option.map_some, List.getElem?_eq_getElem hi, Option.some.injEq] at h1
    exact h1
  have sinj : ∀ i j, sg js h.length i = sg js h.length j → i = j := by
    intro i j q
    rcases Nat.lt_or_ge i js.length with hi | hi
    · rcases Nat.lt_or_ge j js.length with hj | hj
      · rw [sg_in js _ i hi, sg_in js _ j hj] at q
        exact nd_inj hnd hi hj q
      · rw [sg_in js _ i hi, sg_out js _ j hj] at q
        have := hN _ (List.getElem_mem hi)
        omega
    · rcases Nat.lt_or_ge j js.length with hj | hj
      · rw [sg_out js _ i hi, sg_in js _ j hj] at q
        have := hN _ (List.getElem_mem hj)
        omega
      · rw [sg_out js _ i hi, sg_out js _ j hj] at q
        omega
  refine MetFree.mono (hS l D dA (fun i => ρ (sg js h.length i)) sz) ?_ (fun _ _ _ _ _ q => q) ?_
  · rintro a s ⟨rfl, q1, q2, q3, q4, q5⟩
    obtain ⟨v1, v2⟩ := view_st (h' := hc) t1 (fun i j _ _ q => sinj i j q) q2 q4
    refine ⟨?_, q1, v1, q3, v2, q5⟩
    congr 1
    rw [List.map_map]
    congr 1
    funext v
    exact trv_trv ρ _ v
  · rintro a s o t ⟨rfl, q1, q2, q3, q4, q5⟩ ⟨⟨⟨r0, hc', ρc, w1, w2, w3, w4, w5, w6⟩, w7⟩, Lc, w8, w9⟩
    subst q1
    have hpl' := hpl r0 hc' w2
    obtain ⟨m1, m2, m3, m4⟩ := mrg_spec (sg js h.length) js h hc' (by rw [hlen]; exact hpl') hnd hN
    have hAA : ∀ q, AA (fun i => ρ (sg js h.length i)) hc.length s.heap.size q → AA ρ h.length s.heap.size q := by
      rintro q (⟨j, hj, rfl⟩ | hq)
      · refine Or.inl ⟨sg js h.length j, ?_, rfl⟩
        rw [sg_in js _ j (by omega)]
        exact hN _ (List.getElem_mem _)
      · exact Or.inr hq
    -- the new addresses
    obtain ⟨ρ', r1, r2⟩ : ∃ ρ' : Nat → Nat, (∀ i, ρ' (sg js h.length i) = ρc i) ∧ ∀ j, j < h.length → j ∉ js → ρ' j = ρ j := by
      classical
      refine ⟨fun j => if q : ∃ i, sg js h.length i = j then ρc (Classical.choose q) else ρ j, fun i => ?_, fun j hj hn => ?_⟩
      · have q : ∃ i', sg js h.length i' = sg js h.length i := ⟨i, rfl⟩
        simp only [dif_pos q]
        rw [sinj _ _ (Classical.choose_spec q)]
      · have q : ¬ ∃ i, sg js h.length i = j := by
          rintro ⟨i, hi⟩
          rcases Nat.lt_or_ge i js.length with h1 | h1
          · rw [sg_in js _ i h1] at hi
            exact hn (by rw [← hi]; exact List.getElem_mem h1)
          · rw [sg_out js _ i h1] at hi
            omega
        simp only [dif_neg q]
    have hρ : (fun i => ρ' (sg js h.length i)) = ρc := funext r1
    have hfix : ∀ j, j < h.length → mvs mvc js 0 j = false → ρ' j = ρ j := by
      intro j hj hv
      by_cases hx : j ∈ js
      · obtain ⟨i, hi, rfl⟩ := List.getElem_of_mem hx
        have h1 := mvs_spec mvc js 0 _ hv i hi rfl
        rw [Nat.zero_add] at h1
        have h2 := r1 i
        rw [sg_in js _ i hi] at h2
        rw [h2, w3 i (show i < hc.length by omega) h1]
        show ρ (sg js h.length i) = _
        rw [sg_in js _ i hi]
      · exact r2 j hj hx
    -- where a name of the new heap comes from
    have src : ∀ j x, (rws dA ρ' 0 (mrg (sg js h.length) h js hc'))[j]? = some x → (∃ i, j = sg js h.length i ∧ (rws dA ρc 0 hc')[i]? = some x) ∨ (j < h.length ∧ j ∉ js ∧ (rws dA ρ 0 h)[j]? = some x) := by
      intro j x hx
      obtain ⟨c, h1, rfl⟩ := rws_of hx
      have hjl := hget_lt h1
      rw [m1] at hjl
      by_cases hjs : j ∈ js
      · obtain ⟨i, hi, rfl⟩ := List.getElem_of_mem hjs
        obtain ⟨c2, hc2⟩ : ∃ c2, hget hc' i = some c2 := by rw [hget_eq]; exact ⟨_, List.getElem?_eq_getElem (by omega)⟩
        rw [m2 i hi c2 hc2] at h1
        cases h1
        refine Or.inl ⟨i, (sg_in js _ i hi).symm, ?_⟩
        rw [rws_get0 hc2, trc_renc, hρ, ← r1 i, sg_in js _ i hi]
      · rcases Nat.lt_or_ge j h.length with hj | hj
        · rw [m3 j hj hjs] at h1
          refine Or.inr ⟨hj, hjs, ?_⟩
          rw [rws_get0 h1, r2 j hj hjs, okC_tr hfix (hok j c h1 hjs)]
        · obtain ⟨c2, hc2⟩ : ∃ c2, hget hc' (js.length + (j - h.length)) = some c2 := by rw [hget_eq]; exact ⟨_, List.getElem?_eq_getElem (by omega)⟩
          have h2 := m4 _ c2 (by omega) hc2
          rw [show h.length + (js.length + (j - h.length) - js.length) = j by omega] at h2
          rw [h2] at h1
          cases h1
          have hsg : sg js h.length (js.length + (j - h.length)) = j := by rw [sg_out js _ _ (by omega)]; omega
          refine Or.inl ⟨_, hsg.symm, ?_⟩
          rw [rws_get0 hc2, trc_renc, hρ, ← r1 _, hsg]
    have away : ∀ j x, j < h.length → j ∉ js → (rws dA ρ 0 h)[j]? = some x → x.1 < s.heap.size ∧ ¬ AA (fun i => ρ (sg js h.length i)) hc.length s.heap.size x.1 := by
      intro j x hj hn hx
      have hlt := (q2 j x hx).lt
      refine ⟨hlt, ?_⟩
      rintro (⟨i, hi, he⟩ | hq)
      · have hi' : i < js.length := by omega
        obtain ⟨c2, hc2⟩ : ∃ c2, hget h (sg js h.length i) = some c2 := by
          obtain ⟨c3, hc3⟩ : ∃ c3, hget hc i = some c3 := by rw [hget_eq]; exact ⟨_, List.getElem?_eq_getElem hi⟩
          exact ⟨_, t1 i c3 hc3⟩
        have h3 := q4.1 (sg js h.length i) j _ x (rws_get0 hc2) hx he
        rw [sg_in js _ i hi'] at h3
        exact hn (by rw [← h3]; exact List.getElem_mem hi')
      · omega
    refine ⟨⟨⟨_, _, ρ', ?_, ⟨r0, hc', w2, rfl, rfl⟩, hfix, ?_, w5, ?_, ?_⟩, w7.1, ?_⟩, Lc, w8, fun q hq => hAA _ (w9 q hq)⟩
    · rw [w1, Option.map_map, ← hρ]
      congr 2
      funext v
      exact (trv_trv ρ' _ v).symm
    · intro j x hx
      rcases src j x hx with ⟨i, -, hi⟩ | ⟨hj, hn, hi⟩
      · exact w4 i x hi
      · obtain ⟨z1, z2⟩ := away j x hj hn hi
        exact (q2 j x hi).kept (w7.2 x.1 z1 z2)
    · intro i j p q hp hq hpq
      rcases src i p hp with ⟨i', rfl, hi⟩ | ⟨hj, hn, hi⟩
      · rcases src j q hq with ⟨j', rfl, hi2⟩ | ⟨hj2, hn2, hi2⟩
        · rw [w6.1 i' j' p q hi hi2 hpq]
        · exact absurd (hpq ▸ w6.2 i' p hi) (away j q hj2 hn2 hi2).2
      · rcases src j q hq with ⟨j', rfl, hi2⟩ | ⟨hj2, hn2, hi2⟩
        · exact absurd (hpq.symm ▸ w6.2 j' q hi2) (away i p hj hn hi).2
        · exact q4.1 i j p q hi hi2 hpq
    · intro j x hx
      rcases src j x hx with ⟨i, -, hi⟩ | ⟨hj, hn, hi⟩
      · exact hAA _ (w6.2 i x hi)
      · obtain ⟨c, h1, rfl⟩ := rws_of hi
        exact Or.inl ⟨j, hj, rfl⟩
    · intro q h1 h2
      exact w7.2 q h1 (fun z => h2 (hAA q z))
