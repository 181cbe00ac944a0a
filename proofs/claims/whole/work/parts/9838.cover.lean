/-! Room: the sets of all rows of five sorts at most -/
section CO
variable {p : Int64}
/-- the sorts that stand in a pattern -/
noncomputable def prS (p : Int64) : List Nat := (List.range 8).filter (fun x => (List.range (dN p)).any (fun j => dK p j == x + 1))
theorem mem_prS {x : Nat} : x ∈ prS p ↔ x < 8 ∧ ∃ j, j < dN p ∧ dK p j = x + 1 := by
  unfold prS
  rw [List.mem_filter, List.mem_range, List.any_eq_true]
  constructor
  · rintro ⟨h1, j, h2, h3⟩
    exact ⟨h1, j, List.mem_range.mp h2, beq_iff_eq.mp h3⟩
  · rintro ⟨h1, j, h2, h3⟩
    exact ⟨h1, j, List.mem_range.mpr h2, beq_iff_eq.mpr h3⟩
theorem prS_nd : (prS p).Nodup := List.Nodup.sublist List.filter_sublist List.nodup_range
theorem prS_8 : (prS p).length ≤ 8 := by
  unfold prS
  refine Nat.le_trans (List.length_filter_le _ _) ?_
  rw [List.length_range]
  exact Nat.le_refl _
theorem row_prS (hp : okP p) {w : List Nat} (h : rowM p 1 w ≠ 0) : ∀ x ∈ w, x ∈ prS p := by
  intro x hx
  obtain ⟨u, v, rfl⟩ := List.append_of_mem hx
  have h2 : rowM p 1 (u ++ [x]) ≠ 0 := by
    have e : u ++ x :: v = (u ++ [x]) ++ v := by rw [List.append_assoc]; rfl
    rw [e] at h
    exact row_pre h
  rw [rowM_app] at h2
  have : ∃ b, (dltM (dG p) x (rowM p 1 u)).testBit b = true := by
    refine Classical.byContradiction fun w => h2 ?_
    show dltM (dG p) x (rowM p 1 u) = 0
    apply Nat.eq_of_testBit_eq
    intro b
    rw [Nat.zero_testBit, ← Bool.not_eq_true]
    exact fun q => w ⟨b, q⟩
  obtain ⟨b, hb⟩ := this
  obtain ⟨a, j, -, -, -, h4, h5, h6, -⟩ := dlt_ph hp (rowM_lt hp u 1 (one_lt hp)) hb
  exact mem_prS.mpr ⟨by omega, j, h4, h6⟩
noncomputable def ltS (p : Int64) (x : Nat) : Nat := @dite _ (∃ j, j < dN p ∧ dK p j = x + 1) (Classical.propDecidable _) (fun h => Classical.choose h) (fun _ => 0)
theorem ltS_ok {x : Nat} (h : x ∈ prS p) : ltS p x < dN p ∧ dK p (ltS p x) = x + 1 := by
  have h2 := (mem_prS.mp h).2
  unfold ltS
  rw [dif_pos h2]
  exact Classical.choose_spec h2
theorem ltS_nd : ∀ (L : List Nat), L.Nodup → (∀ x ∈ L, x ∈ prS p) → (L.map (ltS p)).Nodup
  | [], _, _ => List.nodup_nil
  | x :: L, hn, h => by
    obtain ⟨h1, h2⟩ := List.nodup_cons.mp hn
    rw [List.map_cons, List.nodup_cons]
    refine ⟨fun q => ?_, ltS_nd L h2 (fun y hy => h y (List.mem_cons_of_mem _ hy))⟩
    obtain ⟨y, hy, e⟩ := List.mem_map.mp q
    have a1 := (ltS_ok (h x (List.mem_cons_self ..))).2
    have a2 := (ltS_ok (h y (List.mem_cons_of_mem _ hy))).2
    rw [e, a1] at a2
    have : x = y := by omega
    exact h1 (this ▸ hy)
theorem ltS_lt {y : Nat} (h : y ∈ (prS p).map (ltS p)) : y ∈ ltN (dK p) (dN p) := by
  obtain ⟨x, hx, rfl⟩ := List.mem_map.mp h
  obtain ⟨a1, a2⟩ := ltS_ok hx
  have := (mem_prS.mp hx).1
  exact mem_ltN.mpr ⟨a1, by omega⟩
theorem ltS_no {i : Nat} {x : Nat} (hk : dK p i = x + 1) (hne : i ≠ ltS p x) : i ∉ (prS p).map (ltS p) := fun q => by
  obtain ⟨y, hy, e⟩ := List.mem_map.mp q
  have a2 := (ltS_ok hy).2
  rw [e, hk] at a2
  have : x = y := by omega
  rw [this] at hne
  exact hne e.symm
theorem geS_mono {c c' : Nat} (h : c ≤ c') : ∀ k, geS c k ≤ geS c' k
  | 0 => Nat.le_refl _
  | k + 1 => by
    have := Nat.mul_le_mul h (geS_mono h k)
    show 1 + c * geS c k ≤ 1 + c' * geS c' k
    omega
theorem cover (hp : okP p) : ∃ C : List Nat, C.length ≤ 15843 ∧ ∀ w : List Nat, w.length ≤ 5 → rowM p 1 w ≠ 0 → rowM p 1 w ∈ C := by
  have hw := dwf hp
  have hn16 := hw.2.1
  have hc8 : cntL (dK p) (dN p) ≤ 8 := cnt_8 hw (Nat.le_refl _)
  have hlt := ltN_len (K := dK p) (dN p)
  have hfn := ltS_nd (p := p) (prS p) prS_nd (fun x hx => hx)
  have h8 := prS_8 (p := p)
  by_cases h6 : (prS p).length ≤ 6
  · refine ⟨(rwN (prS p) 5).map (rowM p 1), ?_, fun w h5 hne => List.mem_map.mpr ⟨w, mem_rwN _ 5 w h5 (row_prS hp hne), rfl⟩⟩
    rw [List.length_map, rwN_len]
    exact Nat.le_trans (geS_mono h6 5) (by decide)
  · by_cases h7 : (prS p).length = 7
    · have hd : ∃ d, d ∈ prS p ∧ ∀ x ∈ (prS p).erase d, uqS p x (ltS p x) := by
        by_cases hb : ∃ d, d ∈ prS p ∧ ∃ i, i < dN p ∧ dK p i = d + 1 ∧ i ≠ ltS p d
        · obtain ⟨d, d1, i', i1, i2, i3⟩ := hb
          refine ⟨d, d1, fun x hx => ?_⟩
          obtain ⟨xd, xP⟩ := (List.Nodup.mem_erase_iff prS_nd).mp hx
          obtain ⟨a1, a2⟩ := ltS_ok xP
          have x8 := (mem_prS.mp xP).1
          have d8 := (mem_prS.mp d1).1
          refine ⟨a1, a2, by omega, fun i hi hk => Decidable.byContradiction fun hne => ?_⟩
          have n1 := ltS_no hk hne
          have n2 := ltS_no i2 i3
          have hii : i ≠ i' := fun e => by
            rw [e, i2] at hk
            omega
          have := nd_sub (A := i :: i' :: (prS p).map (ltS p)) (B := ltN (dK p) (dN p)) (List.nodup_cons.mpr ⟨fun q => by
            rcases List.mem_cons.mp q with q | q
            · exact hii q
            · exact n1 q, List.nodup_cons.mpr ⟨n2, hfn⟩⟩) (fun y hy => by
            rcases List.mem_cons.mp hy with e | e
            · rw [e]; exact mem_ltN.mpr ⟨hi, by omega⟩
            · rcases List.mem_cons.mp e with e | e
              · rw [e]; exact mem_ltN.mpr ⟨i1, by omega⟩
              · exact ltS_lt e)
          rw [List.length_cons, List.length_cons, List.length_map, hlt] at this
          omega
        · have : ∃ d, d ∈ prS p := by
            cases hl : prS p with
            | nil => rw [hl] at h7; simp at h7
            | cons d L => exact ⟨d, List.mem_cons_self ..⟩
          obtain ⟨d, d1⟩ := this
          refine ⟨d, d1, fun x hx => ?_⟩
          have xP := List.mem_of_mem_erase hx
          obtain ⟨a1, a2⟩ := ltS_ok xP
          have x8 := (mem_prS.mp xP).1
          exact ⟨a1, a2, by omega, fun i hi hk => Decidable.byContradiction fun hne => hb ⟨x, xP, i, hi, hk, hne⟩⟩
      obtain ⟨d, d1, d2⟩ := hd
      exact ⟨cvA p (ltS p) d (prS p), by rw [cvA_len h7 prS_nd d1]; exact Nat.le_refl _, fun w h5 hne => cov7 hp prS_nd d1 d2 5 w h5 h5 (row_prS hp hne) hne⟩
    · have e8 : (prS p).length = 8 := by omega
      have hge := nd_sub (A := (prS p).map (ltS p)) (B := ltN (dK p) (dN p)) hfn (fun y hy => ltS_lt hy)
      rw [List.length_map, hlt] at hge
      have hnod := wf_nodes hw
      have hE := cntE_0 (K := dK p) (dN p) (by omega)
      have hU := cntU_1 (K := dK p) (dN p) (by omega)
      have hall : ∀ x, x < 8 → x ∈ prS p := fun x hx => Decidable.byContradiction fun w => by
        have := nd_sub (A := x :: prS p) (B := List.range 8) (List.nodup_cons.mpr ⟨w, prS_nd⟩) (fun y hy => by
          rcases List.mem_cons.mp hy with e | e
          · rw [e]; exact List.mem_range.mpr hx
          · exact List.mem_range.mpr (mem_prS.mp e).1)
        rw [List.length_cons, List.length_range] at this
        omega
      have huq : ∀ i, i < dN p → dK p i ≤ 8 → i = ltS p (dK p i - 1) := fun i hi hk => Decidable.byContradiction fun hne => by
        have hk1 := (hw.2.2.1 i hi).1
        have n1 := ltS_no (p := p) (i := i) (x := dK p i - 1) (by omega) hne
        have := nd_sub (A := i :: (prS p).map (ltS p)) (B := ltN (dK p) (dN p)) (List.nodup_cons.mpr ⟨n1, hfn⟩) (fun y hy => by
          rcases List.mem_cons.mp hy with e | e
          · rw [e]; exact mem_ltN.mpr ⟨hi, hk⟩
          · exact ltS_lt e)
        rw [List.length_cons, List.length_map, hlt] at this
        omega
      have hq1 : ∀ i j, i < dN p → j < dN p → dK p i ≤ 8 → dK p i = dK p j → i = j := fun i j hi hj hk e => by
        rw [huq i hi hk, huq j hj (by omega), e]
      have hu : ∀ i, i < dN p → 13 ≤ dK p i → ∀ j, pst (dK p) (dL p) i ≤ j → j < i → dK p j ≤ 12 ∧ dK p j ≠ 9 := fun i hi hk j _ hj => by
        refine ⟨?_, hE j (by omega)⟩
        rcases Nat.lt_or_ge 12 (dK p j) with z | z
        · have := hU i j hi (by omega) hk (by omega)
          omega
        · exact z
      have hS : dS p ≤ 256 := wf_sp hw (by have := hw.1; omega)
      refine ⟨(List.range 256).map (fun a => 2 ^ a), by rw [List.length_map, List.length_range]; decide, fun w h5 hne => ?_⟩
      rcases det_row hp hu hq1 w 0 (psp_pos _ _ _) with e | ⟨b, hb, e⟩
      · exact absurd e hne
      · rw [show (1 : Nat) = 2 ^ 0 by decide, e]
        exact List.mem_map.mpr ⟨b, List.mem_range.mpr (by omega), rfl⟩
/-- stands that are known: sets of rows of five sorts at most, and of rows that were gone through -/
def knW (p : Int64) (Gx : List (List Nat)) (A : List Nat) : Prop := ∀ m ∈ A, ∃ w, rowM p 1 w = m ∧ m ≠ 0 ∧ (w.length ≤ 5 ∨ w ∈ Gx)
theorem knW_len (hp : okP p) {Gx : List (List Nat)} {A : List Nat} (hn : A.Nodup) (h : knW p Gx A) : A.length ≤ 15843 + Gx.length := by
  obtain ⟨C, c1, c2⟩ := cover hp
  have := nd_sub (A := A) (B := C ++ Gx.map (rowM p 1)) hn (fun m hm => by
    obtain ⟨w, rfl, w2, w3⟩ := h m hm
    rcases w3 with q | q
    · exact List.mem_append.mpr (Or.inl (c2 w q w2))
    · exact List.mem_append.mpr (Or.inr (List.mem_map.mpr ⟨w, q, rfl⟩)))
  rw [List.length_append, List.length_map] at this
  omega
end CO
