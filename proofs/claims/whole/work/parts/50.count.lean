/-! Counting rows -/
/-- the sets that live rows come to by one step more -/
def nxL (gm : Nat → List (Nat × Nat)) (m : Nat) : List Nat := ((List.range 8).map (fun x => dltM gm x m)).filter (fun m => !(m == 0))
/-- the sets that live rows of a length come to, one for each row -/
def lvL (gm : Nat → List (Nat × Nat)) : Nat → List Nat
  | 0 => [1]
  | l + 1 => (lvL gm l).flatMap (nxL gm)
theorem nxL_len (gm : Nat → List (Nat × Nat)) (m : Nat) : (nxL gm m).length ≤ 8 := by
  unfold nxL
  refine Nat.le_trans (List.length_filter_le _ _) ?_
  rw [List.length_map, List.length_range]
  exact Nat.le_refl _
theorem fm_len {f : Nat → List Nat} {c : Nat} (h : ∀ m, (f m).length ≤ c) : ∀ L : List Nat, (L.flatMap f).length ≤ c * L.length
  | [] => by simp
  | m :: L => by
    have h1 := h m
    have h2 := fm_len h L
    rw [List.flatMap_cons, List.length_append, List.length_cons, Nat.mul_succ]
    omega
theorem lvL_len (gm : Nat → List (Nat × Nat)) : ∀ l, (lvL gm l).length ≤ 8 ^ l
  | 0 => by simp [lvL]
  | l + 1 => by
    have h := fm_len (nxL_len gm) (lvL gm l)
    have h2 := lvL_len gm l
    show ((lvL gm l).flatMap (nxL gm)).length ≤ _
    rw [Nat.pow_succ]
    omega
theorem lvL_ne (gm : Nat → List (Nat × Nat)) : ∀ l, ∀ m ∈ lvL gm l, m ≠ 0
  | 0, m, h => by
    have : m = 1 := by simpa [lvL] using h
    omega
  | l + 1, m, h => by
    obtain ⟨a, -, h2⟩ := List.mem_flatMap.mp h
    have := (List.mem_filter.mp h2).2
    simpa using this
/-- how many of the sorts from x on lead to a set -/
def hitX (gm : Nat → List (Nat × Nat)) (m m' : Nat) (x : Nat) : Nat := (((List.range x).map (fun x => dltM gm x m)).filter (fun m => !(m == 0))).count m'
theorem hitX_s (gm : Nat → List (Nat × Nat)) (m m' x : Nat) : hitX gm m m' (x + 1) = hitX gm m m' x + (if dltM gm x m ≠ 0 ∧ dltM gm x m = m' then 1 else 0) := by
  unfold hitX
  rw [List.range_succ, List.map_append, List.filter_append, List.count_append]
  congr 1
  rw [List.map_singleton]
  generalize dltM gm x m = y
  by_cases q : y = 0
  · subst q
    simp
  · by_cases q2 : y = m'
    · subst q2
      simp [q]
    · simp [q, q2]
theorem hitX_0 (gm : Nat → List (Nat × Nat)) (m m' : Nat) : hitX gm m m' 0 = 0 := by simp [hitX]
theorem hitX_8 (gm : Nat → List (Nat × Nat)) (m m' : Nat) : hitX gm m m' 8 = (nxL gm m).count m' := rfl
theorem cnt_fm (f : Nat → List Nat) (m' : Nat) : ∀ L : List Nat, (L.flatMap f).count m' = (L.map (fun m => (f m).count m')).sum
  | [] => by simp
  | m :: L => by rw [List.flatMap_cons, List.count_append, cnt_fm f m' L, List.map_cons, List.sum_cons]
/-- a sum over a list, by its different values -/
def sumI : List Nat → (Nat → Nat) → (Nat → Nat) → Nat
  | [], _, _ => 0
  | m :: L, c, g => c m * g m + sumI L c g
theorem sumI_add (c c' : Nat → Nat) (g : Nat → Nat) : ∀ L : List Nat, sumI L (fun m => c m + c' m) g = sumI L c g + sumI L c' g
  | [] => rfl
  | m :: L => by
    simp only [sumI, sumI_add c c' g L, Nat.add_mul]
    omega
theorem sumI_0 {c : Nat → Nat} (g : Nat → Nat) : ∀ L : List Nat, (∀ m ∈ L, c m = 0) → sumI L c g = 0
  | [], _ => rfl
  | m :: L, h => by
    simp only [sumI, h m (List.mem_cons_self ..), Nat.zero_mul, sumI_0 g L (fun x hx => h x (List.mem_cons_of_mem _ hx))]
def one1 (a m : Nat) : Nat := if m = a then 1 else 0
theorem sumI_one {a : Nat} (g : Nat → Nat) : ∀ {L : List Nat}, L.Nodup → a ∈ L → sumI L (one1 a) g = g a
  | [], _, h => absurd h List.not_mem_nil
  | m :: L, hn, h => by
    obtain ⟨h1, h2⟩ := List.nodup_cons.mp hn
    unfold sumI
    by_cases q : m = a
    · subst q
      rw [sumI_0 (c := one1 m) g L (fun x hx => if_neg (by intro z; subst z; exact h1 hx)), show one1 m m = 1 from if_pos rfl]
      omega
    · rw [show one1 a m = 0 from if_neg q, sumI_one g h2 ((List.mem_cons.mp h).resolve_left (fun z => q z.symm))]
      omega
theorem sumI_cnt (g : Nat → Nat) {L : List Nat} (hn : L.Nodup) : ∀ {V : List Nat}, (∀ m ∈ V, m ∈ L) → sumI L (fun m => V.count m) g = (V.map g).sum
  | [], _ => sumI_0 g L (fun m _ => List.count_nil)
  | a :: V, h => by
    have ih := sumI_cnt g hn (V := V) (fun m hm => h m (List.mem_cons_of_mem _ hm))
    have e : (fun m => (a :: V).count m) = (fun m => V.count m + one1 a m) := by
      funext m
      rw [List.count_cons]
      unfold one1
      by_cases q : m = a
      · subst q; simp
      · rw [if_neg q]
        have : (a == m) = false := beq_eq_false_iff_ne.mpr (fun z => q z.symm)
        simp [this]
    rw [e, sumI_add, ih, sumI_one g hn (h a (List.mem_cons_self ..)), List.map_cons, List.sum_cons, Nat.add_comm]
theorem sumI_app (c g : Nat → Nat) (L2 : List Nat) : ∀ L : List Nat, sumI (L ++ L2) c g = sumI L c g + sumI L2 c g
  | [] => by simp [sumI]
  | m :: L => by
    simp only [List.cons_append, sumI, sumI_app c g L2 L]
    omega
/-- the rows of a length and one more that come to a set -/
theorem lv_next {gm : Nat → List (Nat × Nat)} {l m' : Nat} {L : List Nat} (hn : L.Nodup) (h : ∀ m ∈ lvL gm l, m ∈ L) : (lvL gm (l + 1)).count m' = sumI L (fun m => (lvL gm l).count m) (fun m => hitX gm m m' 8) := by
  rw [sumI_cnt _ hn h]
  show ((lvL gm l).flatMap (nxL gm)).count m' = _
  rw [cnt_fm]
  rfl
