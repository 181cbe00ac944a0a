/-! Sets of places as numbers -/
theorem fa_and (a b : Nat) : nI a &&& nI b = nI (a &&& b) := by
  apply Int32.toBitVec_inj.1
  show BitVec.ofNat 32 a &&& BitVec.ofNat 32 b = BitVec.ofNat 32 (a &&& b)
  apply BitVec.eq_of_getLsbD_eq
  intro i hi
  simp [hi]
theorem fa_or (a b : Nat) : nI a ||| nI b = nI (a ||| b) := by
  apply Int32.toBitVec_inj.1
  show BitVec.ofNat 32 a ||| BitVec.ofNat 32 b = BitVec.ofNat 32 (a ||| b)
  apply BitVec.eq_of_getLsbD_eq
  intro i hi
  simp [hi]
theorem fb_orL (a b : Nat) : lN a ||| lN b = lN (a ||| b) := by
  apply Int64.toBitVec_inj.1
  show BitVec.ofNat 64 a ||| BitVec.ofNat 64 b = BitVec.ofNat 64 (a ||| b)
  apply BitVec.eq_of_getLsbD_eq
  intro i hi
  simp [hi]
/-- a word of a set -/
def wdM (m w : Nat) : Nat := m / 2 ^ (64 * w) % 2 ^ 64
theorem wdM_lt (m w : Nat) : wdM m w < 2 ^ 64 := Nat.mod_lt _ (by decide)
theorem wdM_bit (m w b : Nat) : (wdM m w).testBit b = (decide (b < 64) && m.testBit (b + 64 * w)) := by
  unfold wdM
  rw [Nat.testBit_mod_two_pow, Nat.testBit_div_two_pow]
theorem wdM_inj {m m' W : Nat} (h1 : m < 2 ^ (64 * W)) (h2 : m' < 2 ^ (64 * W)) (h : ∀ w, w < W → wdM m w = wdM m' w) : m = m' := by
  apply Nat.eq_of_testBit_eq
  intro i
  rcases Nat.lt_or_ge i (64 * W) with q | q
  · have e := congrArg (fun z => z.testBit (i % 64)) (h (i / 64) (by omega))
    simp only [wdM_bit] at e
    rw [show i % 64 + 64 * (i / 64) = i by omega] at e
    simpa [show i % 64 < 64 by omega] using e
  · rw [Nat.testBit_lt_two_pow (Nat.lt_of_lt_of_le h1 (Nat.pow_le_pow_right (by decide) q)), Nat.testBit_lt_two_pow (Nat.lt_of_lt_of_le h2 (Nat.pow_le_pow_right (by decide) q))]
theorem lN_inj64 {a b : Nat} (ha : a < 2 ^ 64) (hb : b < 2 ^ 64) (h : lN a = lN b) : a = b := by
  have := congrArg (fun z : Int64 => z.toBitVec.toNat) h
  simp only [bl_lN_nat ha, bl_lN_nat hb] at this
  exact this
/-- all h of the moves by a sort, together -/
def orX (x : Nat) (h : Nat → Nat) (L : List (Nat × Nat)) (a : Nat) : Nat := L.foldl (fun a m => if m.1 = x then a ||| h m.2 else a) a
theorem orX_bit (x : Nat) (h : Nat → Nat) (b : Nat) : ∀ (L : List (Nat × Nat)) (a : Nat), (orX x h L a).testBit b = (a.testBit b || L.any (fun m => m.1 == x && (h m.2).testBit b))
  | [], a => by simp [orX]
  | m :: L, a => by
    have := orX_bit x h b L (if m.1 = x then a ||| h m.2 else a)
    unfold orX at this ⊢
    rw [List.foldl_cons, this, List.any_cons]
    by_cases q : m.1 = x
    · rw [if_pos q, Nat.testBit_or, Bool.or_assoc, beq_iff_eq.mpr q, Bool.true_and]
    · rw [if_neg q, beq_eq_false_iff_ne.mpr q, Bool.false_and, Bool.false_or]
theorem orX_app (x : Nat) (h : Nat → Nat) (L L2 : List (Nat × Nat)) (a : Nat) : orX x h (L ++ L2) a = orX x h L2 (orX x h L a) := List.foldl_append
theorem orX_lt {x : Nat} {h : Nat → Nat} {n : Nat} {L : List (Nat × Nat)} {a : Nat} (ha : a < 2 ^ n) (hL : ∀ m ∈ L, m.1 = x → h m.2 < 2 ^ n) : orX x h L a < 2 ^ n := by
  apply Nat.lt_pow_two_of_testBit
  intro i hi
  rw [orX_bit, Nat.testBit_lt_two_pow (Nat.lt_of_lt_of_le ha (Nat.pow_le_pow_right (by decide) hi)), Bool.false_or, List.any_eq_false]
  intro m hm
  by_cases q : m.1 = x
  · have := hL m hm q
    rw [Nat.testBit_lt_two_pow (Nat.lt_of_lt_of_le this (Nat.pow_le_pow_right (by decide) hi))]
    simp
  · simp [q]
theorem tbit_eq0 : ∀ r, r < 64 → lN 1 <<< ((nI r).toInt64 &&& 63) = lN (2 ^ r) := by decide +kernel
theorem tbit_eq (t : Nat) : tbit t = lN (2 ^ (t % 64)) := tbit_eq0 _ (Nat.mod_lt _ (by decide))
theorem wdM_or (A t j : Nat) : wdM (A ||| 2 ^ t) j = wdM A j ||| (if j = t / 64 then 2 ^ (t % 64) else 0) := by
  apply Nat.eq_of_testBit_eq
  intro b
  rw [wdM_bit, Nat.testBit_or, Nat.testBit_or, wdM_bit, Nat.testBit_two_pow]
  by_cases q : j = t / 64
  · rw [if_pos q, Nat.testBit_two_pow]
    by_cases hb : b < 64
    · have : (t = b + 64 * j) ↔ (t % 64 = b) := by omega
      simp [hb, this]
    · have : ¬ t % 64 = b := by omega
      simp [hb, this]
  · rw [if_neg q, Nat.zero_testBit]
    by_cases hb : b < 64
    · have : ¬ t = b + 64 * j := by omega
      simp [hb, this]
    · simp [hb]
/-- words of a set, traits: as they stand in a machine -/
def repS (z : (Nat → Int64) × Int32) (A v : Nat) : Prop := (∀ j, j < 4 → z.1 j = lN (wdM A j)) ∧ z.2 = nI v
theorem adS_rep {ptr : Nat → Int32} {T : Nat → Nat} {x S : Nat} (hS : S ≤ 256) (hT : ∀ t, t < S → ptr t = nI (T t)) : ∀ (L : List (Nat × Nat)) (z : (Nat → Int64) × Int32) (A v : Nat), (∀ m ∈ L, m.2 < S) → repS z A v → repS (L.foldl (adS ptr x) z) (orX x (fun t => 2 ^ t) L A) (orX x T L v)
  | [], z, A, v, _, h => h
  | m :: L, z, A, v, hL, h => by
    have hm := hL m (List.mem_cons_self ..)
    have hr := fun z A v => adS_rep (x := x) hS hT L z A v (fun m hm => hL m (List.mem_cons_of_mem _ hm))
    unfold orX at hr ⊢
    simp only [List.foldl_cons]
    unfold adS
    by_cases q : m.1 = x
    · simp only [if_pos q]
      refine hr _ _ _ ⟨fun j hj => ?_, ?_⟩
      · show vp_updL z.1 (m.2 / 64) (z.1 (m.2 / 64) ||| tbit m.2) j = _
        rw [wdM_or]
        by_cases qj : j = m.2 / 64
        · subst qj
          rw [updL_s, if_pos rfl, h.1 _ hj, tbit_eq, fb_orL]
        · rw [updL_n qj, if_neg qj, h.1 j hj, Nat.or_zero]
      · show z.2 ||| ptr m.2 = _
        rw [h.2, hT m.2 hm, fa_or]
    · simp only [if_neg q]
      exact hr _ _ _ h
theorem orX_or (x : Nat) (h : Nat → Nat) (L : List (Nat × Nat)) (a : Nat) : a ||| orX x h L 0 = orX x h L a := by
  apply Nat.eq_of_testBit_eq
  intro b
  rw [Nat.testBit_or, orX_bit, orX_bit, Nat.zero_testBit, Bool.false_or]
theorem tgF_rep {ptr : Nat → Int32} {T : Nat → Nat} {x S : Nat} {gm : Nat → List (Nat × Nat)} (hS : S ≤ 256) (hT : ∀ t, t < S → ptr t = nI (T t)) (hg : ∀ p, p < S → ∀ m ∈ gm p, m.2 < S) : ∀ (B : List Nat) (z : (Nat → Int64) × Int32) (A v : Nat), (∀ p ∈ B, p < S) → repS z A v → repS (B.foldl (tgF ptr x gm) z) (orX x (fun t => 2 ^ t) (B.flatMap gm) A) (orX x T (B.flatMap gm) v)
  | [], z, A, v, _, h => h
  | p :: B, z, A, v, hB, h => by
    have hp := hB p (List.mem_cons_self ..)
    have hr := fun z A v => tgF_rep (x := x) hS hT hg B z A v (fun m hm => hB m (List.mem_cons_of_mem _ hm))
    rw [List.flatMap_cons, orX_app, orX_app, List.foldl_cons]
    have h1 := adS_rep (x := x) hS hT (gm p) (z.1, nI 0) A 0 (hg p hp) ⟨h.1, rfl⟩
    refine hr _ _ _ ⟨h1.1, ?_⟩
    show z.2 ||| _ = _
    rw [h1.2, h.2, fa_or, orX_or]
theorem bitsOf_mod (k n : Nat) : bitsOf k (n % 2 ^ k) = bitsOf k n := by
  unfold bitsOf
  apply List.filter_congr
  intro i hi
  rw [Nat.testBit_mod_two_pow]
  simp [List.mem_range.mp hi]
theorem plW_bits {f : Nat → Int64} {m : Nat} : ∀ W, (∀ w, w < W → f w = lN (wdM m w)) → plW f W = bitsOf (64 * W) m
  | 0, _ => rfl
  | W + 1, h => by
    unfold plW
    rw [plW_bits W (fun w hw => h w (by omega)), h W (by omega), bl_lN_nat (wdM_lt _ _), show 64 * (W + 1) = 64 * W + 64 by omega, bitsOf_add]
    unfold wdM
    rw [bitsOf_mod, Nat.mul_comm W 64]
theorem bitsOf_ext {j k n : Nat} (hj : j ≤ k) (hn : n < 2 ^ j) : bitsOf k n = bitsOf j n := by
  obtain ⟨e, rfl⟩ : ∃ e, k = j + e := ⟨k - j, by omega⟩
  rw [bitsOf_add, Nat.div_eq_of_lt hn]
  have : bitsOf e 0 = [] := by
    unfold bitsOf
    rw [List.filter_eq_nil_iff]
    intro a _
    rw [Nat.zero_testBit]
    decide
  rw [this]
  simp
theorem mem_bitsOf {k n p : Nat} : p ∈ bitsOf k n ↔ p < k ∧ n.testBit p = true := by
  unfold bitsOf
  rw [List.mem_filter, List.mem_range]
/-- the places that a sort leads to from a set of places -/
def dltM (gm : Nat → List (Nat × Nat)) (x m : Nat) : Nat := orX x (fun t => 2 ^ t) ((bitsOf 256 m).flatMap gm) 0
/-- traits of a set of places -/
def trM (T : Nat → Nat) (m : Nat) : Nat := (bitsOf 256 m).foldl (fun a p => a ||| T p) 0
theorem orF_bit (T : Nat → Nat) (b : Nat) : ∀ (L : List Nat) (a : Nat), (L.foldl (fun a p => a ||| T p) a).testBit b = (a.testBit b || L.any (fun p => (T p).testBit b))
  | [], a => by simp
  | m :: L, a => by
    rw [List.foldl_cons, orF_bit T b L, List.any_cons, Nat.testBit_or, Bool.or_assoc]
theorem trM_bit {T : Nat → Nat} {m b : Nat} : (trM T m).testBit b = true ↔ ∃ p, p < 256 ∧ m.testBit p = true ∧ (T p).testBit b = true := by
  unfold trM
  rw [orF_bit, Nat.zero_testBit, Bool.false_or, List.any_eq_true]
  constructor
  · rintro ⟨p, h1, h2⟩
    exact ⟨p, (mem_bitsOf.mp h1).1, (mem_bitsOf.mp h1).2, h2⟩
  · rintro ⟨p, h1, h2, h3⟩
    exact ⟨p, mem_bitsOf.mpr ⟨h1, h2⟩, h3⟩
theorem dltM_bit {gm : Nat → List (Nat × Nat)} {x m t : Nat} : (dltM gm x m).testBit t = true ↔ ∃ q, q < 256 ∧ m.testBit q = true ∧ (x, t) ∈ gm q := by
  unfold dltM
  rw [orX_bit, Nat.zero_testBit, Bool.false_or, List.any_eq_true]
  constructor
  · rintro ⟨⟨y, u⟩, h1, h2⟩
    obtain ⟨q, h3, h4⟩ := List.mem_flatMap.mp h1
    simp only [Bool.and_eq_true, beq_iff_eq, Nat.testBit_two_pow, decide_eq_true_eq] at h2
    obtain ⟨rfl, rfl⟩ := h2
    exact ⟨q, (mem_bitsOf.mp h3).1, (mem_bitsOf.mp h3).2, h4⟩
  · rintro ⟨q, h1, h2, h3⟩
    refine ⟨(x, t), List.mem_flatMap.mpr ⟨q, mem_bitsOf.mpr ⟨h1, h2⟩, h3⟩, ?_⟩
    simp [Nat.testBit_two_pow]
theorem dltM_tr {gm : Nat → List (Nat × Nat)} {T : Nat → Nat} {x m S : Nat} (hS : S ≤ 256) (hm : m < 2 ^ S) (hg : ∀ p, p < S → ∀ m ∈ gm p, m.2 < S) : orX x T ((bitsOf 256 m).flatMap gm) 0 = trM T (dltM gm x m) := by
  apply Nat.eq_of_testBit_eq
  intro b
  rw [Bool.eq_iff_iff, trM_bit, orX_bit, Nat.zero_testBit, Bool.false_or, List.any_eq_true]
  constructor
  · rintro ⟨⟨y, u⟩, h1, h2⟩
    obtain ⟨q, h3, h4⟩ := List.mem_flatMap.mp h1
    simp only [Bool.and_eq_true, beq_iff_eq] at h2
    obtain ⟨rfl, h5⟩ := h2
    have hq : q < S := by
      rcases Nat.lt_or_ge q S with z | z
      · exact z
      · have := (mem_bitsOf.mp h3).2
        rw [Nat.testBit_lt_two_pow (Nat.lt_of_lt_of_le hm (Nat.pow_le_pow_right (by decide) z))] at this
        exact absurd this (by decide)
    have := hg q hq _ h4
    exact ⟨u, Nat.lt_of_lt_of_le this hS, dltM_bit.mpr ⟨q, (mem_bitsOf.mp h3).1, (mem_bitsOf.mp h3).2, h4⟩, h5⟩
  · rintro ⟨t, h1, h2, h3⟩
    obtain ⟨q, h4, h5, h6⟩ := dltM_bit.mp h2
    refine ⟨(x, t), List.mem_flatMap.mpr ⟨q, mem_bitsOf.mpr ⟨h4, h5⟩, h6⟩, ?_⟩
    simp [h3]
theorem dltM_lt {gm : Nat → List (Nat × Nat)} {x m S : Nat} (hm : m < 2 ^ S) (hg : ∀ p, p < S → ∀ m ∈ gm p, m.2 < S) : dltM gm x m < 2 ^ S := by
  apply Nat.lt_pow_two_of_testBit
  intro i hi
  rw [← Bool.not_eq_true]
  intro q
  obtain ⟨p, h1, h2, h3⟩ := dltM_bit.mp q
  have hp : p < S := by
    rcases Nat.lt_or_ge p S with z | z
    · exact z
    · rw [Nat.testBit_lt_two_pow (Nat.lt_of_lt_of_le hm (Nat.pow_le_pow_right (by decide) z))] at h2
      exact absurd h2 (by decide)
  have := hg p hp _ h3
  exact absurd this (by show ¬ i < S; omega)
