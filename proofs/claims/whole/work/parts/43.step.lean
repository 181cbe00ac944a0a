/-! What a machine knows: its stands as sets of places -/
/-- stands, room for them, room for their words -/
abbrev aM : Type := List Nat × Nat × Nat
def stA (W : Nat) (A : aM) (m : Nat) : aM := if m ∈ A.1 then A else (A.1 ++ [m], rmT A.1.length A.2.1, rmE A.1.length A.2.1 A.2.2 W)
def pw2 (n : Nat) : Prop := ∃ j, n = 8 * 2 ^ j
def pw3 (n : Nat) : Prop := ∃ j, n = 8 * 2 ^ j ∨ n = 24 * 2 ^ j
/-- slots and cells made so far, at most -/
def uS (A : aM) : Nat := 20 * A.2.1 + 4 * A.2.2
def uC (A : aM) : Nat := A.2.1 / 2 + A.2.2 / 4
theorem pw_lt {a b : Nat} (h : 2 ^ a < 2 ^ b) : a < b := (Nat.pow_lt_pow_iff_right (by decide)).mp h
theorem pw_2le {a b : Nat} (h : a < b) : 2 * 2 ^ a ≤ 2 ^ b := by
  have := Nat.pow_le_pow_right (n := 2) (by decide) (show a + 1 ≤ b by omega)
  rw [Nat.pow_succ] at this
  omega
theorem pw_4le {a b : Nat} (h : a + 1 < b) : 4 * 2 ^ a ≤ 2 ^ b := by
  have := Nat.pow_le_pow_right (n := 2) (by decide) (show a + 2 ≤ b by omega)
  rw [Nat.pow_add] at this
  omega
/-- a longer row of sets is longer by a third -/
theorem pw3_grow {x y : Nat} (hx : pw3 x) (hy : pw3 y) (h : x < y) : y ≤ 4 * (y - x) ∧ 8 ≤ y - x := by
  obtain ⟨a, rfl | rfl⟩ := hx <;> obtain ⟨b, rfl | rfl⟩ := hy
  · have := pw_2le (pw_lt (show 2 ^ a < 2 ^ b by omega))
    have := Nat.two_pow_pos a
    omega
  · have p := Nat.two_pow_pos a
    have p2 := Nat.two_pow_pos b
    rcases Nat.lt_trichotomy a b with q | q | q
    · have := pw_2le q; omega
    · subst q; omega
    · rcases Nat.lt_or_ge (b + 1) a with q2 | q2
      · have := pw_4le q2; omega
      · have e : a = b + 1 := by omega
        subst e
        rw [Nat.pow_succ] at h ⊢
        omega
  · have p := Nat.two_pow_pos a
    rcases Nat.lt_or_ge (a + 1) b with q2 | q2
    · have := pw_4le q2; omega
    · have := Nat.pow_le_pow_right (n := 2) (by decide) q2
      rw [Nat.pow_succ] at this
      omega
  · have := pw_2le (pw_lt (show 2 ^ a < 2 ^ b by omega))
    have := Nat.two_pow_pos a
    omega
theorem pw3_mul {n W : Nat} (h : pw2 n) (h1 : 1 ≤ W) (h4 : W ≤ 4) : pw3 (n * W) := by
  obtain ⟨j, rfl⟩ := h
  have : W = 1 ∨ W = 2 ∨ W = 3 ∨ W = 4 := by omega
  rcases this with rfl | rfl | rfl | rfl
  · exact ⟨j, Or.inl (by omega)⟩
  · exact ⟨j + 1, Or.inl (by rw [Nat.pow_succ]; omega)⟩
  · exact ⟨j, Or.inr (by omega)⟩
  · exact ⟨j + 2, Or.inl (by rw [Nat.pow_add]; omega)⟩
theorem pw2_T {k n : Nat} (h : pw2 n) : pw2 (rmT k n) := by
  unfold rmT
  split
  · exact h
  · obtain ⟨j, rfl⟩ := h
    exact ⟨j + 1, by rw [Nat.pow_succ]; omega⟩
theorem pw3_E {k n e W : Nat} (h : pw2 n) (h3 : pw3 e) (h1 : 1 ≤ W) (h4 : W ≤ 4) : pw3 (rmE k n e W) := by
  unfold rmE
  split
  · exact pw3_mul (pw2_T h) h1 h4
  · exact h3
theorem rm_cost {k n e W : Nat} (h : pw2 n) (h3 : pw3 e) (h1 : 1 ≤ W) (h4 : W ≤ 4) : 20 * n + 4 * e + rmS k n e W ≤ 20 * rmT k n + 4 * rmE k n e W ∧ n / 2 + e / 4 + rmC k n e W ≤ rmT k n / 2 + rmE k n e W / 4 := by
  have hE := pw3_E (k := k) h h3 h1 h4
  have hM := pw3_mul (pw2_T (k := k) h) h1 h4
  have hn : 8 ≤ n ∧ n % 8 = 0 := by
    obtain ⟨j, rfl⟩ := h
    have := Nat.two_pow_pos j
    omega
  have he : e % 8 = 0 := by
    obtain ⟨j, rfl | rfl⟩ := h3 <;> omega
  have hM8 : (rmT k n * W) % 8 = 0 := by
    obtain ⟨j, e1 | e1⟩ := hM <;> rw [e1] <;> omega
  unfold rmS rmC rmE
  by_cases q : e < rmT k n * W
  · have := pw3_grow h3 hM q
    simp only [if_pos q]
    generalize rmT k n * W = y at *
    unfold rmT
    split <;> omega
  · simp only [if_neg q]
    unfold rmT
    split <;> omega
/-- the invariant of a machine -/
def mcI (S W : Nat) (gm : Nat → List (Nat × Nat)) (T : Nat → Nat) (A : aM) (se : Nat → Int64) (nx tr ol nw : Nat → Int32) : Prop :=
  (1 ≤ W ∧ W ≤ 4 ∧ S ≤ 64 * W ∧ S ≤ 256) ∧ (A.1.length ≤ A.2.1 ∧ A.2.1 ≤ 2 ^ 14 ∧ A.2.2 ≤ 2 ^ 16 ∧ A.1.length * W ≤ A.2.2 ∧ pw2 A.2.1 ∧ pw3 A.2.2) ∧ A.1.Nodup ∧ (∀ m ∈ A.1, m < 2 ^ S) ∧
  (∀ i m, A.1[i]? = some m → (∀ w, w < W → se (i * W + w) = lN (wdM m w)) ∧ tr i = nI (trM T m) ∧ ∀ x, x < 8 → nx (8 * i + x) = -2 ∨ ∃ j, A.1[j]? = some (dltM gm x m) ∧ nx (8 * i + x) = nI j) ∧ chI W A.1.length se ol nw
theorem gget_lt {L : List Nat} {i m : Nat} (h : L[i]? = some m) : i < L.length := (List.getElem?_eq_some_iff.mp h).1
theorem rmT_le {k n : Nat} (h : pw2 n) (hk : k ≤ n) (h2 : n ≤ 2 ^ 14) (h3 : k + 1 ≤ 2 ^ 14) : rmT k n ≤ 2 ^ 14 := by
  unfold rmT
  split
  · exact h2
  · obtain ⟨j, rfl⟩ := h
    have : 2 ^ j < 2 ^ 11 := by omega
    have := pw_2le (pw_lt this)
    omega
theorem mcI_new {S W : Nat} {gm : Nat → List (Nat × Nat)} {T : Nat → Nat} {A : aM} {se : Nat → Int64} {nx tr ol nw : Nat → Int32} {m : Nat} {fo : Nat → Int64} {ft : Int32} {se' : Nat → Int64} {nx' tr' ol' : Nat → Int32} (hI : mcI S W gm T A se nx tr ol nw) (hm : m ∉ A.1) (hm2 : m < 2 ^ S) (hr : repS (fo, ft) m (trM T m)) (hlen : A.1.length + 1 ≤ 2 ^ 14)
    (hn : nsK W A.1.length ft se nx tr ol nw fo (chnW fo W) se' nx' tr' ol') : mcI S W gm T (stA W A m) se' nx' tr' ol' (upd nw (chnW fo W) (nI A.1.length)) := by
  obtain ⟨⟨w1, w4, wS, wS2⟩, ⟨b1, b2, b3, b4, b5, b6⟩, hnd, hlt, hst, hch1, hch2⟩ := hI
  obtain ⟨n1, n2, n3, n4, n5, n6, n7, n8⟩ := hn
  have e : stA W A m = (A.1 ++ [m], rmT A.1.length A.2.1, rmE A.1.length A.2.1 A.2.2 W) := if_neg hm
  rw [e]
  have hT := rmT_le b5 b1 b2 hlen
  have hkt : A.1.length < rmT A.1.length A.2.1 := by
    have : 8 ≤ A.2.1 := by
      obtain ⟨j, q⟩ := b5
      have := Nat.two_pow_pos j
      omega
    unfold rmT
    split <;> omega
  have hkt2 : (A.1.length + 1) * W ≤ rmT A.1.length A.2.1 * W := Nat.mul_le_mul_right W hkt
  have hTW : rmT A.1.length A.2.1 * W ≤ 2 ^ 14 * 4 := Nat.mul_le_mul hT w4
  have hEb : rmT A.1.length A.2.1 * W ≤ rmE A.1.length A.2.1 A.2.2 W ∧ rmE A.1.length A.2.1 A.2.2 W ≤ 2 ^ 16 := by
    unfold rmE
    split <;> omega
  have hchS : ∀ i, i < A.1.length → chS se' W i = chS se W i := by
    intro i hi
    refine chn_congr (fun w hw => ?_)
    have : (i + 1) * W ≤ A.1.length * W := Nat.mul_le_mul_right W hi
    rw [Nat.succ_mul] at this
    exact n1 _ (by omega)
  have hchk : chS se' W A.1.length = chnW fo W := chn_congr (fun w hw => n2 w hw)
  refine ⟨⟨w1, w4, wS, wS2⟩, ⟨by simp only [List.length_append, List.length_singleton]; omega, hT, hEb.2, by simp only [List.length_append, List.length_singleton]; omega, pw2_T b5, pw3_E b5 b6 w1 w4⟩, ?_, ?_, ?_, ?_, ?_⟩
  · rw [List.nodup_append]
    refine ⟨hnd, by simp, fun a ha b hb => ?_⟩
    rw [List.mem_singleton] at hb
    subst hb
    exact fun z => hm (z ▸ ha)
  · intro m' hm'
    rcases List.mem_append.mp hm' with z | z
    · exact hlt m' z
    · rw [List.mem_singleton] at z
      subst z
      exact hm2
  · intro i m' hi
    rcases Nat.lt_or_ge i A.1.length with z | z
    · rw [List.getElem?_append_left z] at hi
      obtain ⟨h1, h2, h3⟩ := hst i m' hi
      have : (i + 1) * W ≤ A.1.length * W := Nat.mul_le_mul_right W z
      rw [Nat.succ_mul] at this
      refine ⟨fun w hw => by rw [n1 _ (by omega), h1 w hw], by rw [n5 i z, h2], fun x hx => ?_⟩
      rcases h3 x hx with q | ⟨j, q1, q2⟩
      · exact Or.inl (by rw [n3 _ (by omega), q])
      · exact Or.inr ⟨j, by rw [List.getElem?_append_left (gget_lt q1)]; exact q1, by rw [n3 _ (by omega), q2]⟩
    · have hi2 := gget_lt hi
      rw [List.length_append, List.length_singleton] at hi2
      have : i = A.1.length := by omega
      subst this
      rw [List.getElem?_append_right z, Nat.sub_self] at hi
      have hi3 : m = m' := by simpa using hi
      subst hi3
      refine ⟨fun w hw => by rw [n2 w hw]; exact hr.1 w (by omega), by rw [n6]; exact hr.2, fun x hx => Or.inl (n4 x hx)⟩
  · intro c hc
    simp only [List.length_append, List.length_singleton]
    unfold lastH
    by_cases q : c = chnW fo W
    · subst q
      rw [upd_s, if_pos hchk]
    · rw [upd_n q, if_neg (fun z => q (z.symm.trans hchk)), hch1 c hc]
      exact lastH_congr _ _ (fun i hi => (hchS i hi).symm)
  · intro i hi
    simp only [List.length_append, List.length_singleton] at hi
    rcases Nat.lt_or_ge i A.1.length with z | z
    · rw [n7 i z, hch2 i z, hchS i z]
      exact lastH_congr _ _ (fun j hj => (hchS j (by omega)).symm)
    · have : i = A.1.length := by omega
      subst this
      rw [n8, hchk, hch1 _ (chnW_lt fo W)]
      exact lastH_congr _ _ (fun j hj => (hchS j hj).symm)
theorem mcI_nx {S W : Nat} {gm : Nat → List (Nat × Nat)} {T : Nat → Nat} {A : aM} {se : Nat → Int64} {nx tr ol nw : Nat → Int32} {m s x j : Nat} (hI : mcI S W gm T A se nx tr ol nw) (hs : A.1[s]? = some m) (hx : x < 8) (hj : A.1[j]? = some (dltM gm x m)) : mcI S W gm T A se (upd nx (8 * s + x) (nI j)) tr ol nw := by
  obtain ⟨w0, b0, hnd, hlt, hst, hch⟩ := hI
  refine ⟨w0, b0, hnd, hlt, fun i m' hi => ?_, hch⟩
  obtain ⟨h1, h2, h3⟩ := hst i m' hi
  refine ⟨h1, h2, fun y hy => ?_⟩
  by_cases q : 8 * i + y = 8 * s + x
  · have e1 : i = s := by omega
    have e2 : y = x := by omega
    subst e1
    subst e2
    rw [hs] at hi
    cases hi
    exact Or.inr ⟨j, hj, upd_s⟩
  · rw [upd_n q]
    exact h3 y hy
theorem shl1 : ∀ x, x < 8 → nI 1 <<< (nI x &&& 31) = nI (2 ^ x) := by decide +kernel
theorem due0 {v x : Nat} (hx : x < 8) : (nI v &&& nI 255 &&& nI 1 <<< (nI x &&& 31) = nI 0) ↔ v.testBit x = false := by
  rw [shl1 x hx, fa_and, fa_and]
  have h1 : v &&& 255 &&& 2 ^ x ≤ 2 ^ x := Nat.and_le_right
  have h2 : 2 ^ x ≤ 2 ^ 8 := Nat.pow_le_pow_right (by decide) (by omega)
  rw [nI_eq (by omega) (by decide)]
  have h3 : (v &&& 255 &&& 2 ^ x).testBit x = v.testBit x := by
    rw [Nat.testBit_and, Nat.testBit_and, Nat.testBit_two_pow_self, show (255 : Nat) = 2 ^ 8 - 1 by decide, Nat.testBit_two_pow_sub_one]
    simp [hx]
  constructor
  · intro h
    rw [h, Nat.zero_testBit] at h3
    exact h3.symm
  · intro h
    apply Nat.eq_of_testBit_eq
    intro i
    rw [Nat.zero_testBit]
    by_cases q : i = x
    · subst q
      rw [h3, h]
    · rw [Nat.testBit_and, Nat.testBit_two_pow_of_ne (Ne.symm q), Bool.and_false]
theorem z_eqm2 {a : Nat} (ha : a < 2 ^ 31) : nI a = -2 ↔ False := iff_false_intro (by
  intro q
  have h1 := congrArg Int32.toInt q
  rw [nI_toInt ha, show ((-2 : Int32)).toInt = -2 by decide] at h1
  omega)
