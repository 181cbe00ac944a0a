/-! ===== ints that are small numbers: rewriting rows (side goals by omega) ===== -/
theorem z_le {a b : Nat} (ha : a < 2 ^ 31) (hb : b < 2 ^ 31) : nI a ≤ nI b ↔ a ≤ b := nI_leI ha hb
theorem z_lt {a b : Nat} (ha : a < 2 ^ 31) (hb : b < 2 ^ 31) : nI a < nI b ↔ a < b := nI_ltI ha hb
theorem z_eq {a b : Nat} (ha : a < 2 ^ 31) (hb : b < 2 ^ 31) : nI a = nI b ↔ a = b := nI_eq ha hb
theorem z_cl {a : Nat} (ha : a < 2 ^ 31) : (nI a).toNatClampNeg = a := nI_clamp ha
theorem z_add {a b : Nat} : nI a + nI b = nI (a + b) := nI_add a b
theorem z_sub {a b : Nat} (h : b ≤ a) : nI a - nI b = nI (a - b) := pk_sub h
theorem z_mul {a b : Nat} : nI a * nI b = nI (a * b) := pk_mul a b
theorem z_in {a b : Nat} (h : a < b) (hb : b < 2 ^ 31) : vp_in (nI a) b ↔ True := iff_true_intro (vp_in_nI h hb)
theorem z_lt0 {a : Nat} (ha : a < 2 ^ 31) : nI a < 0 ↔ False := iff_false_intro (nI_pos ha)
theorem z_ofN (n : Nat) : Int32.ofNat n = nI n := rfl
theorem z_m1 {a : Nat} (h : 0 < a) : nI a + (-1) = nI (a - 1) := by
  obtain ⟨b, rfl⟩ : ∃ b, a = b + 1 := ⟨a - 1, by omega⟩
  exact pk_m1 b
theorem z_m1i : ((-1 : Int32)).toInt = -1 := by decide
theorem z_ltm1 {a : Nat} (ha : a < 2 ^ 31) : nI a < -1 ↔ False := iff_false_intro (by
  rw [Int32.lt_iff_toInt_lt, nI_toInt ha, z_m1i]; omega)
theorem z_m1lt {a : Nat} (ha : a < 2 ^ 31) : -1 < nI a ↔ True := iff_true_intro (by
  rw [Int32.lt_iff_toInt_lt, nI_toInt ha, z_m1i]; omega)
theorem z_eqm1 {a : Nat} (ha : a < 2 ^ 31) : nI a = -1 ↔ False := iff_false_intro (by
  intro q
  have h1 := congrArg Int32.toInt q
  rw [nI_toInt ha, z_m1i] at h1
  omega)
theorem z_m1eq {a : Nat} (ha : a < 2 ^ 31) : -1 = nI a ↔ False := iff_false_intro (by
  intro q
  have h1 := congrArg Int32.toInt q
  rw [nI_toInt ha, z_m1i] at h1
  omega)
theorem z_m1le {a : Nat} (ha : a < 2 ^ 31) : -1 ≤ nI a ↔ True := iff_true_intro (by
  rw [Int32.le_iff_toInt_le, nI_toInt ha, z_m1i]; omega)
theorem z_lem1 {a : Nat} (ha : a < 2 ^ 31) : nI a ≤ -1 ↔ False := iff_false_intro (by
  rw [Int32.le_iff_toInt_le, nI_toInt ha, z_m1i]; omega)
theorem z_div {a d : Nat} (ha : a < 2 ^ 31) (h0 : 0 < d) (hd : d < 2 ^ 31) : nI a / nI d = nI (a / d) := pk_div ha h0 hd
theorem z_rem {a d : Nat} (ha : a < 2 ^ 31) (h0 : 0 < d) (hd : d < 2 ^ 31) : nI a - nI a / nI d * nI d = nI (a % d) := pk_rem ha h0 hd
theorem upd_s {f : Nat → Int32} {k : Nat} {x : Int32} : upd f k x k = x := pk_us
theorem upd_n {f : Nat → Int32} {k j : Nat} {x : Int32} (h : j ≠ k) : upd f k x j = f j := pk_un h
theorem updL_s {f : Nat → Int64} {k : Nat} {x : Int64} : vp_updL f k x k = x := pk_uLs
theorem updL_n {f : Nat → Int64} {k j : Nat} {x : Int64} (h : j ≠ k) : vp_updL f k x j = f j := pk_uLn h
theorem nI_val (n : Nat) (h : n < 2 ^ 31) : (nI n).toInt = n := nI_toInt h
theorem nI_0_1 : nI 0 - nI 1 = -1 := by decide
theorem nI_m1lt0 : (-1 : Int32) < nI 0 ↔ True := iff_true_intro (by decide)
theorem nI_0lem1 : nI 0 ≤ (-1 : Int32) ↔ False := iff_false_intro (by decide)
theorem z_beq {a b : Nat} (ha : a < 2 ^ 31) (hb : b < 2 ^ 31) : (nI a == nI b) = (a == b) := by
  by_cases h : a = b
  · subst h; simp
  · have h1 : ¬ nI a = nI b := fun q => h ((nI_eq ha hb).mp q)
    rw [beq_eq_false_iff_ne.mpr h1, beq_eq_false_iff_ne.mpr h]
