/-! A share's bits -/
theorem fd_t : FP.Core.Fmt.tails FP.Core.b32 = 8388608 := by decide
theorem fd_e : FP.Core.Fmt.exps FP.Core.b32 = 256 := by decide
theorem fd_q : FP.Core.Fmt.qmin FP.Core.b32 = -149 := by decide
theorem fd_qm : FP.Core.Fmt.qmax FP.Core.b32 = 104 := by decide
theorem fd_dec {E T : Nat} (h1 : 1 ≤ E) (h2 : E ≤ 254) (hT : T < 8388608) : FP.Core.decode FP.Core.b32 (E * 8388608 + T) = .fin false (8388608 + T) ((E : Int) - 150) := by
  unfold FP.Core.decode FP.Core.fieldE FP.Core.fieldT FP.Core.fieldS
  rw [fd_t, fd_e, fd_q]
  have e1 : (E * 8388608 + T) / 8388608 = E := by omega
  have e2 : (E * 8388608 + T) % 8388608 = T := by omega
  rw [e1, e2, if_neg (by omega), if_neg (by omega)]
  have e3 : (E / 256 % 2 == 1) = false := by
    rw [beq_eq_false_iff_ne]
    omega
  rw [e3]
  congr 1
  have e4 : E % 256 = E := by omega
  rw [e4]
  omega
theorem fd_enc {E T : Nat} (h1 : 1 ≤ E) {q : Int} (hq : q = (E : Int) - 150) : FP.Core.encode FP.Core.b32 (.fin false (8388608 + T) q) = E * 8388608 + T := by
  subst hq
  unfold FP.Core.encode
  simp only
  rw [fd_t, fd_q, if_neg (by omega)]
  unfold FP.Core.assemble
  rw [fd_t, fd_e]
  have e1 : ((E : Int) - 150 - -149).toNat + 1 = E := by omega
  rw [e1]
  show (0 * 256 + E) * 8388608 + (8388608 + T - 8388608) = _
  omega
theorem fd_settle {c : Nat} {q : Int} (hc : c < 16777216) (hq : q ≤ 104) : FP.Core.settle FP.Core.b32 false c q = .fin false c q := by
  unfold FP.Core.settle FP.Core.bound
  rw [fd_qm, if_pos (by show c < 2 ^ 24; omega), if_pos hq]
theorem fd_lead {n k : Nat} (h1 : 2 ^ k ≤ n) (h2 : n < 2 ^ (k + 1)) : FP.Core.leading n 1 = (k : Int) := by
  have h0 : n ≠ 0 := by
    have := Nat.two_pow_pos k
    omega
  have e : n.log2 = k := (Nat.log2_eq_iff h0).mpr ⟨h1, h2⟩
  unfold FP.Core.leading
  simp only [e]
  have e2 : ((k : Int) - ((Nat.log2 1 : Nat) : Int)) = (k : Int) := by
    have : Nat.log2 1 = 0 := by decide
    rw [this]
    omega
  rw [e2]
  have e3 : ((k : Int)).toNat = k := by omega
  have e4 : (-(k : Int)).toNat = 0 := by omega
  rw [e3, e4, if_pos (by omega)]
/-- digits too many, all of them 0 -/
theorem fd_rr {c j : Nat} {e : Int} (hc : 8388608 ≤ c) (hc2 : c < 16777216) (h1 : -149 ≤ e + j) (h2 : e + j ≤ 104) : FP.Core.roundRatio FP.Core.b32 false (c * 2 ^ j) 1 e = .fin false c (e + j) := by
  have hp := Nat.two_pow_pos j
  have hn : c * 2 ^ j ≠ 0 := Nat.mul_ne_zero (by omega) (by omega)
  unfold FP.Core.roundRatio
  rw [if_neg hn]
  unfold FP.Core.roundAt FP.Core.quantum
  have hl : FP.Core.leading (c * 2 ^ j) 1 = ((23 + j : Nat) : Int) := fd_lead (by
    rw [Nat.pow_add]
    exact Nat.mul_le_mul_right _ (by show 8388608 ≤ c; exact hc)) (by
    rw [show 23 + j + 1 = 24 + j by omega, Nat.pow_add]
    exact Nat.mul_lt_mul_of_pos_right (by show c < 16777216; exact hc2) hp)
  rw [hl, fd_q]
  have eq : max (-149 : Int) (((23 + j : Nat) : Int) + e - (((FP.Core.b32).p : Int) - 1)) = e + j := by
    show max (-149 : Int) (((23 + j : Nat) : Int) + e - ((24 : Int) - 1)) = e + j
    omega
  rw [eq]
  unfold FP.Core.unitsNum FP.Core.unitsDen FP.Core.nearest
  have e1 : (e - (e + (j : Int))).toNat = 0 := by omega
  have e2 : (e + (j : Int) - e).toNat = j := by omega
  rw [e1, e2, Nat.pow_zero, Nat.mul_one, Nat.one_mul, Nat.mul_mod_left, if_pos (by omega), Nat.mul_div_cancel _ hp]
  exact fd_settle hc2 h2
/-- digits too few -/
theorem fd_rs {n j : Nat} {e : Int} (hc : 8388608 ≤ n * 2 ^ j) (hc2 : n * 2 ^ j < 16777216) (hj : j ≤ 23) (h1 : -149 ≤ e - j) (h2 : e - j ≤ 104) : FP.Core.roundRatio FP.Core.b32 false n 1 e = .fin false (n * 2 ^ j) (e - j) := by
  have hp := Nat.two_pow_pos j
  have hn : n ≠ 0 := fun z => by
    rw [z] at hc
    omega
  have hk : ∀ a b : Nat, a * 2 ^ j < b * 2 ^ j → a < b := fun a b h => Nat.lt_of_mul_lt_mul_right h
  have h23 : 2 ^ (23 - j) * 2 ^ j = 8388608 := by
    rw [← Nat.pow_add, show 23 - j + j = 23 by omega]
  have h24 : 2 ^ (23 - j + 1) * 2 ^ j = 16777216 := by
    rw [← Nat.pow_add, show 23 - j + 1 + j = 24 by omega]
  unfold FP.Core.roundRatio
  rw [if_neg hn]
  unfold FP.Core.roundAt FP.Core.quantum
  have hl : FP.Core.leading n 1 = ((23 - j : Nat) : Int) := fd_lead (by
    apply Nat.le_of_not_lt
    intro z
    have := Nat.mul_lt_mul_of_pos_right z hp
    omega) (hk _ _ (by omega))
  rw [hl, fd_q]
  have eq : max (-149 : Int) (((23 - j : Nat) : Int) + e - (((FP.Core.b32).p : Int) - 1)) = e - j := by
    show max (-149 : Int) (((23 - j : Nat) : Int) + e - ((24 : Int) - 1)) = e - j
    omega
  rw [eq]
  unfold FP.Core.unitsNum FP.Core.unitsDen FP.Core.nearest
  have e1 : (e - (e - (j : Int))).toNat = j := by omega
  have e2 : (e - (j : Int) - e).toNat = 0 := by omega
  rw [e1, e2, Nat.pow_zero, Nat.mul_one, Nat.mod_one, if_pos (by decide), Nat.div_one]
  exact fd_settle hc2 h2
theorem fd_of {n : Nat} (h : n < 2 ^ 32) : (UInt32.ofNat n).toNat = n := by
  rw [UInt32.toNat_ofNat']
  exact Nat.mod_eq_of_lt h
theorem fd_c1 : FP.Core.decode FP.Core.b32 (FP.fconst1).toNat = .fin false 8388608 (-23) := by decide
theorem fd_c2 : FP.Core.decode FP.Core.b32 (FP.fconst2).toNat = .fin false 8388608 (-22) := by decide
theorem fd_c0 : FP.Core.decode FP.Core.b32 (FP.fconst0).toNat = .fin false 0 (-149) := by decide
theorem fd_c23 : FP.Core.decode FP.Core.b32 (1258291200 : UInt32).toNat = .fin false 8388608 0 := by decide
/-- twice as much -/
theorem fd_dbl {x : UInt32} {E T : Nat} (h1 : 1 ≤ E) (h2 : E ≤ 253) (hT : T < 8388608) (hx : x.toNat = E * 8388608 + T) : (FP.fmul x FP.fconst2).toNat = (E + 1) * 8388608 + T := by
  show (UInt32.ofNat (FP.Core.encode FP.Core.b32 (FP.Core.round FP.Core.b32 (FP.Core.exactProduct (FP.Core.decode FP.Core.b32 x.toNat) (FP.Core.decode FP.Core.b32 (FP.fconst2).toNat))))).toNat = _
  rw [hx, fd_dec h1 (by omega) hT, fd_c2]
  show (UInt32.ofNat (FP.Core.encode FP.Core.b32 (FP.Core.roundRatio FP.Core.b32 false ((8388608 + T) * 2 ^ 23) 1 ((E : Int) - 150 + -22)))).toNat = _
  rw [fd_rr (by omega) (by omega) (by omega) (by omega), fd_enc (E := E + 1) (by omega) (by omega), fd_of (by omega)]
theorem fd_lt {x : UInt32} {E T : Nat} (h1 : 1 ≤ E) (h2 : E < 127) (hT : T < 8388608) (hx : x.toNat = E * 8388608 + T) : FP.fcmp x FP.fconst1 = some .lt := by
  show FP.Core.order (FP.Core.decode FP.Core.b32 x.toNat) (FP.Core.decode FP.Core.b32 (FP.fconst1).toNat) = _
  rw [hx, fd_dec h1 (by omega) hT, fd_c1]
  show some (compare (((8388608 + T) * 2 ^ ((E : Int) - 150 - min ((E : Int) - 150) (-23)).toNat : Nat) : Int) ((8388608 * 2 ^ ((-23 : Int) - min ((E : Int) - 150) (-23)).toNat : Nat) : Int)) = _
  have e1 : ((E : Int) - 150 - min ((E : Int) - 150) (-23)).toNat = 0 := by omega
  have e2 : ((-23 : Int) - min ((E : Int) - 150) (-23)).toNat = (126 - E) + 1 := by omega
  rw [e1, e2, Nat.pow_succ]
  have hp := Nat.two_pow_pos (126 - E)
  generalize 2 ^ (126 - E) = w at *
  congr 1
  rw [Int.compare_eq_lt]
  omega
theorem fd_ge {x : UInt32} {T : Nat} (hT : T < 8388608) (hx : x.toNat = 127 * 8388608 + T) : FP.fcmp x FP.fconst1 = some (if T = 0 then .eq else .gt) := by
  show FP.Core.order (FP.Core.decode FP.Core.b32 x.toNat) (FP.Core.decode FP.Core.b32 (FP.fconst1).toNat) = _
  rw [hx, fd_dec (by decide) (by decide) hT, fd_c1]
  show some (compare (((8388608 + T) * 1 : Nat) : Int) ((8388608 * 1 : Nat) : Int)) = _
  refine congrArg some ?_
  by_cases q : T = 0
  · rw [if_pos q, Int.compare_eq_eq]
    omega
  · rw [if_neg q, Int.compare_eq_gt]
    omega
theorem fd_gt0 {x : UInt32} {E T : Nat} (h1 : 1 ≤ E) (h2 : E ≤ 127) (hT : T < 8388608) (hx : x.toNat = E * 8388608 + T) : FP.fcmp x FP.fconst0 = some .gt := by
  show FP.Core.order (FP.Core.decode FP.Core.b32 x.toNat) (FP.Core.decode FP.Core.b32 (FP.fconst0).toNat) = _
  rw [hx, fd_dec h1 (by omega) hT, fd_c0]
  show some (compare (((8388608 + T) * 2 ^ ((E : Int) - 150 - min ((E : Int) - 150) (-149)).toNat : Nat) : Int) ((0 * 2 ^ ((-149 : Int) - min ((E : Int) - 150) (-149)).toNat : Nat) : Int)) = _
  have hp := Nat.two_pow_pos ((E : Int) - 150 - min ((E : Int) - 150) (-149)).toNat
  congr 1
  rw [Int.compare_eq_gt, Nat.zero_mul]
  have := Nat.mul_pos (show 0 < 8388608 + T by omega) hp
  omega
theorem fd_n32 {x : UInt32} (h : x.toNat ≤ 2139095040) : vf_n32 x := by
  unfold vf_n32
  rw [UInt32.le_iff_toNat_le, UInt32.toNat_and]
  exact Nat.le_trans Nat.and_le_left h
theorem fd_log {T : Nat} (h0 : 0 < T) (hT : T < 8388608) : ∃ j, j ≤ 23 ∧ 8388608 ≤ T * 2 ^ j ∧ T * 2 ^ j < 16777216 := by
  have hl : T.log2 < 23 := (Nat.log2_lt (by omega)).mpr hT
  have h1 : 2 ^ T.log2 ≤ T := Nat.log2_self_le (by omega)
  have h2 : T < 2 ^ (T.log2 + 1) := Nat.lt_log2_self
  refine ⟨23 - T.log2, by omega, ?_, ?_⟩
  · have e : 2 ^ T.log2 * 2 ^ (23 - T.log2) = 8388608 := by
      rw [← Nat.pow_add, show T.log2 + (23 - T.log2) = 23 by omega]
    rw [← e]
    exact Nat.mul_le_mul_right _ h1
  · have e : 2 ^ (T.log2 + 1) * 2 ^ (23 - T.log2) = 16777216 := by
      rw [← Nat.pow_add, show T.log2 + 1 + (23 - T.log2) = 24 by omega]
    rw [← e]
    exact Nat.mul_lt_mul_of_pos_right h2 (Nat.two_pow_pos _)
theorem fd_sub {x : UInt32} {T j : Nat} (h0 : 0 < T) (hT : T < 8388608) (hj : j ≤ 23) (hc : 8388608 ≤ T * 2 ^ j) (hc2 : T * 2 ^ j < 16777216) (hx : x.toNat = 127 * 8388608 + T) : (FP.fsub x FP.fconst1).toNat = (127 - j) * 8388608 + (T * 2 ^ j - 8388608) := by
  show (UInt32.ofNat (FP.Core.encode FP.Core.b32 (FP.Core.round FP.Core.b32 (FP.Core.exactSum (FP.Core.decode FP.Core.b32 x.toNat) (FP.Core.negate (FP.Core.decode FP.Core.b32 (FP.fconst1).toNat)))))).toNat = _
  rw [hx, fd_dec (by decide) (by decide) hT, fd_c1]
  have e0 : FP.Core.sumUnits false (8388608 + T) (((127 : Nat) : Int) - 150) true 8388608 (-23) (-23) = (T : Int) := by
    show (((8388608 + T) * 1 : Nat) : Int) + -((8388608 * 1 : Nat) : Int) = _
    omega
  have e1 : FP.Core.exactSum (.fin false (8388608 + T) (((127 : Nat) : Int) - 150)) (FP.Core.negate (.fin false 8388608 (-23))) = .fin false T (-23) := by
    show FP.Core.Datum.fin (FP.Core.sumSign false true (FP.Core.sumUnits false (8388608 + T) (((127 : Nat) : Int) - 150) true 8388608 (-23) (-23))) (FP.Core.sumUnits false (8388608 + T) (((127 : Nat) : Int) - 150) true 8388608 (-23) (-23)).natAbs (-23) = _
    rw [e0]
    unfold FP.Core.sumSign
    rw [if_neg (by omega), Int.natAbs_natCast]
    have : decide ((T : Int) < 0) = false := decide_eq_false (by omega)
    rw [this]
  rw [e1]
  show (UInt32.ofNat (FP.Core.encode FP.Core.b32 (FP.Core.roundRatio FP.Core.b32 false T 1 (-23)))).toNat = _
  rw [fd_rs hc hc2 hj (by omega) (by omega)]
  obtain ⟨T', hT'⟩ : ∃ T', T * 2 ^ j = 8388608 + T' := ⟨T * 2 ^ j - 8388608, by omega⟩
  rw [hT', fd_enc (E := 127 - j) (by omega) (by omega), fd_of (by omega)]
  omega
theorem fd_mul {x : UInt32} {E T : Nat} (h1 : 1 ≤ E) (h2 : E ≤ 127) (hT : T < 8388608) (hx : x.toNat = E * 8388608 + T) : (FP.fmul x 1258291200).toNat = (E + 23) * 8388608 + T := by
  show (UInt32.ofNat (FP.Core.encode FP.Core.b32 (FP.Core.round FP.Core.b32 (FP.Core.exactProduct (FP.Core.decode FP.Core.b32 x.toNat) (FP.Core.decode FP.Core.b32 (1258291200 : UInt32).toNat))))).toNat = _
  rw [hx, fd_dec h1 (by omega) hT, fd_c23]
  show (UInt32.ofNat (FP.Core.encode FP.Core.b32 (FP.Core.roundRatio FP.Core.b32 false ((8388608 + T) * 2 ^ 23) 1 ((E : Int) - 150 + 0)))).toNat = _
  rw [fd_rr (by omega) (by omega) (by omega) (by omega), fd_enc (E := E + 23) (by omega) (by omega), fd_of (by omega)]
theorem fd_f2i {x : UInt32} {T j : Nat} (hj : j ≤ 23) (hT : T < 8388608) (hc : 8388608 ≤ T * 2 ^ j) (hc2 : T * 2 ^ j < 16777216) (hx : x.toNat = (150 - j) * 8388608 + (T * 2 ^ j - 8388608)) : FP.f2i x = nI T := by
  show FP.Core.toI (FP.Core.decode FP.Core.b32 x.toNat) = _
  rw [hx, fd_dec (by omega) (by omega) (by omega)]
  have e : 8388608 + (T * 2 ^ j - 8388608) = T * 2 ^ j := by omega
  have e2 : (((150 - j : Nat) : Int) - 150) = -(j : Int) := by omega
  rw [e, e2]
  show Int32.ofInt (max (-2 ^ 31) (min (2 ^ 31 - 1) (((T * 2 ^ j * 2 ^ (-(j : Int)).toNat / 2 ^ (- -(j : Int)).toNat : Nat)) : Int))) = _
  have e3 : (-(j : Int)).toNat = 0 := by omega
  have e4 : (- -(j : Int)).toNat = j := by omega
  rw [e3, e4, Nat.pow_zero, Nat.mul_one, Nat.mul_div_cancel _ (Nat.two_pow_pos j)]
  have e5 : max (-2 ^ 31 : Int) (min (2 ^ 31 - 1) ((T : Nat) : Int)) = (T : Int) := by omega
  rw [e5]
  rfl
