/-! The set bits of a long -/
/-- the set bits below k -/
def bitsOf (k n : Nat) : List Nat := (List.range k).filter (fun i => n.testBit i)
theorem bitsOf_8 (n : Nat) : pcN (n % 256) = (bitsOf 8 n).length := by
  unfold pcN bitsOf
  congr 1
  apply List.filter_congr
  intro i hi
  rw [show (256 : Nat) = 2 ^ 8 by decide, Nat.testBit_mod_two_pow]
  simp [List.mem_range.mp hi]
theorem bitsOf_add (j k n : Nat) : bitsOf (j + k) n = bitsOf j n ++ (bitsOf k (n / 2 ^ j)).map (j + ·) := by
  unfold bitsOf
  rw [List.range_add, List.filter_append, List.filter_map]
  congr 2
  apply List.filter_congr
  intro i _
  show n.testBit (j + i) = (n / 2 ^ j).testBit i
  rw [Nat.testBit_div_two_pow, Nat.add_comm]
theorem popB_len : ∀ k n, popB k n = (bitsOf (8 * k) n).length
  | 0, _ => rfl
  | k + 1, n => by
    show pcN (n % 256) + popB k (n / 256) = _
    rw [popB_len k, bitsOf_8, show 8 * (k + 1) = 8 + 8 * k by omega, bitsOf_add, List.length_append, List.length_map]
theorem bl_nand2 {m b M c : Nat} (hb : b < 2) (hc : c < 2) : (2 * m + b) &&& (2 * M + c) = 2 * (m &&& M) + (b &&& c) := by
  have e := Nat.div_add_mod ((2 * m + b) &&& (2 * M + c)) 2
  have e1 : ((2 * m + b) &&& (2 * M + c)) / 2 = m &&& M := by
    have := @Nat.and_div_two_pow (2 * m + b) (2 * M + c) 1
    rw [show (2 : Nat) ^ 1 = 2 by decide] at this
    rw [this, show (2 * m + b) / 2 = m by omega, show (2 * M + c) / 2 = M by omega]
  have e2 : ((2 * m + b) &&& (2 * M + c)) % 2 = b &&& c := by
    have := @Nat.and_mod_two_pow (2 * m + b) (2 * M + c) 1
    rw [show (2 : Nat) ^ 1 = 2 by decide] at this
    rw [this, show (2 * m + b) % 2 = b by omega, show (2 * M + c) % 2 = c by omega]
  rw [e1, e2] at e
  exact e.symm
theorem bl_compl {j m : Nat} (h : m < 2 ^ j) : m &&& (2 ^ j - (m + 1)) = 0 := by
  apply Nat.eq_of_testBit_eq
  intro i
  rw [Nat.testBit_and, Nat.testBit_two_pow_sub_succ h, Nat.zero_testBit]
  cases m.testBit i <;> simp
theorem bitsOf_s (k m b : Nat) (hb : b < 2) : bitsOf (k + 1) (2 * m + b) = (if b = 1 then [0] else []) ++ (bitsOf k m).map (1 + ·) := by
  rw [Nat.add_comm k 1, bitsOf_add, show (2 * m + b) / 2 ^ 1 = m by omega]
  congr 1
  have : (2 * m + b).testBit 0 = decide (b = 1) := by
    rw [Nat.testBit_zero]
    congr 1
    rw [show (2 * m + b) % 2 = b by omega]
  unfold bitsOf
  rw [show List.range 1 = [0] from rfl, List.filter_cons, this]
  by_cases q : b = 1 <;> simp [q]
theorem lowB : ∀ k n, 0 < n → n < 2 ^ k → ∃ t, t < k ∧ n &&& (2 ^ k - n) = 2 ^ t ∧ bitsOf k n = t :: bitsOf k (n &&& (n - 1))
  | 0, n, h0, h => by rw [Nat.pow_zero] at h; omega
  | k + 1, n, h0, h => by
    have hp : 2 ^ (k + 1) = 2 * 2 ^ k := by rw [Nat.pow_succ, Nat.mul_comm]
    rw [hp] at h ⊢
    by_cases hev : n % 2 = 0
    · obtain ⟨t, h1, h2, h3⟩ := lowB k (n / 2) (by omega) (by omega)
      refine ⟨t + 1, by omega, ?_, ?_⟩
      · have e1 : n &&& (2 * 2 ^ k - n) = (2 * (n / 2) + 0) &&& (2 * (2 ^ k - n / 2) + 0) := by congr 1 <;> omega
        rw [e1, bl_nand2 (by omega) (by omega), h2, Nat.pow_succ]
        show 2 * 2 ^ t + 0 = _
        omega
      · have e2 : n &&& (n - 1) = 2 * (n / 2 &&& (n / 2 - 1)) + 0 := by
          have : n &&& (n - 1) = (2 * (n / 2) + 0) &&& (2 * (n / 2 - 1) + 1) := by congr 1 <;> omega
          rw [this, bl_nand2 (by omega) (by omega)]
          rfl
        rw [e2, bitsOf_s k _ 0 (by omega)]
        have e3 : bitsOf (k + 1) n = bitsOf (k + 1) (2 * (n / 2) + 0) := by congr 1; omega
        rw [e3, bitsOf_s k _ 0 (by omega), h3]
        simp [Nat.add_comm]
    · refine ⟨0, by omega, ?_, ?_⟩
      · have e1 : n &&& (2 * 2 ^ k - n) = (2 * (n / 2) + 1) &&& (2 * (2 ^ k - (n / 2 + 1)) + 1) := by congr 1 <;> omega
        rw [e1, bl_nand2 (by omega) (by omega), bl_compl (by omega)]
        rfl
      · have e2 : n &&& (n - 1) = 2 * (n / 2) + 0 := by
          have : n &&& (n - 1) = (2 * (n / 2) + 1) &&& (2 * (n / 2) + 0) := by congr 1 <;> omega
          rw [this, bl_nand2 (by omega) (by omega), Nat.and_self]
          rfl
        rw [e2, bitsOf_s k _ 0 (by omega)]
        have e3 : bitsOf (k + 1) n = bitsOf (k + 1) (2 * (n / 2) + 1) := by congr 1; omega
        rw [e3, bitsOf_s k _ 1 (by omega)]
        simp
theorem pop_low : ∀ t, t < 64 → popB 8 (2 ^ t - 1) = t := by decide +kernel
theorem low64 (x : Int64) (h : x.toBitVec.toNat ≠ 0) : ∃ t, t < 64 ∧ popB 8 ((x &&& -x) - lN 1).toBitVec.toNat = t ∧ bitsOf 64 x.toBitVec.toNat = t :: bitsOf 64 (x &&& (x - lN 1)).toBitVec.toNat := by
  have hn := x.toBitVec.isLt
  obtain ⟨t, h1, h2, h3⟩ := lowB 64 x.toBitVec.toNat (by omega) hn
  have e1 : (x &&& -x).toBitVec.toNat = 2 ^ t := by
    rw [Int64.toBitVec_and, BitVec.toNat_and, Int64.toBitVec_neg, BitVec.toNat_neg, Nat.mod_eq_of_lt (by omega), h2]
  have p1 : 2 ^ t < 2 ^ 64 := Nat.pow_lt_pow_right (by decide) h1
  have p2 : 0 < 2 ^ t := Nat.two_pow_pos t
  have e2 : ((x &&& -x) - lN 1).toBitVec.toNat = 2 ^ t - 1 := by
    rw [Int64.toBitVec_sub, BitVec.toNat_sub, e1]
    show (2 ^ 64 - 1 + 2 ^ t) % 2 ^ 64 = 2 ^ t - 1
    omega
  have e3 : (x &&& (x - lN 1)).toBitVec.toNat = x.toBitVec.toNat &&& (x.toBitVec.toNat - 1) := by
    rw [Int64.toBitVec_and, BitVec.toNat_and, Int64.toBitVec_sub, BitVec.toNat_sub]
    congr 1
    show (2 ^ 64 - 1 + x.toBitVec.toNat) % 2 ^ 64 = x.toBitVec.toNat - 1
    omega
  refine ⟨t, h1, ?_, ?_⟩
  · rw [e2]; exact pop_low t h1
  · rw [e3]; exact h3
