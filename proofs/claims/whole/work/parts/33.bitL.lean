/-! Long.bitCount -/
theorem bl_lN_bv (a : Nat) : (lN a).toBitVec = BitVec.ofNat 64 a := rfl
theorem bl_lN_inj {x y : Int64} (h : x.toBitVec.toNat = y.toBitVec.toNat) : x = y := Int64.toBitVec_inj.mp (BitVec.eq_of_toNat_eq h)
theorem bl_lN_nat {a : Nat} (h : a < 2 ^ 64) : (lN a).toBitVec.toNat = a := by rw [bl_lN_bv, BitVec.toNat_ofNat, Nat.mod_eq_of_lt h]
theorem bl_lN_self (x : Int64) : x = lN x.toBitVec.toNat := bl_lN_inj (by rw [bl_lN_nat x.toBitVec.isLt])
theorem bl_lN_and {a b : Nat} (ha : a < 2 ^ 64) (hb : b < 2 ^ 64) : lN a &&& lN b = lN (a &&& b) := by
  apply bl_lN_inj
  rw [bl_lN_nat (Nat.lt_of_le_of_lt Nat.and_le_left ha), Int64.toBitVec_and, BitVec.toNat_and, bl_lN_nat ha, bl_lN_nat hb]
theorem bl_lN_add {a b : Nat} (h : a + b < 2 ^ 64) : lN a + lN b = lN (a + b) := by
  apply bl_lN_inj
  rw [bl_lN_nat h, Int64.toBitVec_add, BitVec.toNat_add, bl_lN_nat (by omega), bl_lN_nat (by omega), Nat.mod_eq_of_lt h]
theorem bl_lN_sub {a b : Nat} (h : b ≤ a) (ha : a < 2 ^ 64) : lN a - lN b = lN (a - b) := by
  apply bl_lN_inj
  rw [bl_lN_nat (by omega), Int64.toBitVec_sub, BitVec.toNat_sub, bl_lN_nat (by omega), bl_lN_nat (by omega)]
  omega
theorem bl_lN_ushr {a k : Nat} (ha : a < 2 ^ 64) (hk : k < 64) : ((lN a).toUInt64 >>> ((nI k).toInt64.toUInt64 &&& Int64.toUInt64 63)).toInt64 = lN (a / 2 ^ k) := by
  have h1 : ∀ k, k < 64 → (nI k).toInt64.toUInt64 &&& Int64.toUInt64 63 = UInt64.ofNat k := by decide +kernel
  rw [h1 k hk]
  apply bl_lN_inj
  rw [bl_lN_nat (Nat.lt_of_le_of_lt (Nat.div_le_self _ _) ha)]
  show ((lN a).toUInt64 >>> UInt64.ofNat k).toNat = _
  rw [UInt64.toNat_shiftRight]
  have h2 : (lN a).toUInt64.toNat = a := bl_lN_nat ha
  have h4 : ∀ k, k < 64 → (UInt64.ofNat k).toNat % 64 = k := by decide +kernel
  have h3 := h4 k hk
  rw [h2, h3, Nat.shiftRight_eq_div_pow]
theorem bl_lN_i (a : Nat) : (lN a).toInt32 = nI a := by
  apply Int32.toBitVec_inj.mp
  show BitVec.signExtend 32 _ = _
  rw [bl_lN_bv]
  show _ = BitVec.ofNat 32 a
  rw [BitVec.signExtend_eq_setWidth_of_le _ (by decide)]
  apply BitVec.eq_of_toNat_eq
  rw [BitVec.toNat_setWidth, BitVec.toNat_ofNat, BitVec.toNat_ofNat]
  omega
theorem bl_nI_and127b (a : Nat) : nI a &&& nI 127 = nI (a % 128) := by
  apply Int32.toBitVec_inj.mp
  apply BitVec.eq_of_toNat_eq
  rw [Int32.toBitVec_and, BitVec.toNat_and]
  show (BitVec.ofNat 32 a).toNat &&& (BitVec.ofNat 32 127).toNat = (BitVec.ofNat 32 (a % 128)).toNat
  rw [BitVec.toNat_ofNat, BitVec.toNat_ofNat, BitVec.toNat_ofNat, Nat.mod_eq_of_lt (by omega : a % 128 < 2 ^ 32)]
  have := Nat.and_two_pow_sub_one_eq_mod (a % 2 ^ 32) 7
  rw [show (127 : Nat) % 2 ^ 32 = 2 ^ 7 - 1 by decide, this]
  omega
theorem bl_nand_mod {m b M c : Nat} (hb : b < 256) (hc : c < 256) : (256 * m + b) &&& (256 * M + c) = 256 * (m &&& M) + (b &&& c) := by
  have e := Nat.div_add_mod ((256 * m + b) &&& (256 * M + c)) 256
  have e1 : ((256 * m + b) &&& (256 * M + c)) / 256 = m &&& M := by
    have := @Nat.and_div_two_pow (256 * m + b) (256 * M + c) 8
    rw [show (2 : Nat) ^ 8 = 256 by decide] at this
    rw [this, show (256 * m + b) / 256 = m by omega, show (256 * M + c) / 256 = M by omega]
  have e2 : ((256 * m + b) &&& (256 * M + c)) % 256 = b &&& c := by
    have := @Nat.and_mod_two_pow (256 * m + b) (256 * M + c) 8
    rw [show (2 : Nat) ^ 8 = 256 by decide] at this
    rw [this, show (256 * m + b) % 256 = b by omega, show (256 * M + c) % 256 = c by omega]
  rw [e1, e2] at e
  exact e.symm

/-- the number of bytes -/
def bl_vB : List Nat → Nat
  | [] => 0
  | b :: bs => 256 * bl_vB bs + b
def bl_rB (c : Nat) : Nat → Nat
  | 0 => 0
  | k + 1 => 256 * bl_rB c k + c
def bl_lB (bs : List Nat) : Prop := ∀ b ∈ bs, b < 256
def bl_g1 (b : Nat) : Nat := b - (b / 2 &&& 85)
def bl_g2 (b : Nat) : Nat := (b &&& 51) + (b / 4 &&& 51)
def bl_g3 (b : Nat) : Nat := (b + b / 16) &&& 15
theorem bl_g_lo : ∀ b, b < 256 → ∀ u, u < 2 → (b / 2 + 128 * u) &&& 85 = b / 2 &&& 85 := by decide +kernel
theorem bl_g_lo2 : ∀ b, b < 256 → ∀ u, u < 4 → (b / 4 + 64 * u) &&& 51 = b / 4 &&& 51 := by decide +kernel
theorem bl_g_lo3 : ∀ b, b < 69 → ∀ u, u < 5 → (b + b / 16 + 16 * u) &&& 15 = (b + b / 16) &&& 15 := by decide +kernel
theorem bl_g_1 : ∀ b, b < 256 → bl_g1 b < 256 ∧ b / 2 &&& 85 ≤ b := by decide +kernel
theorem bl_g_2 : ∀ b, b < 256 → bl_g2 (bl_g1 b) < 69 ∧ bl_g2 (bl_g1 b) % 16 < 5 ∧ bl_g3 (bl_g2 (bl_g1 b)) = pcN b ∧ pcN b < 9 := by decide +kernel
theorem bl_s1B : ∀ bs : List Nat, bl_lB bs → bl_vB bs / 2 &&& bl_rB 85 bs.length ≤ bl_vB bs ∧ bl_vB bs - (bl_vB bs / 2 &&& bl_rB 85 bs.length) = bl_vB (bs.map bl_g1)
  | [], _ => ⟨by decide, by decide⟩
  | b :: bs, h => by
    have hb := h b (List.mem_cons_self ..)
    obtain ⟨i1, i2⟩ := bl_s1B bs (fun x hx => h x (List.mem_cons_of_mem _ hx))
    have e : (256 * bl_vB bs + b) / 2 &&& (256 * bl_rB 85 bs.length + 85) = 256 * (bl_vB bs / 2 &&& bl_rB 85 bs.length) + (b / 2 &&& 85) := by
      rw [show (256 * bl_vB bs + b) / 2 = 256 * (bl_vB bs / 2) + (b / 2 + 128 * (bl_vB bs % 2)) by omega, bl_nand_mod (by omega) (by omega), bl_g_lo b hb _ (by omega)]
    have hg := (bl_g_1 b hb).2
    refine ⟨?_, ?_⟩
    · show (256 * bl_vB bs + b) / 2 &&& (256 * bl_rB 85 bs.length + 85) ≤ 256 * bl_vB bs + b
      rw [e]; omega
    · show (256 * bl_vB bs + b) - ((256 * bl_vB bs + b) / 2 &&& (256 * bl_rB 85 bs.length + 85)) = 256 * bl_vB (bs.map bl_g1) + bl_g1 b
      rw [e, ← i2]
      unfold bl_g1
      omega
theorem bl_s2B : ∀ bs : List Nat, bl_lB bs → (bl_vB bs &&& bl_rB 51 bs.length) + (bl_vB bs / 4 &&& bl_rB 51 bs.length) = bl_vB (bs.map bl_g2)
  | [], _ => by decide
  | b :: bs, h => by
    have hb := h b (List.mem_cons_self ..)
    have i2 := bl_s2B bs (fun x hx => h x (List.mem_cons_of_mem _ hx))
    show ((256 * bl_vB bs + b) &&& (256 * bl_rB 51 bs.length + 51)) + ((256 * bl_vB bs + b) / 4 &&& (256 * bl_rB 51 bs.length + 51)) = 256 * bl_vB (bs.map bl_g2) + bl_g2 b
    rw [show (256 * bl_vB bs + b) / 4 = 256 * (bl_vB bs / 4) + (b / 4 + 64 * (bl_vB bs % 4)) by omega, bl_nand_mod (by omega) (by omega), bl_nand_mod (by omega) (by omega), bl_g_lo2 b hb _ (by omega), ← i2]
    unfold bl_g2
    omega
theorem bl_s3B : ∀ bs : List Nat, (∀ b ∈ bs, b < 69 ∧ b % 16 < 5) → bl_vB bs % 16 < 5 ∧ ((bl_vB bs + bl_vB bs / 16) &&& bl_rB 15 bs.length) = bl_vB (bs.map bl_g3)
  | [], _ => ⟨by decide, by decide⟩
  | b :: bs, h => by
    obtain ⟨hb, hb2⟩ := h b (List.mem_cons_self ..)
    obtain ⟨i1, i2⟩ := bl_s3B bs (fun x hx => h x (List.mem_cons_of_mem _ hx))
    refine ⟨by show (256 * bl_vB bs + b) % 16 < 5; omega, ?_⟩
    show ((256 * bl_vB bs + b) + (256 * bl_vB bs + b) / 16 &&& (256 * bl_rB 15 bs.length + 15)) = 256 * bl_vB (bs.map bl_g3) + bl_g3 b
    rw [show (256 * bl_vB bs + b) + (256 * bl_vB bs + b) / 16 = 256 * (bl_vB bs + bl_vB bs / 16) + (b + b / 16 + 16 * (bl_vB bs % 16)) by omega, bl_nand_mod (by omega) (by omega), bl_g_lo3 b hb _ i1, ← i2]
    rfl
/-- the set bits of a number of 64 bits, a byte at a time -/
def popB : Nat → Nat → Nat
  | 0, _ => 0
  | k + 1, n => pcN (n % 256) + popB k (n / 256)
def bl_bts : Nat → Nat → List Nat
  | 0, _ => []
  | k + 1, n => n % 256 :: bl_bts k (n / 256)
theorem bl_vB_bts : ∀ k n, n < 256 ^ k → bl_vB (bl_bts k n) = n
  | 0, n, h => by rw [Nat.pow_zero] at h; show 0 = n; omega
  | k + 1, n, h => by
    show 256 * bl_vB (bl_bts k (n / 256)) + n % 256 = n
    rw [bl_vB_bts k (n / 256) (Nat.div_lt_of_lt_mul (by rw [Nat.pow_succ, Nat.mul_comm] at h; exact h))]
    omega
theorem bl_lB_bts : ∀ k n, bl_lB (bl_bts k n)
  | 0, _ => fun b hb => by cases hb
  | k + 1, n => fun b hb => by
    cases hb with
    | head => exact Nat.mod_lt _ (by decide)
    | tail _ hb => exact bl_lB_bts k (n / 256) b hb
theorem bl_bts_len : ∀ k n, (bl_bts k n).length = k
  | 0, _ => rfl
  | k + 1, n => congrArg (· + 1) (bl_bts_len k (n / 256))
theorem bl_sumB {p0 p1 p2 p3 p4 p5 p6 p7 n : Nat} (h0 : p0 < 9) (h1 : p1 < 9) (h2 : p2 < 9) (h3 : p3 < 9) (h4 : p4 < 9) (h5 : p5 < 9) (h6 : p6 < 9) (h7 : p7 < 9) (hn : n = bl_vB [p0, p1, p2, p3, p4, p5, p6, p7]) : n < 2 ^ 60 ∧ n + n / 256 < 2 ^ 60 ∧ (n + n / 256) + (n + n / 256) / 65536 < 2 ^ 60 ∧ ((n + n / 256) + (n + n / 256) / 65536) + ((n + n / 256) + (n + n / 256) / 65536) / 4294967296 < 2 ^ 60 ∧ (((n + n / 256) + (n + n / 256) / 65536) + ((n + n / 256) + (n + n / 256) / 65536) / 4294967296) % 128 = p0 + p1 + p2 + p3 + p4 + p5 + p6 + p7 := by
  simp only [bl_vB] at hn
  have q1 : n / 256 = 256 * (256 * (256 * (256 * (256 * (256 * p7 + p6) + p5) + p4) + p3) + p2) + p1 := by omega
  have e1 : n + n / 256 = p0 + p1 + 256 * (p1 + p2) + 65536 * (p2 + p3) + 16777216 * (p3 + p4) + 4294967296 * (p4 + p5) + 1099511627776 * (p5 + p6) + 281474976710656 * (p6 + p7) + 72057594037927936 * p7 := by omega
  generalize n + n / 256 = m at e1 ⊢
  have e2 : m + m / 65536 = p0 + p1 + (p2 + p3) + 256 * (p1 + p2 + (p3 + p4)) + 65536 * (p2 + p3 + (p4 + p5)) + 16777216 * (p3 + p4 + (p5 + p6)) + 4294967296 * (p4 + p5 + (p6 + p7)) + 1099511627776 * (p5 + p6 + p7) + 281474976710656 * (p6 + p7) + 72057594037927936 * p7 := by omega
  generalize m + m / 65536 = m2 at e2 ⊢
  have b1 : n < 2 ^ 60 := by omega
  clear q1 hn
  have b2 : m < 2 ^ 60 := by omega
  clear e1
  have b3 : m2 < 2 ^ 59 + 2 ^ 58 := by omega
  have e3 : m2 / 4294967296 = p4 + p5 + (p6 + p7) + 256 * (p5 + p6 + p7) + 65536 * (p6 + p7) + 16777216 * p7 := by
    rw [e2]; clear e2 b1 b2 b3; omega
  refine ⟨b1, b2, by clear e2 e3; omega, by clear e2 e3; omega, ?_⟩
  have e4 : m2 + m2 / 4294967296 = 128 * (2 * (p1 + p2 + (p3 + p4) + (p5 + p6 + p7)) + 512 * (p2 + p3 + (p4 + p5) + (p6 + p7)) + 131072 * (p3 + p4 + (p5 + p6) + p7) + 33554432 * (p4 + p5 + (p6 + p7)) + 8589934592 * (p5 + p6 + p7) + 2199023255552 * (p6 + p7) + 562949953421312 * p7) + (p0 + p1 + p2 + p3 + p4 + p5 + p6 + p7) := by
    rw [e3, e2]; clear e2 e3 b1 b2 b3; omega
  rw [e4, Nat.mul_add_mod, Nat.mod_eq_of_lt (by clear e2 e3 e4 b1 b2 b3; omega)]
theorem bl_swar_ok {n : Nat} (hn : n < 2 ^ 64) : n / 2 &&& 6148914691236517205 ≤ n ∧
    (∀ a, a = n - (n / 2 &&& 6148914691236517205) → (a &&& 3689348814741910323) + (a / 4 &&& 3689348814741910323) < 2 ^ 63 ∧
    ∀ b, b = (a &&& 3689348814741910323) + (a / 4 &&& 3689348814741910323) → b + b / 16 < 2 ^ 64 ∧
    ∀ c, c = (b + b / 16) &&& 1085102592571150095 → c < 2 ^ 60 ∧ c + c / 256 < 2 ^ 60 ∧ (c + c / 256) + (c + c / 256) / 65536 < 2 ^ 60 ∧ ((c + c / 256) + (c + c / 256) / 65536) + ((c + c / 256) + (c + c / 256) / 65536) / 4294967296 < 2 ^ 60 ∧ (((c + c / 256) + (c + c / 256) / 65536) + ((c + c / 256) + (c + c / 256) / 65536) / 4294967296) % 128 = popB 8 n) := by
  have hv := bl_vB_bts 8 n (by rw [show (256 : Nat) ^ 8 = 2 ^ 64 by decide]; exact hn)
  have hl := bl_lB_bts 8 n
  have hlen := bl_bts_len 8 n
  have r1 : bl_rB 85 (bl_bts 8 n).length = 6148914691236517205 := by rw [hlen]; decide +kernel
  have r2 : ∀ bs : List Nat, bs.length = 8 → bl_rB 51 bs.length = 3689348814741910323 := fun bs h => by rw [h]; decide +kernel
  have r3 : ∀ bs : List Nat, bs.length = 8 → bl_rB 15 bs.length = 1085102592571150095 := fun bs h => by rw [h]; decide +kernel
  obtain ⟨a1, a2⟩ := bl_s1B (bl_bts 8 n) hl
  rw [r1, hv] at a1 a2
  have l1 : bl_lB ((bl_bts 8 n).map bl_g1) := fun x hx => by
    obtain ⟨b, hb, rfl⟩ := List.mem_map.mp hx
    exact (bl_g_1 b (hl b hb)).1
  have len1 : ((bl_bts 8 n).map bl_g1).length = 8 := by rw [List.length_map, hlen]
  have b1 := bl_s2B _ l1
  rw [r2 _ len1] at b1
  have l2 : ∀ x ∈ ((bl_bts 8 n).map bl_g1).map bl_g2, x < 69 ∧ x % 16 < 5 := fun x hx => by
    obtain ⟨y, hy, rfl⟩ := List.mem_map.mp hx
    obtain ⟨b, hb, rfl⟩ := List.mem_map.mp hy
    exact ⟨(bl_g_2 b (hl b hb)).1, (bl_g_2 b (hl b hb)).2.1⟩
  have len2 : (((bl_bts 8 n).map bl_g1).map bl_g2).length = 8 := by rw [List.length_map, len1]
  obtain ⟨-, c1⟩ := bl_s3B _ l2
  rw [r3 _ len2] at c1
  refine ⟨a1, fun a ha => ?_⟩
  rw [a2] at ha
  subst ha
  have hb63 : bl_vB (((bl_bts 8 n).map bl_g1).map bl_g2) < 2 ^ 63 := by
    have : ∀ k m, bl_vB (((bl_bts (k + 1) m).map bl_g1).map bl_g2) < 69 * 256 ^ k := by
      intro k
      induction k with
      | zero =>
        intro m
        show 256 * 0 + bl_g2 (bl_g1 (m % 256)) < 69 * 1
        have h2 := (bl_g_2 (m % 256) (Nat.mod_lt _ (by decide))).1
        omega
      | succ k ih =>
        intro m
        show 256 * bl_vB (((bl_bts (k + 1) (m / 256)).map bl_g1).map bl_g2) + bl_g2 (bl_g1 (m % 256)) < _
        have h1 := ih (m / 256)
        have h2 := (bl_g_2 (m % 256) (Nat.mod_lt _ (by decide))).1
        rw [Nat.pow_succ]
        omega
    have h1 := this 7 n
    rw [show (69 : Nat) * 256 ^ 7 = 4971973988617027584 by decide] at h1
    exact Nat.lt_trans h1 (by decide)
  refine ⟨by rw [b1]; exact hb63, fun b hb => ?_⟩
  rw [b1] at hb
  subst hb
  refine ⟨by omega, fun c hc => ?_⟩
  rw [c1] at hc
  have hp : ∀ k, k < 256 → bl_g3 (bl_g2 (bl_g1 k)) = pcN k ∧ pcN k < 9 := fun k hk => ⟨(bl_g_2 k hk).2.2.1, (bl_g_2 k hk).2.2.2⟩
  simp only [bl_bts, List.map_cons, List.map_nil] at hc
  have w := fun k => (hp (k % 256) (Nat.mod_lt _ (by decide)))
  rw [(w _).1, (w _).1, (w _).1, (w _).1, (w _).1, (w _).1, (w _).1, (w _).1] at hc
  obtain ⟨s1, s2, s3, s4, s5⟩ := bl_sumB (w _).2 (w _).2 (w _).2 (w _).2 (w _).2 (w _).2 (w _).2 (w _).2 hc
  refine ⟨s1, s2, s3, s4, ?_⟩
  rw [s5]
  simp only [popB]
  omega

abbrev usL (x : Int64) (k : Nat) : Int64 := (x.toUInt64 >>> ((nI k).toInt64.toUInt64 &&& Int64.toUInt64 63)).toInt64
theorem bitL_eq (x : Int64) : ∀ a b c e f g : Int64, a = x - (usL x 1 &&& lN 6148914691236517205) → b = (a &&& lN 3689348814741910323) + (usL a 2 &&& lN 3689348814741910323) → c = (b + usL b 4) &&& lN 1085102592571150095 → e = c + usL c 8 → f = e + usL e 16 → g = f + usL f 32 → g.toInt32 &&& nI 127 = nI (popB 8 x.toBitVec.toNat) := by
  intro a b c e f g ha hb hc he hf hg
  have hn := x.toBitVec.isLt
  have hx := bl_lN_self x
  generalize x.toBitVec.toNat = n at hn hx
  obtain ⟨h1, h2⟩ := bl_swar_ok hn
  have ea : a = lN (n - (n / 2 &&& 6148914691236517205)) := by
    rw [ha, hx, usL, bl_lN_ushr hn (by omega), bl_lN_and (by omega) (by omega), bl_lN_sub (by exact h1) hn]
  obtain ⟨h3, h4⟩ := h2 _ rfl
  have hA : n - (n / 2 &&& 6148914691236517205) < 2 ^ 64 := by omega
  generalize n - (n / 2 &&& 6148914691236517205) = A at ea h3 h4 hA
  have eb : b = lN ((A &&& 3689348814741910323) + (A / 4 &&& 3689348814741910323)) := by
    rw [hb, ea, usL, bl_lN_ushr hA (by omega), bl_lN_and hA (by omega), bl_lN_and (by omega) (by omega), show 2 ^ 2 = 4 from rfl, bl_lN_add (by omega)]
  obtain ⟨h5, h6⟩ := h4 _ rfl
  generalize (A &&& 3689348814741910323) + (A / 4 &&& 3689348814741910323) = B at eb h3 h5 h6
  have ec : c = lN ((B + B / 16) &&& 1085102592571150095) := by
    rw [hc, eb, usL, bl_lN_ushr (by omega) (by omega), show 2 ^ 4 = 16 from rfl, bl_lN_add h5, bl_lN_and h5 (by omega)]
  obtain ⟨h7, h8, h9, h10, h11⟩ := h6 _ rfl
  generalize (B + B / 16) &&& 1085102592571150095 = C at ec h7 h8 h9 h10 h11
  have ee : e = lN (C + C / 256) := by
    rw [he, ec, usL, bl_lN_ushr (by omega) (by omega), show 2 ^ 8 = 256 from rfl, bl_lN_add (by omega)]
  generalize C + C / 256 = E at ee h8 h9 h10 h11
  have ef : f = lN (E + E / 65536) := by
    rw [hf, ee, usL, bl_lN_ushr (by omega) (by omega), show 2 ^ 16 = 65536 from rfl, bl_lN_add (by omega)]
  generalize E + E / 65536 = F at ef h9 h10 h11
  have eg : g = lN (F + F / 4294967296) := by
    rw [hg, ef, usL, bl_lN_ushr (by omega) (by omega), show 2 ^ 32 = 4294967296 from rfl, bl_lN_add (by omega)]
  rw [eg, bl_lN_i]
  rw [← h11]
  exact bl_nI_and127b _

set_option maxRecDepth 100000 in
theorem c_bitL (d : Nat) (x : Int64) : aSp d 73 [.long x] [] nomv 0 0 (fun r h' => r = some (.int (nI (popB 8 x.toBitVec.toNat))) ∧ h' = []) := by
  refine sp_of (by decide) (Nat.le_of_ble_eq_true rfl) ?_
  generalize hG : ((d, _, nomv, _, _, _) : aG) = G
  have hret : RET G (some (.int (nI (popB 8 x.toBitVec.toNat)))) [] 0 0 := by
    subst hG
    exact RET.id ⟨rfl, rfl⟩ (Nat.le_refl _) (Nat.le_refl _)
  clear hG
  refine wp_aw (S := fun _ => false) (by decide) 200 _ _ _ _ _ _ ?_
  simp only [u_73_0, u_73_1, u_73_2, u_73_3, u_73_4, u_73_7, u_73_8, u_73_9, u_73_10, u_73_11, u_73_14, u_73_15, u_73_16, u_73_17, u_73_18, u_73_21, u_73_22, u_73_23, u_73_24, u_73_25, u_73_26, u_73_27, u_73_28, u_73_29, u_73_32, u_73_33, u_73_34, u_73_35, u_73_36, u_73_38, u_73_39, u_73_40, u_73_41, u_73_42, u_73_43, u_73_45, u_73_46, u_73_47, u_73_48, u_73_49, u_73_50, u_73_52, u_73_53, u_73_54, u_73_55, u_73_56, u_73_57, u_73_59, u_73_60, wp_stop, lget, lput1, lput2, kil, hget, hset, vget, vset, fget, fgetC, fput, fputC, iget, igetC, jget, jgetC, qget, qgetC, alen, lenC, oI, oJ, oF, oA, oV, oH, oInc, oIld, oJld, oQld, oR, oLen, oIst, oBst, oJst, oQst, ciOf, rcv, oCp, cat1, cond_true, cond_false, Bool.and_self, Bool.and_true, Bool.true_and, Bool.or_true, Bool.true_or, Bool.or_false, Bool.false_or, Bool.not_false, Bool.not_true, ↓reduceIte, Nat.reduceBEq, Nat.reduceEqDiff, beq_self_eq_true, true_and, and_true, eq_self_iff_true, Nat.reduceAdd, Nat.blt, Nat.ble, eL, mL_73]
  refine Eq.mpr (congrArg (fun y => RET G (some (.int y)) [] 0 0) (?_ : _ = nI (popB 8 x.toBitVec.toNat))) hret
  exact bitL_eq x _ _ _ _ _ _ rfl rfl rfl rfl rfl rfl
