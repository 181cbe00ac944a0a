/-! ResidualJudgeModel.readsLetter: what it adds -/
theorem fa_m1 : ((-1 : Int32)).toBitVec = BitVec.allOnes 32 := by decide
theorem fa_sub (S U : Nat) : nI S &&& (nI U ^^^ (-1)) = nI (sbM S U) := by
  apply Int32.toBitVec_inj.1
  show BitVec.ofNat 32 S &&& (BitVec.ofNat 32 U ^^^ ((-1 : Int32)).toBitVec) = BitVec.ofNat 32 (sbM S U)
  rw [fa_m1]
  apply BitVec.eq_of_getLsbD_eq
  intro i hi
  rw [BitVec.getLsbD_and, BitVec.getLsbD_xor, BitVec.getLsbD_ofNat, BitVec.getLsbD_ofNat, BitVec.getLsbD_ofNat, BitVec.getLsbD_allOnes, sb_bit]
  simp only [hi, decide_true, Bool.true_and]
  cases S.testBit i <;> cases U.testBit i <;> rfl
theorem sb_0 (S : Nat) : sbM S 0 = S := by
  unfold sbM
  rw [Nat.and_zero, Nat.xor_zero]
theorem sb_lt {S R : Nat} (h : S < 256) : sbM S R < 256 := by
  apply Nat.lt_pow_two_of_testBit (n := 8)
  intro i hi
  rw [sb_bit, Nat.testBit_lt_two_pow (Nat.lt_of_lt_of_le h (Nat.pow_le_pow_right (n := 2) (by decide) hi))]
  rfl
section TG
variable {K lf : Nat → Nat} {n : Nat}
/-- by a loop at u -/
def tgQ (K lf : Nat → Nat) (S j u X : Nat) : Prop := (K u = 14 ∨ K u = 15) ∧ S &&& unM K lf u ≠ 0 ∧ enM K lf S (u - 1) = true ∧ frO K lf j (u - 1) ∧ X = sbM S (unM K lf u) ||| owM K j
def tgB (K lf : Nat → Nat) (S j a X : Nat) : Prop := ∃ u, pst K lf u ≤ j ∧ j < u ∧ u ≤ a ∧ tgQ K lf S j u X
/-- by the lowest node with a letter of the set -/
def tgP (K lf : Nat → Nat) (S j u X : Nat) : Prop := S &&& unM K lf u ≠ 0 ∧ ((K u = 11 ∧ X = S ||| owM K j ∧ ((lf u < j ∧ S &&& unM K lf (u - 1) = 0 ∧ frO K lf j (u - 1)) ∨ (j ≤ lf u ∧ S &&& unM K lf (lf u) = 0 ∧ frO K lf j (lf u)))) ∨ (K u = 12 ∧ lf u < j ∧ S &&& unM K lf (u - 1) = 0 ∧ frO K lf j (u - 1) ∧ enM K lf S (lf u) = true ∧ X = sbM S (unM K lf (lf u)) ||| owM K j))
def tgA (K lf : Nat → Nat) (n S j X : Nat) : Prop := (S &&& unM K lf (n - 1) = 0 ∧ frO K lf j (n - 1) ∧ X = S ||| owM K j) ∨ ∃ u, pst K lf u ≤ j ∧ j < u ∧ u ≤ n - 1 ∧ tgP K lf S j u X
theorem tgX_AB {S j X : Nat} : tgX K lf n S j X ↔ tgA K lf n S j X ∨ tgB K lf S j (n - 1) X := by
  unfold tgX mvG mvT mvU tgA tgB tgP tgQ
  constructor
  · rintro ⟨R, (⟨a, b, rfl⟩ | ⟨u, u1, u2, u3, u4, (⟨k, rfl, c⟩ | ⟨k, c1, c2, c3, c4, rfl⟩ | ⟨k, c1, c2, rfl⟩)⟩), rfl⟩
    · exact Or.inl (Or.inl ⟨a, b, by rw [sb_0]⟩)
    · exact Or.inl (Or.inr ⟨u, u1, u2, u3, u4, Or.inl ⟨k, by rw [sb_0], c⟩⟩)
    · exact Or.inl (Or.inr ⟨u, u1, u2, u3, u4, Or.inr ⟨k, c1, c2, c3, c4, rfl⟩⟩)
    · exact Or.inr ⟨u, u1, u2, u3, k, u4, c1, c2, rfl⟩
  · rintro ((⟨a, b, rfl⟩ | ⟨u, u1, u2, u3, u4, (⟨k, rfl, c⟩ | ⟨k, c1, c2, c3, c4, rfl⟩)⟩) | ⟨u, u1, u2, u3, k, u4, c1, c2, rfl⟩)
    · exact ⟨0, Or.inl ⟨a, b, rfl⟩, by rw [sb_0]⟩
    · exact ⟨0, Or.inr ⟨u, u1, u2, u3, u4, Or.inl ⟨k, rfl, c⟩⟩, by rw [sb_0]⟩
    · exact ⟨_, Or.inr ⟨u, u1, u2, u3, u4, Or.inr (Or.inl ⟨k, c1, c2, c3, c4, rfl⟩)⟩, rfl⟩
    · exact ⟨_, Or.inr ⟨u, u1, u2, u3, u4, Or.inr (Or.inr ⟨k, c1, c2, rfl⟩)⟩, rfl⟩
theorem z_path (h : wfP K lf n) {S j u v : Nat} (hv : v < n) (h1 : pst K lf v ≤ j) (h2 : j ≤ u) (h3 : u ≤ v) (hz : S &&& unM K lf v = 0) : S &&& unM K lf u = 0 := by
  have hp := tr_lam h v hv u (by omega) h3
  have := and_sub (A := S) (un_sub hp h3)
  rw [hz, Nat.zero_and] at this
  exact this.symm
/-- what lies below a node and has j in it lies below its child -/
theorem ch_path (h : wfP K lf n) {a c u j : Nat} (ha : a < n) (hc : chO K lf a c) (h1 : pst K lf c ≤ j) (h2 : j ≤ c) (hu : u < a) (h3 : pst K lf u ≤ j) : u ≤ c := by
  rcases hc.2 with q | ⟨q1, q2⟩
  · omega
  · rw [← q2]
    exact pth h ha hc.1 q1 hu h3 (by omega)
theorem tgB_s (h : wfP K lf n) {S j a c X : Nat} (ha : a < n) (hc : chO K lf a c) (h1 : pst K lf c ≤ j) (h2 : j ≤ c) : tgB K lf S j a X ↔ tgB K lf S j c X ∨ tgQ K lf S j a X := by
  have hca := ch_lt h ha hc
  have hpa := ch_pst h ha hc
  constructor
  · rintro ⟨u, u1, u2, u3, u4⟩
    by_cases e : u = a
    · subst e
      exact Or.inr u4
    · exact Or.inl ⟨u, u1, u2, ch_path h ha hc h1 h2 (by omega) u1, u4⟩
  · rintro (⟨u, u1, u2, u3, u4⟩ | u4)
    · exact ⟨u, u1, u2, by omega, u4⟩
    · exact ⟨a, by omega, by omega, Nat.le_refl _, u4⟩
/-- the child of a node in which j lies -/
theorem tgP_ch (h : wfP K lf n) {S j u X : Nat} (hu : u < n) (h1 : pst K lf u ≤ j) (h2 : j < u) (hp : tgP K lf S j u X) : ∃ c, chO K lf u c ∧ pst K lf c ≤ j ∧ j ≤ c ∧ S &&& unM K lf c = 0 ∧ frO K lf j c := by
  obtain ⟨-, (⟨k, -, (⟨a, b, c⟩ | ⟨a, b, c⟩)⟩ | ⟨k, a, b, c, -⟩)⟩ := hp
  · obtain ⟨b1, b2, b3⟩ := wf_lf h hu (by omega) (by omega)
    exact ⟨u - 1, ⟨by omega, Or.inl (by omega)⟩, by omega, by omega, b, c⟩
  · obtain ⟨b1, b2, b3⟩ := wf_lf h hu (by omega) (by omega)
    have := pst_bin (K := K) (i := u) (lf := lf) (by omega) (by omega) (by omega)
    exact ⟨lf u, ⟨by omega, Or.inr ⟨by omega, rfl⟩⟩, by omega, by omega, b, c⟩
  · obtain ⟨b1, b2, b3⟩ := wf_lf h hu (by omega) (by omega)
    exact ⟨u - 1, ⟨by omega, Or.inl (by omega)⟩, by omega, by omega, b, c⟩
/-- it is the lowest one -/
theorem tgA_at (h : wfP K lf n) {S j a b X : Nat} (ha : a < n) (hc : chO K lf a b) (h1 : pst K lf b ≤ j) (h2 : j ≤ b) (hb : S &&& unM K lf b = 0) (hne : S &&& unM K lf a ≠ 0) : tgA K lf n S j X ↔ frO K lf j b ∧ tgP K lf S j a X := by
  have hba := ch_lt h ha hc
  have hpa := ch_pst h ha hc
  have hn := h.1
  constructor
  · rintro (⟨q1, -, -⟩ | ⟨u, u1, u2, u3, u4⟩)
    · exact absurd (z_path h (show n - 1 < n by omega) (by rw [h.2.2.2]; omega) (show j ≤ a by omega) (by omega) q1) hne
    · obtain ⟨c, c1, c2, c3, c4, c5⟩ := tgP_ch h (by omega) u1 u2 u4
      have hcu := ch_lt h (show u < n by omega) c1
      by_cases e : u = a
      · subst e
        have e2 : c = b := by
          have x1 := ch_path h ha hc h1 h2 hcu c2
          have x2 := ch_path h ha c1 c2 c3 hba h1
          omega
        subst e2
        exact ⟨c5, u4⟩
      · rcases Nat.lt_or_ge u a with z | z
        · have := ch_path h ha hc h1 h2 z u1
          exact absurd (z_path h (show b < n by omega) h1 (by omega) this hb) u4.1
        · have := ch_path h (show u < n by omega) c1 c2 c3 (show a < u by omega) (by omega)
          exact absurd (z_path h (show c < n by omega) c2 (show j ≤ a by omega) this c4) hne
  · rintro ⟨-, q⟩
    exact Or.inr ⟨a, by omega, by omega, by omega, q⟩
theorem tgA_self (h : wfP K lf n) {S j X : Nat} (hj : j < n) (hne : S &&& unM K lf j ≠ 0) : ¬ tgA K lf n S j X := by
  have hn := h.1
  rintro (⟨q1, -, -⟩ | ⟨u, u1, u2, u3, u4⟩)
  · exact hne (z_path h (show n - 1 < n by omega) (by rw [h.2.2.2]; omega) (Nat.le_refl j) (by omega) q1)
  · obtain ⟨c, c1, c2, c3, c4, c5⟩ := tgP_ch h (by omega) u1 u2 u4
    have hcu := ch_lt h (show u < n by omega) c1
    exact hne (z_path h (show c < n by omega) c2 (Nat.le_refl j) c3 c4)
theorem tgA_none (h : wfP K lf n) {S j X : Nat} (hz : S &&& unM K lf (n - 1) = 0) : tgA K lf n S j X ↔ frO K lf j (n - 1) ∧ X = S ||| owM K j := by
  have hn := h.1
  constructor
  · rintro (⟨q1, q2, q3⟩ | ⟨u, u1, u2, u3, u4⟩)
    · exact ⟨q2, q3⟩
    · exact absurd (z_path h (show n - 1 < n by omega) (by rw [h.2.2.2]; omega) (show j ≤ u by omega) u3 hz) u4.1
  · rintro ⟨q2, q3⟩
    exact Or.inl ⟨hz, q2, q3⟩
theorem ow_lt (h : wfP K lf n) {j : Nat} (hj : j < n) (hk : K j ≤ 8) : owM K j < 256 := by
  unfold owM
  rw [if_pos hk]
  exact Nat.pow_lt_pow_right (n := 8) (by decide) (cnt_l8 h hj hk)
theorem mk_13 {k : Nat} (h2 : k ≤ 15) : mkK k = 13 ↔ k = 14 := by
  unfold mkK
  split
  · omega
  · split
    · omega
    · split
      · omega
      · split <;> omega
theorem mk_14 {k : Nat} (h2 : k ≤ 15) : mkK k = 14 ↔ k = 15 := by
  unfold mkK
  split
  · omega
  · split
    · omega
    · split
      · omega
      · split <;> omega
theorem mk_11 {k : Nat} (h2 : k ≤ 15) : mkK k = 11 ↔ k = 11 := by
  unfold mkK
  split
  · omega
  · split
    · omega
    · split
      · omega
      · split <;> omega
end TG
