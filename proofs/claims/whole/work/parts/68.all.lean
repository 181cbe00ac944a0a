/-! Nine machines: what is asked of one of them -/
theorem blks_congr {b : Nat} {PM PM' : Nat → PS × MS} : ∀ k, (∀ y, y < k → mH (PM y).1 (PM y).2 = mH (PM' y).1 (PM' y).2) → blks b PM k = blks b PM' k
  | 0, _ => rfl
  | k + 1, h => by
    show blks b PM k ++ mHB (b + 18 * k) (PM k) = blks b PM' k ++ mHB (b + 18 * k) (PM' k)
    rw [blks_congr k (fun y hy => h y (by omega))]
    unfold mHB
    rw [h k (by omega)]
theorem CAL.blkR {G : aG} {K : aK} {μ' : Nat} {pc : Nat} {ls : aL} {st : List Value} {k n : Nat} {d' : Nat} {nb : Nat} {F : aH} {PM : Nat → PS × MS} {x : Nat} {as : List Value} {v : Value}
    (hS : aSp d' μ' (.ref 0 :: as) (mH (PM x).1 (PM x).2) nomv 0 0 (fun r h' => r = some v ∧ h' = mH (PM x).1 (PM x).2)) (hx : x < nb) (hF : okF nb F) (has : ∀ ρ, as.map (trv ρ) = as) (hv : ∀ ρ, trv ρ v = v)
    (hd : d' + 1 ≤ gD G) (hk : k ≤ gC G) (hn : n ≤ gS G) (hw : (st.map fun v => v.category).sum ≤ 8) (hN : gN G ≤ F.length + 18 * nb) (hl : okL (F.length + 18 * nb) nomv ls = true) (hs : okS (F.length + 18 * nb) nomv st = true)
    (kk : K pc ls (v :: st) (F ++ blks F.length PM nb) k n) : CAL G K μ' (.ref (F.length + 18 * x) :: as) pc ls st (F ++ blks F.length PM nb) k n := by
  refine CAL.blkN hS hx hF has (fun r hc' q => hr_same (Z := PM x) hv q) hd hk hn hw hN hl hs ?_
  rintro r Z ⟨rfl, hZ⟩
  have e : blks F.length (updZ PM x Z) nb = blks F.length PM nb := blks_congr nb (fun y _ => by
    unfold updZ
    by_cases q : y = x
    · subst q
      rw [if_pos rfl, hZ]
    · rw [if_neg q])
  rw [e]
  exact kk
theorem y_due (d : Nat) {Z : PS × MS} {ν : aN} (h : yR Z ν) {s m : Nat} (hs : ν.2.1.1[s]? = some m) :
    aSp (d + 1) 62 [.ref 0, .int (nI s)] (mH Z.1 Z.2) nomv 0 0 (fun r h' => r = some (.int (nI (trM (dT ν.1) m &&& 255))) ∧ h' = mH Z.1 Z.2) := by
  obtain ⟨co, hz, -, -⟩ := h
  exact z_due d hz hs
theorem y_isEnding (d : Nat) {Z : PS × MS} {ν : aN} (h : yR Z ν) {s m : Nat} (hs : ν.2.1.1[s]? = some m) :
    aSp (d + 1) 60 [.ref 0, .int (nI s)] (mH Z.1 Z.2) nomv 0 0 (fun r h' => r = some (.int (bN ((trM (dT ν.1) m).testBit 8))) ∧ h' = mH Z.1 Z.2) := by
  obtain ⟨co, hz, -, -⟩ := h
  exact z_isEnding d hz hs
theorem y_stepNo (d : Nat) {Z : PS × MS} {ν : aN} (h : yR Z ν) {s m x : Nat} (hs : ν.2.1.1[s]? = some m) (hx : x < 8) (hdue : (trM (dT ν.1) m).testBit x = false) :
    aSp (d + 2) 71 [.ref 0, .int (nI s), .int (nI x)] (mH Z.1 Z.2) nomv 0 0 (fun r h' => r = some (.int (-1)) ∧ h' = mH Z.1 Z.2) := by
  obtain ⟨co, hz, -, -⟩ := h
  exact z_stepNo d hz hs hx hdue
/-- a machine with one stand more, perhaps -/
noncomputable def sY (ν : aN) (m : Nat) : aN := (ν.1, stA (dW ν.1) ν.2.1 m, ν.2.2)
theorem y_step (d : Nat) {Z : PS × MS} {ν : aN} (h : yR Z ν) {s m x : Nat} (hs : ν.2.1.1[s]? = some m) (hx : x < 8) (hdue : (trM (dT ν.1) m).testBit x = true) (hlen : (sY ν (dltM (dG ν.1) x m)).2.1.1.length ≤ 2 ^ 14) :
    aSp (d + 6) 71 [.ref 0, .int (nI s), .int (nI x)] (mH Z.1 Z.2) mvM (yC (sY ν (dltM (dG ν.1) x m)) - yC ν) (yS (sY ν (dltM (dG ν.1) x m)) - yS ν)
      (fun r h' => ∃ j Z', (sY ν (dltM (dG ν.1) x m)).2.1.1[j]? = some (dltM (dG ν.1) x m) ∧ r = some (.int (nI j)) ∧ h' = mH Z'.1 Z'.2 ∧ yR Z' (sY ν (dltM (dG ν.1) x m))) := by
  obtain ⟨co, hz, hc, h0⟩ := h
  refine sp_weaken (z_step d hz hs hx hdue hlen) ?_
  rintro r h' ⟨j, Z', q1, rfl, rfl, q2⟩
  exact ⟨j, Z', q1, rfl, rfl, co, q2, hc, sZ_ext (nZ ν co) _ 0 1 h0⟩
theorem y_ok {Z : PS × MS} {ν : aN} (h : yR Z ν) : okP ν.1 ∧ ν.2.1.1.Nodup ∧ (∀ m ∈ ν.2.1.1, m < 2 ^ dS ν.1) ∧ ν.2.1.1[0]? = some 1 ∧ ν.2.1.1.length ≤ 2 ^ 14 := by
  obtain ⟨co, hz, hc, h0⟩ := h
  obtain ⟨a1, a2, a3⟩ := zR_L hz
  exact ⟨a1, a2, a3, h0, (zR_f hz).2.2.2⟩
theorem y_cost {Z : PS × MS} {ν : aN} (h : yR Z ν) (m : Nat) : yS ν ≤ yS (sY ν m) ∧ yC ν ≤ yC (sY ν m) := by
  obtain ⟨co, hz, hc, h0⟩ := h
  have hok := zR_A hz
  have := sZ_cost (α := nZ ν co) (m := m) hok.1 hok.2.1 hok.2.2.1 hok.2.2.2
  exact ⟨this.1, this.2.1⟩
/-- all machines -/
def aF (b : Nat) : Nat → Option Nat := fun i => if i < 9 then some (b + 18 * i) else none
theorem aF_k {b k : Nat} (h : k < 9) : aF b k = some (b + 18 * k) := if_pos h
theorem aF_ok {b : Nat} : ∀ i j, aF b i = some j → j < b + 18 * 9 ∧ mvI b j = false := by
  intro i j hj
  unfold aF at hj
  split at hj
  · have := Option.some.inj hj
    subst this
    refine ⟨by omega, ?_⟩
    unfold mvI
    rw [show b + 18 * i - b = 18 * i by omega, Nat.mul_mod_right]
    simp
  · exact absurd hj (by simp)
set_option maxRecDepth 100000 in
theorem c_at (d : Nat) (h : aH) (a a2 : Nat) (f : Nat → Option Nat) (k j : Nat) (hk : k < 9) (h1 : hget h a = some (.inr (3, [.ref a2]))) (h2 : hget h a2 = some (.inl (3, 9, .inr (.inr (.inr (.inr f)))))) (h3 : f k = some j) : aSp (d + 1) 58 [.ref a, .int (nI k)] h nomv 0 0 (fun r h' => r = some (.ref j) ∧ h' = h) := by
  refine sp_of (by decide) (Nat.le_of_ble_eq_true rfl) ?_
  generalize hG : ((d + 1, _, nomv, _, _, _) : aG) = G
  have ggd : gD G = d + 1 := by subst hG; rfl
  have ggn : gN G = h.length := by subst hG; rfl
  have ggc : gC G = 0 := by subst hG; rfl
  have ggs : gS G = 0 := by subst hG; rfl
  have hret : RET G (some (.ref j)) h 0 0 := by
    subst hG
    exact RET.id ⟨rfl, rfl⟩ (Nat.le_refl _) (Nat.le_refl _)
  clear hG
  have l1 : Nat.blt a h.length = true := by rw [Nat.blt_eq]; exact hget_lt h1
  have l2 : Nat.blt a2 h.length = true := by rw [Nat.blt_eq]; exact hget_lt h2
  refine wp_aw (S := fun _ => false) (by decide) 200 _ _ _ _ _ _ ?_
  simp (disch := first | exact rfl | decide | omega) only [u_58_0, u_58_1, u_58_4, u_58_5, u_58_8, u_58_11, u_58_12, u_58_15, u_58_17, u_58_18, wp_stop, lget, lput1, lput2, kil, hget, hset, vget, vset, fget, fgetC, fput, fputC, iget, igetC, jget, jgetC, qget, qgetC, alen, lenC, oI, oJ, oF, oA, oV, oH, oInc, oIld, oJld, oQld, oR, oLen, oIst, oBst, oJst, oQst, ciOf, rcv, oCp, cat1, cond_true, cond_false, Bool.and_self, Bool.and_true, Bool.true_and, Bool.or_true, Bool.true_or, Bool.or_false, Bool.false_or, Bool.not_false, Bool.not_true, ↓reduceIte, Nat.reduceBEq, Nat.reduceEqDiff, beq_self_eq_true, true_and, and_true, eq_self_iff_true, Nat.reduceAdd, Nat.blt, Nat.ble, z_le, z_lt, z_eq, z_cl, z_add, z_sub, z_mul, z_in, z_lt0, z_ofN, z_m1, z_ltm1, z_m1lt, z_eqm1, z_m1eq, z_m1le, z_lem1, z_beq, nI_0_1, nI_m1lt0, nI_0lem1, not_false_eq_true, not_true_eq_false, forall_const, false_implies, true_implies, implies_true, false_and, and_false, mrg, renc, tra, trv, sg, List.map_cons, List.map_nil, Option.map_some, Option.map_none, Option.toList_some, Option.toList_none, List.cons_append, List.nil_append, List.length_cons, List.length_nil, eL, mL_58, h1, h2]
  refine CAL.dir (c_ownY d k hk h) (by rw [ggd]; omega) (by rw [ggc]; omega) (by rw [ggs]; omega) (Nat.le_of_ble_eq_true rfl) (by rw [ggn]; exact Nat.le_refl _) (by simp only [okL, okV, l1, nomv]; rfl) (by simp only [okS, okV, l2, nomv]; rfl) ?_
  rintro _ _ ⟨rfl, rfl⟩
  simp (disch := first | exact rfl | decide | omega) only [u_58_0, u_58_1, u_58_4, u_58_5, u_58_8, u_58_11, u_58_12, u_58_15, u_58_17, u_58_18, wp_stop, lget, lput1, lput2, kil, hget, hset, vget, vset, fget, fgetC, fput, fputC, iget, igetC, jget, jgetC, qget, qgetC, alen, lenC, oI, oJ, oF, oA, oV, oH, oInc, oIld, oJld, oQld, oR, oLen, oIst, oBst, oJst, oQst, ciOf, rcv, oCp, cat1, cond_true, cond_false, Bool.and_self, Bool.and_true, Bool.true_and, Bool.or_true, Bool.true_or, Bool.or_false, Bool.false_or, Bool.not_false, Bool.not_true, ↓reduceIte, Nat.reduceBEq, Nat.reduceEqDiff, beq_self_eq_true, true_and, and_true, eq_self_iff_true, Nat.reduceAdd, Nat.blt, Nat.ble, z_le, z_lt, z_eq, z_cl, z_add, z_sub, z_mul, z_in, z_lt0, z_ofN, z_m1, z_ltm1, z_m1lt, z_eqm1, z_m1eq, z_m1le, z_lem1, z_beq, nI_0_1, nI_m1lt0, nI_0lem1, not_false_eq_true, not_true_eq_false, forall_const, false_implies, true_implies, implies_true, false_and, and_false, mrg, renc, tra, trv, sg, List.map_cons, List.map_nil, Option.map_some, Option.map_none, Option.toList_some, Option.toList_none, List.cons_append, List.nil_append, List.length_cons, List.length_nil, h1, h2, h3, n10]
  exact hret
