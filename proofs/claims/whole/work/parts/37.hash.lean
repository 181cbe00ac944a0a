/-! Machine: lastSteps, chainOfFound, isFound -/
/-- the number that found sets are told apart by -/
def hshW (f : Nat → Int64) : Nat → Int64
  | 0 => lN 0
  | w + 1 => (hshW f w ^^^ f w) * (-7046029254386353131)
/-- the chain of a set of W words -/
def chnW (f : Nat → Int64) (W : Nat) : Nat := (hshW f W).toBitVec.toNat / 2 ^ 58
theorem chnW_lt (f : Nat → Int64) (W : Nat) : chnW f W < 64 := by
  have := (hshW f W).toBitVec.isLt
  unfold chnW
  omega
theorem chn_i (f : Nat → Int64) (W : Nat) : ((hshW f W).toUInt64 >>> ((nI 58).toInt64.toUInt64 &&& Int64.toUInt64 63)).toInt64.toInt32 &&& nI 63 = nI (chnW f W) := by
  have h1 := chnW_lt f W
  rw [bl_lN_self (hshW f W), bl_lN_ushr (hshW f W).toBitVec.isLt (by omega), bl_lN_i]
  show nI (chnW f W) &&& nI 63 = _
  rw [tg_lo (chnW f W) (by omega), Nat.mod_eq_of_lt h1]
theorem hsh_congr {f g : Nat → Int64} : ∀ W, (∀ w, w < W → f w = g w) → hshW f W = hshW g W
  | 0, _ => rfl
  | W + 1, h => by
    unfold hshW
    rw [hsh_congr W (fun w hw => h w (by omega)), h W (by omega)]
theorem chn_congr {f g : Nat → Int64} {W : Nat} (h : ∀ w, w < W → f w = g w) : chnW f W = chnW g W := by
  unfold chnW
  rw [hsh_congr W h]
set_option maxRecDepth 100000 in
theorem l_chain {G : aG} (P : PS) (M : MS) (W : Nat) (hW : M.words = nI W) (hW4 : W ≤ 4) (hret : RET G (some (.int (nI (chnW M.fo W)))) (mH P M) 0 0) : ∀ (m w : Nat), w + m = W →
    AW 25 G 4 [some (.ref 0), some (.long (hshW M.fo w)), none, some (.int (nI w))] [] (mH P M) 0 0 := by
  intro m
  induction m with
  | zero =>
    intro w hw
    have t1 : W ≤ w := by omega
    have hw2 : w = W := by omega
    refine wq_aw (S := fun x => x == 4) (by decide) (f := 200) ?_
    simp (disch := first | exact rfl | decide | omega) only [v_25_4, u_25_0, u_25_1, u_25_2, u_25_3, u_25_4, u_25_5, u_25_6, u_25_9, u_25_12, u_25_13, u_25_14, u_25_17, u_25_18, u_25_19, u_25_20, u_25_23, u_25_24, u_25_25, u_25_28, u_25_31, u_25_32, u_25_34, u_25_35, u_25_36, u_25_38, u_25_39, wp_stop, lget, lput1, lput2, kil, hget, hset, vget, vset, fget, fgetC, fput, fputC, iget, igetC, jget, jgetC, qget, qgetC, alen, lenC, oI, oJ, oF, oA, oV, oH, oInc, oIld, oJld, oQld, oR, oLen, oIst, oBst, oJst, oQst, ciOf, rcv, oCp, cat1, cond_true, cond_false, Bool.and_self, Bool.and_true, Bool.true_and, Bool.or_true, Bool.true_or, Bool.or_false, Bool.false_or, Bool.not_false, Bool.not_true, ↓reduceIte, Nat.reduceBEq, Nat.reduceEqDiff, beq_self_eq_true, true_and, and_true, eq_self_iff_true, Nat.reduceAdd, Nat.blt, Nat.ble, z_le, z_lt, z_eq, z_cl, z_add, z_sub, z_mul, z_in, z_lt0, z_ofN, z_m1, z_ltm1, z_m1lt, z_eqm1, z_m1eq, z_m1le, z_lem1, z_beq, nI_0_1, nI_m1lt0, nI_0lem1, not_false_eq_true, not_true_eq_false, forall_const, false_implies, true_implies, implies_true, false_and, and_false, mrg, renc, tra, trv, sg, List.map_cons, List.map_nil, Option.map_some, Option.map_none, Option.toList_some, Option.toList_none, List.cons_append, List.nil_append, List.length_cons, List.length_nil, mH, mO, hW, t1]
    rw [← hW, hw2, chn_i]
    exact hret
  | succ m ih =>
    intro w hw
    have t1 : ¬ W ≤ w := by omega
    have t2 : w < 4 := by omega
    refine wq_aw (S := fun x => x == 4) (by decide) (f := 200) ?_
    simp (disch := first | exact rfl | decide | omega) only [v_25_4, u_25_0, u_25_1, u_25_2, u_25_3, u_25_4, u_25_5, u_25_6, u_25_9, u_25_12, u_25_13, u_25_14, u_25_17, u_25_18, u_25_19, u_25_20, u_25_23, u_25_24, u_25_25, u_25_28, u_25_31, u_25_32, u_25_34, u_25_35, u_25_36, u_25_38, u_25_39, wp_stop, lget, lput1, lput2, kil, hget, hset, vget, vset, fget, fgetC, fput, fputC, iget, igetC, jget, jgetC, qget, qgetC, alen, lenC, oI, oJ, oF, oA, oV, oH, oInc, oIld, oJld, oQld, oR, oLen, oIst, oBst, oJst, oQst, ciOf, rcv, oCp, cat1, cond_true, cond_false, Bool.and_self, Bool.and_true, Bool.true_and, Bool.or_true, Bool.true_or, Bool.or_false, Bool.false_or, Bool.not_false, Bool.not_true, ↓reduceIte, Nat.reduceBEq, Nat.reduceEqDiff, beq_self_eq_true, true_and, and_true, eq_self_iff_true, Nat.reduceAdd, Nat.blt, Nat.ble, z_le, z_lt, z_eq, z_cl, z_add, z_sub, z_mul, z_in, z_lt0, z_ofN, z_m1, z_ltm1, z_m1lt, z_eqm1, z_m1eq, z_m1le, z_lem1, z_beq, nI_0_1, nI_m1lt0, nI_0lem1, not_false_eq_true, not_true_eq_false, forall_const, false_implies, true_implies, implies_true, false_and, and_false, mrg, renc, tra, trv, sg, List.map_cons, List.map_nil, Option.map_some, Option.map_none, Option.toList_some, Option.toList_none, List.cons_append, List.nil_append, List.length_cons, List.length_nil, mH, mO, hW, t1]
    rw [← hW]
    exact ih (w + 1) (by omega)
set_option maxRecDepth 100000 in
theorem c_chain (d : Nat) (P : PS) (M : MS) (W : Nat) (hW : M.words = nI W) (hW4 : W ≤ 4) :
    aSp d 25 [.ref 0] (mH P M) nomv 0 0 (fun r h' => r = some (.int (nI (chnW M.fo W))) ∧ h' = mH P M) := by
  refine sp_of (by decide) (Nat.le_of_ble_eq_true rfl) ?_
  generalize hG : ((d, _, nomv, _, _, _) : aG) = G
  have ggd : gD G = d := by subst hG; rfl
  have ggn : gN G = 18 := by subst hG; rfl
  have ggm : gM G = nomv := by subst hG; rfl
  have ggc : gC G = 0 := by subst hG; rfl
  have ggs : gS G = 0 := by subst hG; rfl
  have hret : RET G (some (.int (nI (chnW M.fo W)))) (mH P M) 0 0 := by
    subst hG
    exact RET.id ⟨rfl, rfl⟩ (Nat.le_refl _) (Nat.le_refl _)
  clear hG
  refine wp_aw (S := fun x => x == 4) (by decide) 200 _ _ _ _ _ _ ?_
  simp (disch := first | exact rfl | decide | omega) only [u_25_0, u_25_1, u_25_2, u_25_3, u_25_4, u_25_5, u_25_6, u_25_9, u_25_12, u_25_13, u_25_14, u_25_17, u_25_18, u_25_19, u_25_20, u_25_23, u_25_24, u_25_25, u_25_28, u_25_31, u_25_32, u_25_34, u_25_35, u_25_36, u_25_38, u_25_39, wp_stop, lget, lput1, lput2, kil, hget, hset, vget, vset, fget, fgetC, fput, fputC, iget, igetC, jget, jgetC, qget, qgetC, alen, lenC, oI, oJ, oF, oA, oV, oH, oInc, oIld, oJld, oQld, oR, oLen, oIst, oBst, oJst, oQst, ciOf, rcv, oCp, cat1, cond_true, cond_false, Bool.and_self, Bool.and_true, Bool.true_and, Bool.or_true, Bool.true_or, Bool.or_false, Bool.false_or, Bool.not_false, Bool.not_true, ↓reduceIte, Nat.reduceBEq, Nat.reduceEqDiff, beq_self_eq_true, true_and, and_true, eq_self_iff_true, Nat.reduceAdd, Nat.blt, Nat.ble, z_le, z_lt, z_eq, z_cl, z_add, z_sub, z_mul, z_in, z_lt0, z_ofN, z_m1, z_ltm1, z_m1lt, z_eqm1, z_m1eq, z_m1le, z_lem1, z_beq, nI_0_1, nI_m1lt0, nI_0lem1, not_false_eq_true, not_true_eq_false, forall_const, false_implies, true_implies, implies_true, false_and, and_false, mrg, renc, tra, trv, sg, List.map_cons, List.map_nil, Option.map_some, Option.map_none, Option.toList_some, Option.toList_none, List.cons_append, List.nil_append, List.length_cons, List.length_nil, eL, mL_25, mH, mO]
  exact l_chain P M W hW hW4 hret W 0 (by omega)
/-- whether stand s is the set that was found -/
def sameW (se fo : Nat → Int64) (W s : Nat) : Bool := (List.range W).all (fun w => se (s * W + w) == fo w)
theorem sameW_iff {se fo : Nat → Int64} {W s : Nat} : sameW se fo W s = true ↔ ∀ w, w < W → se (s * W + w) = fo w := by
  unfold sameW
  rw [List.all_eq_true]
  constructor
  · intro h w hw
    exact beq_iff_eq.mp (h w (List.mem_range.mpr hw))
  · intro h w hw
    exact beq_iff_eq.mpr (h w (List.mem_range.mp hw))
theorem lcmp_0 {x y : Int64} : lg_cmp x y = nI 0 ↔ x = y := lg_cmp_eq x y
set_option maxRecDepth 100000 in
theorem l_isFound {G : aG} (P : PS) (M : MS) (W s : Nat) (hW : M.words = nI W) (hW4 : W ≤ 4) (hs : s * W + W ≤ M.nse) (hns : M.nse < 2 ^ 20) (hret : RET G (some (.int (bN (sameW M.se M.fo W s)))) (mH P M) 0 0) : ∀ (m w : Nat), w + m = W → (∀ v, v < w → M.se (s * W + v) = M.fo v) →
    AW 26 G 2 [some (.ref 0), some (.int (nI s)), some (.int (nI w))] [] (mH P M) 0 0 := by
  intro m
  induction m with
  | zero =>
    intro w hw hv
    have t1 : W ≤ w := by omega
    have hs2 : sameW M.se M.fo W s = true := sameW_iff.mpr (fun v q => hv v (by omega))
    rw [hs2] at hret
    refine wq_aw (S := fun x => x == 2) (by decide) (f := 200) ?_
    simp (disch := first | exact rfl | decide | omega) only [v_26_2, u_26_0, u_26_1, u_26_2, u_26_3, u_26_4, u_26_7, u_26_10, u_26_11, u_26_14, u_26_15, u_26_16, u_26_19, u_26_20, u_26_21, u_26_22, u_26_23, u_26_24, u_26_27, u_26_28, u_26_29, u_26_30, u_26_33, u_26_34, u_26_35, u_26_38, u_26_41, u_26_42, wp_stop, lget, lput1, lput2, kil, hget, hset, vget, vset, fget, fgetC, fput, fputC, iget, igetC, jget, jgetC, qget, qgetC, alen, lenC, oI, oJ, oF, oA, oV, oH, oInc, oIld, oJld, oQld, oR, oLen, oIst, oBst, oJst, oQst, ciOf, rcv, oCp, cat1, cond_true, cond_false, Bool.and_self, Bool.and_true, Bool.true_and, Bool.or_true, Bool.true_or, Bool.or_false, Bool.false_or, Bool.not_false, Bool.not_true, ↓reduceIte, Nat.reduceBEq, Nat.reduceEqDiff, beq_self_eq_true, true_and, and_true, eq_self_iff_true, Nat.reduceAdd, Nat.blt, Nat.ble, z_le, z_lt, z_eq, z_cl, z_add, z_sub, z_mul, z_in, z_lt0, z_ofN, z_m1, z_ltm1, z_m1lt, z_eqm1, z_m1eq, z_m1le, z_lem1, z_beq, nI_0_1, nI_m1lt0, nI_0lem1, not_false_eq_true, not_true_eq_false, forall_const, false_implies, true_implies, implies_true, false_and, and_false, mrg, renc, tra, trv, sg, List.map_cons, List.map_nil, Option.map_some, Option.map_none, Option.toList_some, Option.toList_none, List.cons_append, List.nil_append, List.length_cons, List.length_nil, mH, mO, hW, t1]
    rw [← hW]
    exact hret
  | succ m ih =>
    intro w hw hv
    have t1 : ¬ W ≤ w := by omega
    have t2 : w < 4 := by omega
    have t3 : s * W + w < M.nse := by omega
    have t4 : s * W + w < 2 ^ 31 := by omega
    by_cases q : M.se (s * W + w) = M.fo w
    · have q2 : lg_cmp (M.se (s * W + w)) (M.fo w) = nI 0 := lcmp_0.mpr q
      refine wq_aw (S := fun x => x == 2) (by decide) (f := 200) ?_
      simp (disch := first | exact rfl | decide | omega) only [v_26_2, u_26_0, u_26_1, u_26_2, u_26_3, u_26_4, u_26_7, u_26_10, u_26_11, u_26_14, u_26_15, u_26_16, u_26_19, u_26_20, u_26_21, u_26_22, u_26_23, u_26_24, u_26_27, u_26_28, u_26_29, u_26_30, u_26_33, u_26_34, u_26_35, u_26_38, u_26_41, u_26_42, wp_stop, lget, lput1, lput2, kil, hget, hset, vget, vset, fget, fgetC, fput, fputC, iget, igetC, jget, jgetC, qget, qgetC, alen, lenC, oI, oJ, oF, oA, oV, oH, oInc, oIld, oJld, oQld, oR, oLen, oIst, oBst, oJst, oQst, ciOf, rcv, oCp, cat1, cond_true, cond_false, Bool.and_self, Bool.and_true, Bool.true_and, Bool.or_true, Bool.true_or, Bool.or_false, Bool.false_or, Bool.not_false, Bool.not_true, ↓reduceIte, Nat.reduceBEq, Nat.reduceEqDiff, beq_self_eq_true, true_and, and_true, eq_self_iff_true, Nat.reduceAdd, Nat.blt, Nat.ble, z_le, z_lt, z_eq, z_cl, z_add, z_sub, z_mul, z_in, z_lt0, z_ofN, z_m1, z_ltm1, z_m1lt, z_eqm1, z_m1eq, z_m1le, z_lem1, z_beq, nI_0_1, nI_m1lt0, nI_0lem1, not_false_eq_true, not_true_eq_false, forall_const, false_implies, true_implies, implies_true, false_and, and_false, mrg, renc, tra, trv, sg, List.map_cons, List.map_nil, Option.map_some, Option.map_none, Option.toList_some, Option.toList_none, List.cons_append, List.nil_append, List.length_cons, List.length_nil, mH, mO, hW, t1, q2]
      rw [← hW]
      refine ih (w + 1) (by omega) (fun v hv2 => ?_)
      rcases Nat.lt_or_ge v w with z | z
      · exact hv v z
      · have : v = w := by omega
        subst this
        exact q
    · have q2 : ¬ lg_cmp (M.se (s * W + w)) (M.fo w) = nI 0 := fun z => q (lcmp_0.mp z)
      have hs2 : sameW M.se M.fo W s = false := by
        cases hc : sameW M.se M.fo W s with
        | false => rfl
        | true => exact absurd (sameW_iff.mp hc w (by omega)) q
      rw [hs2] at hret
      refine wq_aw (S := fun x => x == 2) (by decide) (f := 200) ?_
      simp (disch := first | exact rfl | decide | omega) only [v_26_2, u_26_0, u_26_1, u_26_2, u_26_3, u_26_4, u_26_7, u_26_10, u_26_11, u_26_14, u_26_15, u_26_16, u_26_19, u_26_20, u_26_21, u_26_22, u_26_23, u_26_24, u_26_27, u_26_28, u_26_29, u_26_30, u_26_33, u_26_34, u_26_35, u_26_38, u_26_41, u_26_42, wp_stop, lget, lput1, lput2, kil, hget, hset, vget, vset, fget, fgetC, fput, fputC, iget, igetC, jget, jgetC, qget, qgetC, alen, lenC, oI, oJ, oF, oA, oV, oH, oInc, oIld, oJld, oQld, oR, oLen, oIst, oBst, oJst, oQst, ciOf, rcv, oCp, cat1, cond_true, cond_false, Bool.and_self, Bool.and_true, Bool.true_and, Bool.or_true, Bool.true_or, Bool.or_false, Bool.false_or, Bool.not_false, Bool.not_true, ↓reduceIte, Nat.reduceBEq, Nat.reduceEqDiff, beq_self_eq_true, true_and, and_true, eq_self_iff_true, Nat.reduceAdd, Nat.blt, Nat.ble, z_le, z_lt, z_eq, z_cl, z_add, z_sub, z_mul, z_in, z_lt0, z_ofN, z_m1, z_ltm1, z_m1lt, z_eqm1, z_m1eq, z_m1le, z_lem1, z_beq, nI_0_1, nI_m1lt0, nI_0lem1, not_false_eq_true, not_true_eq_false, forall_const, false_implies, true_implies, implies_true, false_and, and_false, mrg, renc, tra, trv, sg, List.map_cons, List.map_nil, Option.map_some, Option.map_none, Option.toList_some, Option.toList_none, List.cons_append, List.nil_append, List.length_cons, List.length_nil, mH, mO, hW, t1, q2]
      rw [← hW]
      exact hret
set_option maxRecDepth 100000 in
theorem c_isFound (d : Nat) (P : PS) (M : MS) (W s : Nat) (hW : M.words = nI W) (hW4 : W ≤ 4) (hs : s * W + W ≤ M.nse) (hns : M.nse < 2 ^ 20) :
    aSp d 26 [.ref 0, .int (nI s)] (mH P M) nomv 0 0 (fun r h' => r = some (.int (bN (sameW M.se M.fo W s))) ∧ h' = mH P M) := by
  refine sp_of (by decide) (Nat.le_of_ble_eq_true rfl) ?_
  generalize hG : ((d, _, nomv, _, _, _) : aG) = G
  have ggd : gD G = d := by subst hG; rfl
  have ggn : gN G = 18 := by subst hG; rfl
  have ggm : gM G = nomv := by subst hG; rfl
  have ggc : gC G = 0 := by subst hG; rfl
  have ggs : gS G = 0 := by subst hG; rfl
  have hret : RET G (some (.int (bN (sameW M.se M.fo W s)))) (mH P M) 0 0 := by
    subst hG
    exact RET.id ⟨rfl, rfl⟩ (Nat.le_refl _) (Nat.le_refl _)
  clear hG
  refine wp_aw (S := fun x => x == 2) (by decide) 200 _ _ _ _ _ _ ?_
  simp (disch := first | exact rfl | decide | omega) only [u_26_0, u_26_1, u_26_2, u_26_3, u_26_4, u_26_7, u_26_10, u_26_11, u_26_14, u_26_15, u_26_16, u_26_19, u_26_20, u_26_21, u_26_22, u_26_23, u_26_24, u_26_27, u_26_28, u_26_29, u_26_30, u_26_33, u_26_34, u_26_35, u_26_38, u_26_41, u_26_42, wp_stop, lget, lput1, lput2, kil, hget, hset, vget, vset, fget, fgetC, fput, fputC, iget, igetC, jget, jgetC, qget, qgetC, alen, lenC, oI, oJ, oF, oA, oV, oH, oInc, oIld, oJld, oQld, oR, oLen, oIst, oBst, oJst, oQst, ciOf, rcv, oCp, cat1, cond_true, cond_false, Bool.and_self, Bool.and_true, Bool.true_and, Bool.or_true, Bool.true_or, Bool.or_false, Bool.false_or, Bool.not_false, Bool.not_true, ↓reduceIte, Nat.reduceBEq, Nat.reduceEqDiff, beq_self_eq_true, true_and, and_true, eq_self_iff_true, Nat.reduceAdd, Nat.blt, Nat.ble, z_le, z_lt, z_eq, z_cl, z_add, z_sub, z_mul, z_in, z_lt0, z_ofN, z_m1, z_ltm1, z_m1lt, z_eqm1, z_m1eq, z_m1le, z_lem1, z_beq, nI_0_1, nI_m1lt0, nI_0lem1, not_false_eq_true, not_true_eq_false, forall_const, false_implies, true_implies, implies_true, false_and, and_false, mrg, renc, tra, trv, sg, List.map_cons, List.map_nil, Option.map_some, Option.map_none, Option.toList_some, Option.toList_none, List.cons_append, List.nil_append, List.length_cons, List.length_nil, eL, mL_26, mH, mO]
  exact l_isFound P M W s hW hW4 hs hns hret W 0 (by omega) (fun v hv => absurd hv (by omega))
theorem shr9 {t : Nat} (h : t < 2 ^ 31) : nI t >>> (nI 9 &&& 31) = nI (t / 512) := pk_shrN h _ 9 (by decide)
set_option maxRecDepth 100000 in
theorem c_lastSteps (d : Nat) (P : PS) (M : MS) (s k t : Nat) (hk : M.known = nI k) (hk2 : k ≤ M.ntr) (hk3 : M.ntr < 2 ^ 20) (hs : s < k) (ht : M.tr s = nI t) (ht2 : t < 2 ^ 17) :
    aSp (d + 1) 68 [.ref 0, .int (nI s)] (mH P M) nomv 0 0 (fun r h' => r = some (.int (nI (pcN (t / 512)))) ∧ h' = mH P M) := by
  refine sp_of (by decide) (Nat.le_of_ble_eq_true rfl) ?_
  generalize hG : ((d + 1, _, nomv, _, _, _) : aG) = G
  have ggd : gD G = d + 1 := by subst hG; rfl
  have ggn : gN G = 18 := by subst hG; rfl
  have ggm : gM G = nomv := by subst hG; rfl
  have ggc : gC G = 0 := by subst hG; rfl
  have ggs : gS G = 0 := by subst hG; rfl
  have hret : RET G (some (.int (nI (pcN (t / 512))))) (mH P M) 0 0 := by
    subst hG
    exact RET.id ⟨rfl, rfl⟩ (Nat.le_refl _) (Nat.le_refl _)
  clear hG
  have e1 := shr9 (t := t) (by omega)
  refine wp_aw (S := fun _ => false) (by decide) 200 _ _ _ _ _ _ ?_
  simp (disch := first | exact rfl | decide | omega) only [u_68_0, u_68_1, u_68_2, u_68_5, u_68_7, u_68_8, u_68_11, wp_stop, lget, lput1, lput2, kil, hget, hset, vget, vset, fget, fgetC, fput, fputC, iget, igetC, jget, jgetC, qget, qgetC, alen, lenC, oI, oJ, oF, oA, oV, oH, oInc, oIld, oJld, oQld, oR, oLen, oIst, oBst, oJst, oQst, ciOf, rcv, oCp, cat1, cond_true, cond_false, Bool.and_self, Bool.and_true, Bool.true_and, Bool.or_true, Bool.true_or, Bool.or_false, Bool.false_or, Bool.not_false, Bool.not_true, ↓reduceIte, Nat.reduceBEq, Nat.reduceEqDiff, beq_self_eq_true, true_and, and_true, eq_self_iff_true, Nat.reduceAdd, Nat.blt, Nat.ble, z_le, z_lt, z_eq, z_cl, z_add, z_sub, z_mul, z_in, z_lt0, z_ofN, z_m1, z_ltm1, z_m1lt, z_eqm1, z_m1eq, z_m1le, z_lem1, z_beq, nI_0_1, nI_m1lt0, nI_0lem1, not_false_eq_true, not_true_eq_false, forall_const, false_implies, true_implies, implies_true, false_and, and_false, mrg, renc, tra, trv, sg, List.map_cons, List.map_nil, Option.map_some, Option.map_none, Option.toList_some, Option.toList_none, List.cons_append, List.nil_append, List.length_cons, List.length_nil, eL, mL_68, mH, mO]
  refine CAL.dir (c_traitsOf d P M s k hk hk2 hk3 hs) (by rw [ggd]; omega) (by rw [ggc]; omega) (by rw [ggs]; omega) (Nat.le_of_ble_eq_true rfl) (by rw [ggn]; exact Nat.le_of_ble_eq_true rfl) rfl rfl ?_
  rintro _ _ ⟨rfl, rfl⟩
  simp (disch := first | exact rfl | decide | omega) only [u_68_0, u_68_1, u_68_2, u_68_5, u_68_7, u_68_8, u_68_11, wp_stop, lget, lput1, lput2, kil, hget, hset, vget, vset, fget, fgetC, fput, fputC, iget, igetC, jget, jgetC, qget, qgetC, alen, lenC, oI, oJ, oF, oA, oV, oH, oInc, oIld, oJld, oQld, oR, oLen, oIst, oBst, oJst, oQst, ciOf, rcv, oCp, cat1, cond_true, cond_false, Bool.and_self, Bool.and_true, Bool.true_and, Bool.or_true, Bool.true_or, Bool.or_false, Bool.false_or, Bool.not_false, Bool.not_true, ↓reduceIte, Nat.reduceBEq, Nat.reduceEqDiff, beq_self_eq_true, true_and, and_true, eq_self_iff_true, Nat.reduceAdd, Nat.blt, Nat.ble, z_le, z_lt, z_eq, z_cl, z_add, z_sub, z_mul, z_in, z_lt0, z_ofN, z_m1, z_ltm1, z_m1lt, z_eqm1, z_m1eq, z_m1le, z_lem1, z_beq, nI_0_1, nI_m1lt0, nI_0lem1, not_false_eq_true, not_true_eq_false, forall_const, false_implies, true_implies, implies_true, false_and, and_false, mrg, renc, tra, trv, sg, List.map_cons, List.map_nil, Option.map_some, Option.map_none, Option.toList_some, Option.toList_none, List.cons_append, List.nil_append, List.length_cons, List.length_nil, ht, e1]
  refine CAL.nm (c_bitI d (t / 512) (by omega)) [] rfl rfl rfl List.nodup_nil rfl (fun r hc' q => Nat.zero_le _) (by rw [ggd]; omega) (by rw [ggc]; omega) (by rw [ggs]; omega) (Nat.le_of_ble_eq_true rfl) (by rw [ggn]; exact Nat.le_of_ble_eq_true rfl) rfl rfl ?_
  rintro _ _ ⟨rfl, rfl⟩
  simp (disch := first | exact rfl | decide | omega) only [u_68_0, u_68_1, u_68_2, u_68_5, u_68_7, u_68_8, u_68_11, wp_stop, lget, lput1, lput2, kil, hget, hset, vget, vset, fget, fgetC, fput, fputC, iget, igetC, jget, jgetC, qget, qgetC, alen, lenC, oI, oJ, oF, oA, oV, oH, oInc, oIld, oJld, oQld, oR, oLen, oIst, oBst, oJst, oQst, ciOf, rcv, oCp, cat1, cond_true, cond_false, Bool.and_self, Bool.and_true, Bool.true_and, Bool.or_true, Bool.true_or, Bool.or_false, Bool.false_or, Bool.not_false, Bool.not_true, ↓reduceIte, Nat.reduceBEq, Nat.reduceEqDiff, beq_self_eq_true, true_and, and_true, eq_self_iff_true, Nat.reduceAdd, Nat.blt, Nat.ble, z_le, z_lt, z_eq, z_cl, z_add, z_sub, z_mul, z_in, z_lt0, z_ofN, z_m1, z_ltm1, z_m1lt, z_eqm1, z_m1eq, z_m1le, z_lem1, z_beq, nI_0_1, nI_m1lt0, nI_0lem1, not_false_eq_true, not_true_eq_false, forall_const, false_implies, true_implies, implies_true, false_and, and_false, mrg, renc, tra, trv, sg, List.map_cons, List.map_nil, Option.map_some, Option.map_none, Option.toList_some, Option.toList_none, List.cons_append, List.nil_append, List.length_cons, List.length_nil]
  exact hret
