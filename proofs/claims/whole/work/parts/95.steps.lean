/-! ResidualJudge: begins, steps, now -/
abbrev rfB (J : jS) : jS := ((J.1.1 + 1, J.1.2.1, J.1.2.2), J.2)
abbrev rfN (J : jS) : jS := ((J.1.1, J.1.2.1 + 1, J.1.2.2), J.2)
abbrev rfF (J : jS) : jS := ((J.1.1, J.1.2.1, J.1.2.2 + 1), J.2)
theorem J_refBad (d : Nat) (J : jS) (PM : Nat → PS × MS) : aSp d 33 [.ref 0, .int (-2)] (jH J PM) nomv 0 0 (fun r h' => r = some (.int (-2)) ∧ h' = jH (rfB J) PM) := c_refBad J.1.1 J.1.2.1 J.1.2.2 J.2.1 J.2.2.1 J.2.2.2.1 J.2.2.2.2.1 J.2.2.2.2.2.1 J.2.2.2.2.2.2 PM d
theorem J_refNo (d : Nat) (J : jS) (PM : Nat → PS × MS) : aSp d 33 [.ref 0, .int (-3)] (jH J PM) nomv 0 0 (fun r h' => r = some (.int (-3)) ∧ h' = jH (rfN J) PM) := c_refNo J.1.1 J.1.2.1 J.1.2.2 J.2.1 J.2.2.1 J.2.2.2.1 J.2.2.2.2.1 J.2.2.2.2.2.1 J.2.2.2.2.2.2 PM d
theorem J_refFull (d : Nat) (J : jS) (PM : Nat → PS × MS) : aSp d 33 [.ref 0, .int (-4)] (jH J PM) nomv 0 0 (fun r h' => r = some (.int (-4)) ∧ h' = jH (rfF J) PM) := c_refFull J.1.1 J.1.2.1 J.1.2.2 J.2.1 J.2.2.1 J.2.2.2.1 J.2.2.2.2.1 J.2.2.2.2.2.1 J.2.2.2.2.2.2 PM d
section JB
variable (J : jS) (PM : Nat → PS × MS)
set_option maxRecDepth 100000 in
theorem c_clearsBad (d : Nat) (x : Int32) (hx : x < nI 0 ∨ nI 9 ≤ x) : aSp (d + 1) 56 [.ref 0, .int x] (jH J PM) jv 0 0 (fun r h' => r = some (.int (-2)) ∧ h' = jH (rfB J) PM) := by
  refine sp_of (by decide) (Nat.le_of_ble_eq_true rfl) ?_
  generalize hG : ((d + 1, _, jv, _, _, _) : aG) = G
  have ggd : gD G = d + 1 := by subst hG; rfl
  have ggn : gN G = 193 := by subst hG; exact jH_len _ _
  have ggm : gM G = jv := by subst hG; rfl
  have ggc : gC G = 0 := by subst hG; rfl
  have ggs : gS G = 0 := by subst hG; rfl
  have hret : RET G (some (.int (-2))) (jH (rfB J) PM) 0 0 := by
    subst hG
    exact RET.id ⟨rfl, rfl⟩ (Nat.le_refl _) (Nat.le_refl _)
  clear hG
  have hrb := J_refBad d J PM
  refine wp_aw (S := fun _ => false) (by decide) 200 _ _ _ _ _ _ ?_
  simp (disch := first | exact rfl | decide | omega) only [u_56_0, u_56_1, u_56_4, u_56_7, u_56_8, u_56_10, u_56_13, u_56_14, u_56_15, u_56_18, u_56_19, u_56_22, u_56_25, u_56_26, u_56_29, u_56_32, u_56_33, u_56_36, u_56_37, u_56_38, u_56_41, u_56_43, u_56_46, u_56_47, u_56_50, u_56_51, u_56_54, u_56_57, u_56_60, u_56_61, wp_stop, lget, lput1, lput2, kil, hget, hset, vget, vset, fget, fgetC, fput, fputC, iget, igetC, jget, jgetC, qget, qgetC, alen, lenC, oI, oJ, oF, oA, oV, oH, oInc, oIld, oJld, oQld, oR, oLen, oIst, oBst, oJst, oQst, ciOf, rcv, oCp, cat1, cond_true, cond_false, Bool.and_self, Bool.and_true, Bool.true_and, Bool.or_true, Bool.true_or, Bool.or_false, Bool.false_or, Bool.not_false, Bool.not_true, ↓reduceIte, Nat.reduceBEq, Nat.reduceEqDiff, beq_self_eq_true, true_and, and_true, eq_self_iff_true, Nat.reduceAdd, Nat.blt, Nat.ble, z_le, z_lt, z_eq, z_cl, z_add, z_sub, z_mul, z_in, z_lt0, z_ofN, z_m1, z_ltm1, z_m1lt, z_eqm1, z_m1eq, z_m1le, z_lem1, z_beq, nI_0_1, nI_m1lt0, nI_0lem1, not_false_eq_true, not_true_eq_false, forall_const, false_implies, true_implies, implies_true, false_and, and_false, mrg, renc, tra, trv, sg, List.map_cons, List.map_nil, Option.map_some, Option.map_none, Option.toList_some, Option.toList_none, List.cons_append, List.nil_append, List.length_cons, List.length_nil, eL, mL_56, jH, jF]
  refine CAL.dir (c_ownN d x hx _) (by rw [ggd]; omega) (by show _ ≤ gC G; omega) (by show _ ≤ gS G; omega) (Nat.le_of_ble_eq_true rfl) (by rw [ggn]; exact Nat.le_of_ble_eq_true rfl) rfl rfl ?_
  rintro _ _ ⟨rfl, rfl⟩
  simp (disch := first | exact rfl | decide | omega) only [u_56_0, u_56_1, u_56_4, u_56_7, u_56_8, u_56_10, u_56_13, u_56_14, u_56_15, u_56_18, u_56_19, u_56_22, u_56_25, u_56_26, u_56_29, u_56_32, u_56_33, u_56_36, u_56_37, u_56_38, u_56_41, u_56_43, u_56_46, u_56_47, u_56_50, u_56_51, u_56_54, u_56_57, u_56_60, u_56_61, wp_stop, lget, lput1, lput2, kil, hget, hset, vget, vset, fget, fgetC, fput, fputC, iget, igetC, jget, jgetC, qget, qgetC, alen, lenC, oI, oJ, oF, oA, oV, oH, oInc, oIld, oJld, oQld, oR, oLen, oIst, oBst, oJst, oQst, ciOf, rcv, oCp, cat1, cond_true, cond_false, Bool.and_self, Bool.and_true, Bool.true_and, Bool.or_true, Bool.true_or, Bool.or_false, Bool.false_or, Bool.not_false, Bool.not_true, ↓reduceIte, Nat.reduceBEq, Nat.reduceEqDiff, beq_self_eq_true, true_and, and_true, eq_self_iff_true, Nat.reduceAdd, Nat.blt, Nat.ble, z_le, z_lt, z_eq, z_cl, z_add, z_sub, z_mul, z_in, z_lt0, z_ofN, z_m1, z_ltm1, z_m1lt, z_eqm1, z_m1eq, z_m1le, z_lem1, z_beq, nI_0_1, nI_m1lt0, nI_0lem1, not_false_eq_true, not_true_eq_false, forall_const, false_implies, true_implies, implies_true, false_and, and_false, mrg, renc, tra, trv, sg, List.map_cons, List.map_nil, Option.map_some, Option.map_none, Option.toList_some, Option.toList_none, List.cons_append, List.nil_append, List.length_cons, List.length_nil]
  refine CAL.dir (hrb) (by rw [ggd]; omega) (by show _ ≤ gC G; omega) (by show _ ≤ gS G; omega) (Nat.le_of_ble_eq_true rfl) (by rw [ggn]; exact Nat.le_of_ble_eq_true rfl) rfl rfl ?_
  rintro _ _ ⟨rfl, rfl⟩
  simp (disch := first | exact rfl | decide | omega) only [u_56_0, u_56_1, u_56_4, u_56_7, u_56_8, u_56_10, u_56_13, u_56_14, u_56_15, u_56_18, u_56_19, u_56_22, u_56_25, u_56_26, u_56_29, u_56_32, u_56_33, u_56_36, u_56_37, u_56_38, u_56_41, u_56_43, u_56_46, u_56_47, u_56_50, u_56_51, u_56_54, u_56_57, u_56_60, u_56_61, wp_stop, lget, lput1, lput2, kil, hget, hset, vget, vset, fget, fgetC, fput, fputC, iget, igetC, jget, jgetC, qget, qgetC, alen, lenC, oI, oJ, oF, oA, oV, oH, oInc, oIld, oJld, oQld, oR, oLen, oIst, oBst, oJst, oQst, ciOf, rcv, oCp, cat1, cond_true, cond_false, Bool.and_self, Bool.and_true, Bool.true_and, Bool.or_true, Bool.true_or, Bool.or_false, Bool.false_or, Bool.not_false, Bool.not_true, ↓reduceIte, Nat.reduceBEq, Nat.reduceEqDiff, beq_self_eq_true, true_and, and_true, eq_self_iff_true, Nat.reduceAdd, Nat.blt, Nat.ble, z_le, z_lt, z_eq, z_cl, z_add, z_sub, z_mul, z_in, z_lt0, z_ofN, z_m1, z_ltm1, z_m1lt, z_eqm1, z_m1eq, z_m1le, z_lem1, z_beq, nI_0_1, nI_m1lt0, nI_0lem1, not_false_eq_true, not_true_eq_false, forall_const, false_implies, true_implies, implies_true, false_and, and_false, mrg, renc, tra, trv, sg, List.map_cons, List.map_nil, Option.map_some, Option.map_none, Option.toList_some, Option.toList_none, List.cons_append, List.nil_append, List.length_cons, List.length_nil]
  exact hret
set_option maxRecDepth 100000 in
theorem c_beginsBad (d : Nat) (x : Int32) (hx : x < nI 0 ∨ nI 9 ≤ x) : aSp (d + 1) 89 [.ref 0, .int x] (jH J PM) jv 0 0 (fun r h' => r = some (.int (-2)) ∧ h' = jH (rfB J) PM) := by
  refine sp_of (by decide) (Nat.le_of_ble_eq_true rfl) ?_
  generalize hG : ((d + 1, _, jv, _, _, _) : aG) = G
  have ggd : gD G = d + 1 := by subst hG; rfl
  have ggn : gN G = 193 := by subst hG; exact jH_len _ _
  have ggm : gM G = jv := by subst hG; rfl
  have ggc : gC G = 0 := by subst hG; rfl
  have ggs : gS G = 0 := by subst hG; rfl
  have hret : RET G (some (.int (-2))) (jH (rfB J) PM) 0 0 := by
    subst hG
    exact RET.id ⟨rfl, rfl⟩ (Nat.le_refl _) (Nat.le_refl _)
  clear hG
  have hrb := J_refBad d J PM
  refine wp_aw (S := fun _ => false) (by decide) 200 _ _ _ _ _ _ ?_
  simp (disch := first | exact rfl | decide | omega) only [u_89_0, u_89_1, u_89_4, u_89_7, u_89_8, u_89_10, u_89_13, u_89_14, u_89_15, u_89_18, u_89_19, u_89_22, u_89_25, u_89_26, u_89_29, u_89_30, u_89_33, u_89_34, u_89_35, u_89_38, wp_stop, lget, lput1, lput2, kil, hget, hset, vget, vset, fget, fgetC, fput, fputC, iget, igetC, jget, jgetC, qget, qgetC, alen, lenC, oI, oJ, oF, oA, oV, oH, oInc, oIld, oJld, oQld, oR, oLen, oIst, oBst, oJst, oQst, ciOf, rcv, oCp, cat1, cond_true, cond_false, Bool.and_self, Bool.and_true, Bool.true_and, Bool.or_true, Bool.true_or, Bool.or_false, Bool.false_or, Bool.not_false, Bool.not_true, ↓reduceIte, Nat.reduceBEq, Nat.reduceEqDiff, beq_self_eq_true, true_and, and_true, eq_self_iff_true, Nat.reduceAdd, Nat.blt, Nat.ble, z_le, z_lt, z_eq, z_cl, z_add, z_sub, z_mul, z_in, z_lt0, z_ofN, z_m1, z_ltm1, z_m1lt, z_eqm1, z_m1eq, z_m1le, z_lem1, z_beq, nI_0_1, nI_m1lt0, nI_0lem1, not_false_eq_true, not_true_eq_false, forall_const, false_implies, true_implies, implies_true, false_and, and_false, mrg, renc, tra, trv, sg, List.map_cons, List.map_nil, Option.map_some, Option.map_none, Option.toList_some, Option.toList_none, List.cons_append, List.nil_append, List.length_cons, List.length_nil, eL, mL_89, jH, jF]
  refine CAL.dir (c_ownN d x hx _) (by rw [ggd]; omega) (by show _ ≤ gC G; omega) (by show _ ≤ gS G; omega) (Nat.le_of_ble_eq_true rfl) (by rw [ggn]; exact Nat.le_of_ble_eq_true rfl) rfl rfl ?_
  rintro _ _ ⟨rfl, rfl⟩
  simp (disch := first | exact rfl | decide | omega) only [u_89_0, u_89_1, u_89_4, u_89_7, u_89_8, u_89_10, u_89_13, u_89_14, u_89_15, u_89_18, u_89_19, u_89_22, u_89_25, u_89_26, u_89_29, u_89_30, u_89_33, u_89_34, u_89_35, u_89_38, wp_stop, lget, lput1, lput2, kil, hget, hset, vget, vset, fget, fgetC, fput, fputC, iget, igetC, jget, jgetC, qget, qgetC, alen, lenC, oI, oJ, oF, oA, oV, oH, oInc, oIld, oJld, oQld, oR, oLen, oIst, oBst, oJst, oQst, ciOf, rcv, oCp, cat1, cond_true, cond_false, Bool.and_self, Bool.and_true, Bool.true_and, Bool.or_true, Bool.true_or, Bool.or_false, Bool.false_or, Bool.not_false, Bool.not_true, ↓reduceIte, Nat.reduceBEq, Nat.reduceEqDiff, beq_self_eq_true, true_and, and_true, eq_self_iff_true, Nat.reduceAdd, Nat.blt, Nat.ble, z_le, z_lt, z_eq, z_cl, z_add, z_sub, z_mul, z_in, z_lt0, z_ofN, z_m1, z_ltm1, z_m1lt, z_eqm1, z_m1eq, z_m1le, z_lem1, z_beq, nI_0_1, nI_m1lt0, nI_0lem1, not_false_eq_true, not_true_eq_false, forall_const, false_implies, true_implies, implies_true, false_and, and_false, mrg, renc, tra, trv, sg, List.map_cons, List.map_nil, Option.map_some, Option.map_none, Option.toList_some, Option.toList_none, List.cons_append, List.nil_append, List.length_cons, List.length_nil]
  refine CAL.dir (hrb) (by rw [ggd]; omega) (by show _ ≤ gC G; omega) (by show _ ≤ gS G; omega) (Nat.le_of_ble_eq_true rfl) (by rw [ggn]; exact Nat.le_of_ble_eq_true rfl) rfl rfl ?_
  rintro _ _ ⟨rfl, rfl⟩
  simp (disch := first | exact rfl | decide | omega) only [u_89_0, u_89_1, u_89_4, u_89_7, u_89_8, u_89_10, u_89_13, u_89_14, u_89_15, u_89_18, u_89_19, u_89_22, u_89_25, u_89_26, u_89_29, u_89_30, u_89_33, u_89_34, u_89_35, u_89_38, wp_stop, lget, lput1, lput2, kil, hget, hset, vget, vset, fget, fgetC, fput, fputC, iget, igetC, jget, jgetC, qget, qgetC, alen, lenC, oI, oJ, oF, oA, oV, oH, oInc, oIld, oJld, oQld, oR, oLen, oIst, oBst, oJst, oQst, ciOf, rcv, oCp, cat1, cond_true, cond_false, Bool.and_self, Bool.and_true, Bool.true_and, Bool.or_true, Bool.true_or, Bool.or_false, Bool.false_or, Bool.not_false, Bool.not_true, ↓reduceIte, Nat.reduceBEq, Nat.reduceEqDiff, beq_self_eq_true, true_and, and_true, eq_self_iff_true, Nat.reduceAdd, Nat.blt, Nat.ble, z_le, z_lt, z_eq, z_cl, z_add, z_sub, z_mul, z_in, z_lt0, z_ofN, z_m1, z_ltm1, z_m1lt, z_eqm1, z_m1eq, z_m1le, z_lem1, z_beq, nI_0_1, nI_m1lt0, nI_0lem1, not_false_eq_true, not_true_eq_false, forall_const, false_implies, true_implies, implies_true, false_and, and_false, mrg, renc, tra, trv, sg, List.map_cons, List.map_nil, Option.map_some, Option.map_none, Option.toList_some, Option.toList_none, List.cons_append, List.nil_append, List.length_cons, List.length_nil]
  exact hret
set_option maxRecDepth 100000 in
theorem c_nowBad (d : Nat) (x : Int32) (hx : x < nI 0 ∨ nI 3 < x) : aSp (d + 1) 94 [.ref 0, .int x] (jH J PM) jv 0 0 (fun r h' => r = some (.int (-2)) ∧ h' = jH (rfB J) PM) := by
  refine sp_of (by decide) (Nat.le_of_ble_eq_true rfl) ?_
  generalize hG : ((d + 1, _, jv, _, _, _) : aG) = G
  have ggd : gD G = d + 1 := by subst hG; rfl
  have ggn : gN G = 193 := by subst hG; exact jH_len _ _
  have ggm : gM G = jv := by subst hG; rfl
  have ggc : gC G = 0 := by subst hG; rfl
  have ggs : gS G = 0 := by subst hG; rfl
  have hret : RET G (some (.int (-2))) (jH (rfB J) PM) 0 0 := by
    subst hG
    exact RET.id ⟨rfl, rfl⟩ (Nat.le_refl _) (Nat.le_refl _)
  clear hG
  have hrb := J_refBad d J PM
  by_cases q : x < nI 0
  · refine wp_aw (S := fun _ => false) (by decide) 200 _ _ _ _ _ _ ?_
    simp (disch := first | exact rfl | decide | omega) only [u_94_0, u_94_1, u_94_4, u_94_5, u_94_6, u_94_9, u_94_10, u_94_12, u_94_15, u_94_16, u_94_17, u_94_18, u_94_21, wp_stop, lget, lput1, lput2, kil, hget, hset, vget, vset, fget, fgetC, fput, fputC, iget, igetC, jget, jgetC, qget, qgetC, alen, lenC, oI, oJ, oF, oA, oV, oH, oInc, oIld, oJld, oQld, oR, oLen, oIst, oBst, oJst, oQst, ciOf, rcv, oCp, cat1, cond_true, cond_false, Bool.and_self, Bool.and_true, Bool.true_and, Bool.or_true, Bool.true_or, Bool.or_false, Bool.false_or, Bool.not_false, Bool.not_true, ↓reduceIte, Nat.reduceBEq, Nat.reduceEqDiff, beq_self_eq_true, true_and, and_true, eq_self_iff_true, Nat.reduceAdd, Nat.blt, Nat.ble, z_le, z_lt, z_eq, z_cl, z_add, z_sub, z_mul, z_in, z_lt0, z_ofN, z_m1, z_ltm1, z_m1lt, z_eqm1, z_m1eq, z_m1le, z_lem1, z_beq, nI_0_1, nI_m1lt0, nI_0lem1, not_false_eq_true, not_true_eq_false, forall_const, false_implies, true_implies, implies_true, false_and, and_false, mrg, renc, tra, trv, sg, List.map_cons, List.map_nil, Option.map_some, Option.map_none, Option.toList_some, Option.toList_none, List.cons_append, List.nil_append, List.length_cons, List.length_nil, eL, mL_94, jH, jF, q]
    refine CAL.dir (hrb) (by rw [ggd]; omega) (by show _ ≤ gC G; omega) (by show _ ≤ gS G; omega) (Nat.le_of_ble_eq_true rfl) (by rw [ggn]; exact Nat.le_of_ble_eq_true rfl) rfl rfl ?_
    rintro _ _ ⟨rfl, rfl⟩
    simp (disch := first | exact rfl | decide | omega) only [u_94_0, u_94_1, u_94_4, u_94_5, u_94_6, u_94_9, u_94_10, u_94_12, u_94_15, u_94_16, u_94_17, u_94_18, u_94_21, wp_stop, lget, lput1, lput2, kil, hget, hset, vget, vset, fget, fgetC, fput, fputC, iget, igetC, jget, jgetC, qget, qgetC, alen, lenC, oI, oJ, oF, oA, oV, oH, oInc, oIld, oJld, oQld, oR, oLen, oIst, oBst, oJst, oQst, ciOf, rcv, oCp, cat1, cond_true, cond_false, Bool.and_self, Bool.and_true, Bool.true_and, Bool.or_true, Bool.true_or, Bool.or_false, Bool.false_or, Bool.not_false, Bool.not_true, ↓reduceIte, Nat.reduceBEq, Nat.reduceEqDiff, beq_self_eq_true, true_and, and_true, eq_self_iff_true, Nat.reduceAdd, Nat.blt, Nat.ble, z_le, z_lt, z_eq, z_cl, z_add, z_sub, z_mul, z_in, z_lt0, z_ofN, z_m1, z_ltm1, z_m1lt, z_eqm1, z_m1eq, z_m1le, z_lem1, z_beq, nI_0_1, nI_m1lt0, nI_0lem1, not_false_eq_true, not_true_eq_false, forall_const, false_implies, true_implies, implies_true, false_and, and_false, mrg, renc, tra, trv, sg, List.map_cons, List.map_nil, Option.map_some, Option.map_none, Option.toList_some, Option.toList_none, List.cons_append, List.nil_append, List.length_cons, List.length_nil]
    exact hret
  · have q2 : ¬ x ≤ nI 3 := fun z => absurd z (Int32.not_le.mpr (hx.resolve_left q))
    refine wp_aw (S := fun _ => false) (by decide) 200 _ _ _ _ _ _ ?_
    simp (disch := first | exact rfl | decide | omega) only [u_94_0, u_94_1, u_94_4, u_94_5, u_94_6, u_94_9, u_94_10, u_94_12, u_94_15, u_94_16, u_94_17, u_94_18, u_94_21, wp_stop, lget, lput1, lput2, kil, hget, hset, vget, vset, fget, fgetC, fput, fputC, iget, igetC, jget, jgetC, qget, qgetC, alen, lenC, oI, oJ, oF, oA, oV, oH, oInc, oIld, oJld, oQld, oR, oLen, oIst, oBst, oJst, oQst, ciOf, rcv, oCp, cat1, cond_true, cond_false, Bool.and_self, Bool.and_true, Bool.true_and, Bool.or_true, Bool.true_or, Bool.or_false, Bool.false_or, Bool.not_false, Bool.not_true, ↓reduceIte, Nat.reduceBEq, Nat.reduceEqDiff, beq_self_eq_true, true_and, and_true, eq_self_iff_true, Nat.reduceAdd, Nat.blt, Nat.ble, z_le, z_lt, z_eq, z_cl, z_add, z_sub, z_mul, z_in, z_lt0, z_ofN, z_m1, z_ltm1, z_m1lt, z_eqm1, z_m1eq, z_m1le, z_lem1, z_beq, nI_0_1, nI_m1lt0, nI_0lem1, not_false_eq_true, not_true_eq_false, forall_const, false_implies, true_implies, implies_true, false_and, and_false, mrg, renc, tra, trv, sg, List.map_cons, List.map_nil, Option.map_some, Option.map_none, Option.toList_some, Option.toList_none, List.cons_append, List.nil_append, List.length_cons, List.length_nil, eL, mL_94, jH, jF, q, q2]
    refine CAL.dir (hrb) (by rw [ggd]; omega) (by show _ ≤ gC G; omega) (by show _ ≤ gS G; omega) (Nat.le_of_ble_eq_true rfl) (by rw [ggn]; exact Nat.le_of_ble_eq_true rfl) rfl rfl ?_
    rintro _ _ ⟨rfl, rfl⟩
    simp (disch := first | exact rfl | decide | omega) only [u_94_0, u_94_1, u_94_4, u_94_5, u_94_6, u_94_9, u_94_10, u_94_12, u_94_15, u_94_16, u_94_17, u_94_18, u_94_21, wp_stop, lget, lput1, lput2, kil, hget, hset, vget, vset, fget, fgetC, fput, fputC, iget, igetC, jget, jgetC, qget, qgetC, alen, lenC, oI, oJ, oF, oA, oV, oH, oInc, oIld, oJld, oQld, oR, oLen, oIst, oBst, oJst, oQst, ciOf, rcv, oCp, cat1, cond_true, cond_false, Bool.and_self, Bool.and_true, Bool.true_and, Bool.or_true, Bool.true_or, Bool.or_false, Bool.false_or, Bool.not_false, Bool.not_true, ↓reduceIte, Nat.reduceBEq, Nat.reduceEqDiff, beq_self_eq_true, true_and, and_true, eq_self_iff_true, Nat.reduceAdd, Nat.blt, Nat.ble, z_le, z_lt, z_eq, z_cl, z_add, z_sub, z_mul, z_in, z_lt0, z_ofN, z_m1, z_ltm1, z_m1lt, z_eqm1, z_m1eq, z_m1le, z_lem1, z_beq, nI_0_1, nI_m1lt0, nI_0lem1, not_false_eq_true, not_true_eq_false, forall_const, false_implies, true_implies, implies_true, false_and, and_false, mrg, renc, tra, trv, sg, List.map_cons, List.map_nil, Option.map_some, Option.map_none, Option.toList_some, Option.toList_none, List.cons_append, List.nil_append, List.length_cons, List.length_nil]
    exact hret
set_option maxRecDepth 100000 in
theorem c_stepsBad (d : Nat) (x : Int32) (hx : x < nI 0 ∨ nI 8 ≤ x) : aSp (d + 1) 92 [.ref 0, .int x] (jH J PM) jv 0 0 (fun r h' => r = some (.int (-2)) ∧ h' = jH (rfB J) PM) := by
  refine sp_of (by decide) (Nat.le_of_ble_eq_true rfl) ?_
  generalize hG : ((d + 1, _, jv, _, _, _) : aG) = G
  have ggd : gD G = d + 1 := by subst hG; rfl
  have ggn : gN G = 193 := by subst hG; exact jH_len _ _
  have ggm : gM G = jv := by subst hG; rfl
  have ggc : gC G = 0 := by subst hG; rfl
  have ggs : gS G = 0 := by subst hG; rfl
  have hret : RET G (some (.int (-2))) (jH (rfB J) PM) 0 0 := by
    subst hG
    exact RET.id ⟨rfl, rfl⟩ (Nat.le_refl _) (Nat.le_refl _)
  clear hG
  have hrb := J_refBad d J PM
  by_cases q : x < nI 0
  · refine wp_aw (S := fun _ => false) (by decide) 200 _ _ _ _ _ _ ?_
    simp (disch := first | exact rfl | decide | omega) only [u_92_0, u_92_1, u_92_4, u_92_5, u_92_7, u_92_10, u_92_11, u_92_13, u_92_16, u_92_17, u_92_18, u_92_19, u_92_22, u_92_23, u_92_24, u_92_25, u_92_26, u_92_29, u_92_30, u_92_32, u_92_35, u_92_36, u_92_37, u_92_40, u_92_43, u_92_45, u_92_48, u_92_49, u_92_51, u_92_54, u_92_55, u_92_56, u_92_59, u_92_60, u_92_63, u_92_66, u_92_67, u_92_70, u_92_71, u_92_74, u_92_75, u_92_76, u_92_79, wp_stop, lget, lput1, lput2, kil, hget, hset, vget, vset, fget, fgetC, fput, fputC, iget, igetC, jget, jgetC, qget, qgetC, alen, lenC, oI, oJ, oF, oA, oV, oH, oInc, oIld, oJld, oQld, oR, oLen, oIst, oBst, oJst, oQst, ciOf, rcv, oCp, cat1, cond_true, cond_false, Bool.and_self, Bool.and_true, Bool.true_and, Bool.or_true, Bool.true_or, Bool.or_false, Bool.false_or, Bool.not_false, Bool.not_true, ↓reduceIte, Nat.reduceBEq, Nat.reduceEqDiff, beq_self_eq_true, true_and, and_true, eq_self_iff_true, Nat.reduceAdd, Nat.blt, Nat.ble, z_le, z_lt, z_eq, z_cl, z_add, z_sub, z_mul, z_in, z_lt0, z_ofN, z_m1, z_ltm1, z_m1lt, z_eqm1, z_m1eq, z_m1le, z_lem1, z_beq, nI_0_1, nI_m1lt0, nI_0lem1, not_false_eq_true, not_true_eq_false, forall_const, false_implies, true_implies, implies_true, false_and, and_false, mrg, renc, tra, trv, sg, List.map_cons, List.map_nil, Option.map_some, Option.map_none, Option.toList_some, Option.toList_none, List.cons_append, List.nil_append, List.length_cons, List.length_nil, eL, mL_92, jH, jF, q]
    refine CAL.dir (hrb) (by rw [ggd]; omega) (by show _ ≤ gC G; omega) (by show _ ≤ gS G; omega) (Nat.le_of_ble_eq_true rfl) (by rw [ggn]; exact Nat.le_of_ble_eq_true rfl) rfl rfl ?_
    rintro _ _ ⟨rfl, rfl⟩
    simp (disch := first | exact rfl | decide | omega) only [u_92_0, u_92_1, u_92_4, u_92_5, u_92_7, u_92_10, u_92_11, u_92_13, u_92_16, u_92_17, u_92_18, u_92_19, u_92_22, u_92_23, u_92_24, u_92_25, u_92_26, u_92_29, u_92_30, u_92_32, u_92_35, u_92_36, u_92_37, u_92_40, u_92_43, u_92_45, u_92_48, u_92_49, u_92_51, u_92_54, u_92_55, u_92_56, u_92_59, u_92_60, u_92_63, u_92_66, u_92_67, u_92_70, u_92_71, u_92_74, u_92_75, u_92_76, u_92_79, wp_stop, lget, lput1, lput2, kil, hget, hset, vget, vset, fget, fgetC, fput, fputC, iget, igetC, jget, jgetC, qget, qgetC, alen, lenC, oI, oJ, oF, oA, oV, oH, oInc, oIld, oJld, oQld, oR, oLen, oIst, oBst, oJst, oQst, ciOf, rcv, oCp, cat1, cond_true, cond_false, Bool.and_self, Bool.and_true, Bool.true_and, Bool.or_true, Bool.true_or, Bool.or_false, Bool.false_or, Bool.not_false, Bool.not_true, ↓reduceIte, Nat.reduceBEq, Nat.reduceEqDiff, beq_self_eq_true, true_and, and_true, eq_self_iff_true, Nat.reduceAdd, Nat.blt, Nat.ble, z_le, z_lt, z_eq, z_cl, z_add, z_sub, z_mul, z_in, z_lt0, z_ofN, z_m1, z_ltm1, z_m1lt, z_eqm1, z_m1eq, z_m1le, z_lem1, z_beq, nI_0_1, nI_m1lt0, nI_0lem1, not_false_eq_true, not_true_eq_false, forall_const, false_implies, true_implies, implies_true, false_and, and_false, mrg, renc, tra, trv, sg, List.map_cons, List.map_nil, Option.map_some, Option.map_none, Option.toList_some, Option.toList_none, List.cons_append, List.nil_append, List.length_cons, List.length_nil]
    exact hret
  · have q2 : ¬ x < nI 8 := fun z => absurd (hx.resolve_left q) (Int32.not_le.mpr z)
    refine wp_aw (S := fun _ => false) (by decide) 200 _ _ _ _ _ _ ?_
    simp (disch := first | exact rfl | decide | omega) only [u_92_0, u_92_1, u_92_4, u_92_5, u_92_7, u_92_10, u_92_11, u_92_13, u_92_16, u_92_17, u_92_18, u_92_19, u_92_22, u_92_23, u_92_24, u_92_25, u_92_26, u_92_29, u_92_30, u_92_32, u_92_35, u_92_36, u_92_37, u_92_40, u_92_43, u_92_45, u_92_48, u_92_49, u_92_51, u_92_54, u_92_55, u_92_56, u_92_59, u_92_60, u_92_63, u_92_66, u_92_67, u_92_70, u_92_71, u_92_74, u_92_75, u_92_76, u_92_79, wp_stop, lget, lput1, lput2, kil, hget, hset, vget, vset, fget, fgetC, fput, fputC, iget, igetC, jget, jgetC, qget, qgetC, alen, lenC, oI, oJ, oF, oA, oV, oH, oInc, oIld, oJld, oQld, oR, oLen, oIst, oBst, oJst, oQst, ciOf, rcv, oCp, cat1, cond_true, cond_false, Bool.and_self, Bool.and_true, Bool.true_and, Bool.or_true, Bool.true_or, Bool.or_false, Bool.false_or, Bool.not_false, Bool.not_true, ↓reduceIte, Nat.reduceBEq, Nat.reduceEqDiff, beq_self_eq_true, true_and, and_true, eq_self_iff_true, Nat.reduceAdd, Nat.blt, Nat.ble, z_le, z_lt, z_eq, z_cl, z_add, z_sub, z_mul, z_in, z_lt0, z_ofN, z_m1, z_ltm1, z_m1lt, z_eqm1, z_m1eq, z_m1le, z_lem1, z_beq, nI_0_1, nI_m1lt0, nI_0lem1, not_false_eq_true, not_true_eq_false, forall_const, false_implies, true_implies, implies_true, false_and, and_false, mrg, renc, tra, trv, sg, List.map_cons, List.map_nil, Option.map_some, Option.map_none, Option.toList_some, Option.toList_none, List.cons_append, List.nil_append, List.length_cons, List.length_nil, eL, mL_92, jH, jF, q, q2]
    refine CAL.dir (hrb) (by rw [ggd]; omega) (by show _ ≤ gC G; omega) (by show _ ≤ gS G; omega) (Nat.le_of_ble_eq_true rfl) (by rw [ggn]; exact Nat.le_of_ble_eq_true rfl) rfl rfl ?_
    rintro _ _ ⟨rfl, rfl⟩
    simp (disch := first | exact rfl | decide | omega) only [u_92_0, u_92_1, u_92_4, u_92_5, u_92_7, u_92_10, u_92_11, u_92_13, u_92_16, u_92_17, u_92_18, u_92_19, u_92_22, u_92_23, u_92_24, u_92_25, u_92_26, u_92_29, u_92_30, u_92_32, u_92_35, u_92_36, u_92_37, u_92_40, u_92_43, u_92_45, u_92_48, u_92_49, u_92_51, u_92_54, u_92_55, u_92_56, u_92_59, u_92_60, u_92_63, u_92_66, u_92_67, u_92_70, u_92_71, u_92_74, u_92_75, u_92_76, u_92_79, wp_stop, lget, lput1, lput2, kil, hget, hset, vget, vset, fget, fgetC, fput, fputC, iget, igetC, jget, jgetC, qget, qgetC, alen, lenC, oI, oJ, oF, oA, oV, oH, oInc, oIld, oJld, oQld, oR, oLen, oIst, oBst, oJst, oQst, ciOf, rcv, oCp, cat1, cond_true, cond_false, Bool.and_self, Bool.and_true, Bool.true_and, Bool.or_true, Bool.true_or, Bool.or_false, Bool.false_or, Bool.not_false, Bool.not_true, ↓reduceIte, Nat.reduceBEq, Nat.reduceEqDiff, beq_self_eq_true, true_and, and_true, eq_self_iff_true, Nat.reduceAdd, Nat.blt, Nat.ble, z_le, z_lt, z_eq, z_cl, z_add, z_sub, z_mul, z_in, z_lt0, z_ofN, z_m1, z_ltm1, z_m1lt, z_eqm1, z_m1eq, z_m1le, z_lem1, z_beq, nI_0_1, nI_m1lt0, nI_0lem1, not_false_eq_true, not_true_eq_false, forall_const, false_implies, true_implies, implies_true, false_and, and_false, mrg, renc, tra, trv, sg, List.map_cons, List.map_nil, Option.map_some, Option.map_none, Option.toList_some, Option.toList_none, List.cons_append, List.nil_append, List.length_cons, List.length_nil]
    exact hret
end JB
set_option maxRecDepth 100000 in
theorem c_now (d w o : Nat) (hw : w < 4) (J : jS) (PM : Nat → PS × MS) (ν : Nat → aN) (row : List Nat) (hR : rwJ J.2.2.1 o row) (hy : jY PM ν) (hL : rowL (ν o).1 1 row) (h14 : w < 2 → (rowA (ν o) 1 row).1.2.1.1.length ≤ 2 ^ 14) :
    aSp (d + 10) 94 [.ref 0, .int (nI w)] (jH J PM) jv (fY yC (orV ν o row w) - fY yC ν) (fY yS (orV ν o row w) - fY yS ν) (fun r h' => r = some (.int (orA (ν o).1 o row w)) ∧ ∃ PM', h' = jH J PM' ∧ jY PM' (orV ν o row w)) := by
  have hof := c_ofRow d w o hw J PM ν row hR hy hL h14
  generalize orV ν o row w = ν' at *
  generalize orA (ν o).1 o row w = a at *
  refine sp_of (by decide) (Nat.le_of_ble_eq_true rfl) ?_
  generalize hG : ((d + 10, _, jv, _, _, _) : aG) = G
  have ggd : gD G = d + 10 := by subst hG; rfl
  have ggn : gN G = 193 := by subst hG; exact jH_len _ _
  have ggm : gM G = jv := by subst hG; rfl
  have ggc : gC G = fY yC ν' - fY yC ν := by subst hG; rfl
  have ggs : gS G = fY yS ν' - fY yS ν := by subst hG; rfl
  have hret : ∀ PM' k' n', jY PM' ν' → k' ≤ gC G → n' ≤ gS G → RET G (some (.int a)) (jH J PM') k' n' := by
    subst hG
    exact fun PM' k' n' q1 q2 q3 => RET.id ⟨rfl, PM', rfl, q1⟩ q2 q3
  clear hG
  have t1 : ¬ w < 0 := by omega
  have t2 : w ≤ 3 := by omega
  refine wp_aw (S := fun _ => false) (by decide) 200 _ _ _ _ _ _ ?_
  simp (disch := first | exact rfl | decide | omega) only [u_94_0, u_94_1, u_94_4, u_94_5, u_94_6, u_94_9, u_94_10, u_94_12, u_94_15, u_94_16, u_94_17, u_94_18, u_94_21, wp_stop, lget, lput1, lput2, kil, hget, hset, vget, vset, fget, fgetC, fput, fputC, iget, igetC, jget, jgetC, qget, qgetC, alen, lenC, oI, oJ, oF, oA, oV, oH, oInc, oIld, oJld, oQld, oR, oLen, oIst, oBst, oJst, oQst, ciOf, rcv, oCp, cat1, cond_true, cond_false, Bool.and_self, Bool.and_true, Bool.true_and, Bool.or_true, Bool.true_or, Bool.or_false, Bool.false_or, Bool.not_false, Bool.not_true, ↓reduceIte, Nat.reduceBEq, Nat.reduceEqDiff, beq_self_eq_true, true_and, and_true, eq_self_iff_true, Nat.reduceAdd, Nat.blt, Nat.ble, z_le, z_lt, z_eq, z_cl, z_add, z_sub, z_mul, z_in, z_lt0, z_ofN, z_m1, z_ltm1, z_m1lt, z_eqm1, z_m1eq, z_m1le, z_lem1, z_beq, nI_0_1, nI_m1lt0, nI_0lem1, not_false_eq_true, not_true_eq_false, forall_const, false_implies, true_implies, implies_true, false_and, and_false, mrg, renc, tra, trv, sg, List.map_cons, List.map_nil, Option.map_some, Option.map_none, Option.toList_some, Option.toList_none, List.cons_append, List.nil_append, List.length_cons, List.length_nil, eL, mL_94, jH, jF, t1, t2]
  refine CAL.dirM hof (by rw [ggd]; omega) (by show _ ≤ gC G; rw [ggc]; omega) (by show _ ≤ gS G; rw [ggs]; omega) (Nat.le_of_ble_eq_true rfl) (by rw [ggn]; exact Nat.le_of_ble_eq_true rfl) (fun j _ z => by rw [← ggm]; exact z) rfl rfl ?_
  rintro _ _ ⟨rfl, PM', rfl, hy'⟩
  have hf := hret PM' (0 + (fY yC ν' - fY yC ν)) (0 + (fY yS ν' - fY yS ν)) hy' (by rw [ggc]; omega) (by rw [ggs]; omega)
  simp (disch := first | exact rfl | decide | omega) only [u_94_0, u_94_1, u_94_4, u_94_5, u_94_6, u_94_9, u_94_10, u_94_12, u_94_15, u_94_16, u_94_17, u_94_18, u_94_21, wp_stop, lget, lput1, lput2, kil, hget, hset, vget, vset, fget, fgetC, fput, fputC, iget, igetC, jget, jgetC, qget, qgetC, alen, lenC, oI, oJ, oF, oA, oV, oH, oInc, oIld, oJld, oQld, oR, oLen, oIst, oBst, oJst, oQst, ciOf, rcv, oCp, cat1, cond_true, cond_false, Bool.and_self, Bool.and_true, Bool.true_and, Bool.or_true, Bool.true_or, Bool.or_false, Bool.false_or, Bool.not_false, Bool.not_true, ↓reduceIte, Nat.reduceBEq, Nat.reduceEqDiff, beq_self_eq_true, true_and, and_true, eq_self_iff_true, Nat.reduceAdd, Nat.blt, Nat.ble, z_le, z_lt, z_eq, z_cl, z_add, z_sub, z_mul, z_in, z_lt0, z_ofN, z_m1, z_ltm1, z_m1lt, z_eqm1, z_m1eq, z_m1le, z_lem1, z_beq, nI_0_1, nI_m1lt0, nI_0lem1, not_false_eq_true, not_true_eq_false, forall_const, false_implies, true_implies, implies_true, false_and, and_false, mrg, renc, tra, trv, sg, List.map_cons, List.map_nil, Option.map_some, Option.map_none, Option.toList_some, Option.toList_none, List.cons_append, List.nil_append, List.length_cons, List.length_nil]
  exact hf
theorem upN_id (ν : Nat → aN) (x : Nat) : upN ν x (ν x) = ν := by
  funext y
  unfold upN
  by_cases q : y = x
  · rw [if_pos q, q]
  · rw [if_neg q]
set_option maxRecDepth 100000 in
theorem c_begins (d x c w : Nat) (hx : x < 9) (J : jS) (PM : Nat → PS × MS) (ν : Nat → aN) (hy : jY PM ν) (hc : c ≤ 4) (hw : w < 4) (e1 : J.2.2.2.1.1 = nI c) (e2 : J.2.2.2.1.2.1 = nI w) :
    aSp (d + 10) 89 [.ref 0, .int (nI x)] (jH J PM) jv 0 0
      (fun r h' => r = some (.int (orA (ν x).1 x [] 0)) ∧ ∃ v' PM', h' = jH (J.1, J.2.1, (J.2.2.1.1, J.2.2.1.2.1, nI 0, nI x), (nI (min (c + 1) 4), nI (nxt4 w), updS J.2.2.2.1.2.2 (nxt4 w) v'), J.2.2.2.2) PM' ∧ SQ v' J.2.2.1 ∧ jY PM' ν) := by
  have hV : orV ν x [] 0 = ν := by
    show upN ν x (ν x) = ν
    exact upN_id ν x
  have hk := J_keep d c w J PM hc hw e1 e2
  have hof : ∀ v', aSp (d + 9) 90 [.ref 0, .int (nI 0)] (jH (J.1, J.2.1, (J.2.2.1.1, J.2.2.1.2.1, nI 0, nI x), (nI (min (c + 1) 4), nI (nxt4 w), updS J.2.2.2.1.2.2 (nxt4 w) v'), J.2.2.2.2) PM) jv 0 0 (fun r h' => r = some (.int (orA (ν x).1 x [] 0)) ∧ ∃ PM', h' = jH (J.1, J.2.1, (J.2.2.1.1, J.2.2.1.2.1, nI 0, nI x), (nI (min (c + 1) 4), nI (nxt4 w), updS J.2.2.2.1.2.2 (nxt4 w) v'), J.2.2.2.2) PM' ∧ jY PM' ν) := by
    intro v'
    have h := c_ofRow d 0 x (by decide) (J.1, J.2.1, (J.2.2.1.1, J.2.2.1.2.1, nI 0, nI x), (nI (min (c + 1) 4), nI (nxt4 w), updS J.2.2.2.1.2.2 (nxt4 w) v'), J.2.2.2.2) PM ν [] ⟨hx, by decide, rfl, rfl, fun i y hi => absurd hi (by simp)⟩ hy trivial (fun _ => (y_ok (hy x hx)).2.2.2.2)
    rw [hV, Nat.sub_self, Nat.sub_self] at h
    exact h
  generalize orA (ν x).1 x [] 0 = a at *
  refine sp_of (by decide) (Nat.le_of_ble_eq_true rfl) ?_
  generalize hG : ((d + 10, _, jv, _, _, _) : aG) = G
  have ggd : gD G = d + 10 := by subst hG; rfl
  have ggn : gN G = 193 := by subst hG; exact jH_len _ _
  have ggm : gM G = jv := by subst hG; rfl
  have ggc : gC G = 0 := by subst hG; rfl
  have ggs : gS G = 0 := by subst hG; rfl
  have hret : ∀ v' PM', SQ v' J.2.2.1 → jY PM' ν → RET G (some (.int a)) (jH (J.1, J.2.1, (J.2.2.1.1, J.2.2.1.2.1, nI 0, nI x), (nI (min (c + 1) 4), nI (nxt4 w), updS J.2.2.2.1.2.2 (nxt4 w) v'), J.2.2.2.2) PM') 0 0 := by
    subst hG
    exact fun v' PM' q1 q2 => RET.id ⟨rfl, v', PM', rfl, q1, q2⟩ (Nat.le_refl _) (Nat.le_refl _)
  clear hG
  refine wp_aw (S := fun _ => false) (by decide) 200 _ _ _ _ _ _ ?_
  simp (disch := first | exact rfl | decide | omega) only [u_89_0, u_89_1, u_89_4, u_89_7, u_89_8, u_89_10, u_89_13, u_89_14, u_89_15, u_89_18, u_89_19, u_89_22, u_89_25, u_89_26, u_89_29, u_89_30, u_89_33, u_89_34, u_89_35, u_89_38, wp_stop, lget, lput1, lput2, kil, hget, hset, vget, vset, fget, fgetC, fput, fputC, iget, igetC, jget, jgetC, qget, qgetC, alen, lenC, oI, oJ, oF, oA, oV, oH, oInc, oIld, oJld, oQld, oR, oLen, oIst, oBst, oJst, oQst, ciOf, rcv, oCp, cat1, cond_true, cond_false, Bool.and_self, Bool.and_true, Bool.true_and, Bool.or_true, Bool.true_or, Bool.or_false, Bool.false_or, Bool.not_false, Bool.not_true, ↓reduceIte, Nat.reduceBEq, Nat.reduceEqDiff, beq_self_eq_true, true_and, and_true, eq_self_iff_true, Nat.reduceAdd, Nat.blt, Nat.ble, z_le, z_lt, z_eq, z_cl, z_add, z_sub, z_mul, z_in, z_lt0, z_ofN, z_m1, z_ltm1, z_m1lt, z_eqm1, z_m1eq, z_m1le, z_lem1, z_beq, nI_0_1, nI_m1lt0, nI_0lem1, not_false_eq_true, not_true_eq_false, forall_const, false_implies, true_implies, implies_true, false_and, and_false, mrg, renc, tra, trv, sg, List.map_cons, List.map_nil, Option.map_some, Option.map_none, Option.toList_some, Option.toList_none, List.cons_append, List.nil_append, List.length_cons, List.length_nil, eL, mL_89, jH, jF]
  refine CAL.dir (c_ownY d x hx _) (by rw [ggd]; omega) (by show _ ≤ gC G; omega) (by show _ ≤ gS G; omega) (Nat.le_of_ble_eq_true rfl) (by rw [ggn]; exact Nat.le_of_ble_eq_true rfl) rfl rfl ?_
  rintro _ _ ⟨rfl, rfl⟩
  simp (disch := first | exact rfl | decide | omega) only [u_89_0, u_89_1, u_89_4, u_89_7, u_89_8, u_89_10, u_89_13, u_89_14, u_89_15, u_89_18, u_89_19, u_89_22, u_89_25, u_89_26, u_89_29, u_89_30, u_89_33, u_89_34, u_89_35, u_89_38, wp_stop, lget, lput1, lput2, kil, hget, hset, vget, vset, fget, fgetC, fput, fputC, iget, igetC, jget, jgetC, qget, qgetC, alen, lenC, oI, oJ, oF, oA, oV, oH, oInc, oIld, oJld, oQld, oR, oLen, oIst, oBst, oJst, oQst, ciOf, rcv, oCp, cat1, cond_true, cond_false, Bool.and_self, Bool.and_true, Bool.true_and, Bool.or_true, Bool.true_or, Bool.or_false, Bool.false_or, Bool.not_false, Bool.not_true, ↓reduceIte, Nat.reduceBEq, Nat.reduceEqDiff, beq_self_eq_true, true_and, and_true, eq_self_iff_true, Nat.reduceAdd, Nat.blt, Nat.ble, z_le, z_lt, z_eq, z_cl, z_add, z_sub, z_mul, z_in, z_lt0, z_ofN, z_m1, z_ltm1, z_m1lt, z_eqm1, z_m1eq, z_m1le, z_lem1, z_beq, nI_0_1, nI_m1lt0, nI_0lem1, not_false_eq_true, not_true_eq_false, forall_const, false_implies, true_implies, implies_true, false_and, and_false, mrg, renc, tra, trv, sg, List.map_cons, List.map_nil, Option.map_some, Option.map_none, Option.toList_some, Option.toList_none, List.cons_append, List.nil_append, List.length_cons, List.length_nil, n10]
  refine CAL.dir (hk) (by rw [ggd]; omega) (by show _ ≤ gC G; omega) (by show _ ≤ gS G; omega) (Nat.le_of_ble_eq_true rfl) (by rw [ggn]; exact Nat.le_of_ble_eq_true rfl) rfl rfl ?_
  rintro _ _ ⟨rfl, v', rfl, hq⟩
  have hf := hret v'
  clear hret
  simp (disch := first | exact rfl | decide | omega) only [u_89_0, u_89_1, u_89_4, u_89_7, u_89_8, u_89_10, u_89_13, u_89_14, u_89_15, u_89_18, u_89_19, u_89_22, u_89_25, u_89_26, u_89_29, u_89_30, u_89_33, u_89_34, u_89_35, u_89_38, wp_stop, lget, lput1, lput2, kil, hget, hset, vget, vset, fget, fgetC, fput, fputC, iget, igetC, jget, jgetC, qget, qgetC, alen, lenC, oI, oJ, oF, oA, oV, oH, oInc, oIld, oJld, oQld, oR, oLen, oIst, oBst, oJst, oQst, ciOf, rcv, oCp, cat1, cond_true, cond_false, Bool.and_self, Bool.and_true, Bool.true_and, Bool.or_true, Bool.true_or, Bool.or_false, Bool.false_or, Bool.not_false, Bool.not_true, ↓reduceIte, Nat.reduceBEq, Nat.reduceEqDiff, beq_self_eq_true, true_and, and_true, eq_self_iff_true, Nat.reduceAdd, Nat.blt, Nat.ble, z_le, z_lt, z_eq, z_cl, z_add, z_sub, z_mul, z_in, z_lt0, z_ofN, z_m1, z_ltm1, z_m1lt, z_eqm1, z_m1eq, z_m1le, z_lem1, z_beq, nI_0_1, nI_m1lt0, nI_0lem1, not_false_eq_true, not_true_eq_false, forall_const, false_implies, true_implies, implies_true, false_and, and_false, mrg, renc, tra, trv, sg, List.map_cons, List.map_nil, Option.map_some, Option.map_none, Option.toList_some, Option.toList_none, List.cons_append, List.nil_append, List.length_cons, List.length_nil, jH, jF]
  refine CAL.dir (J_emptyRow d (J.1, J.2.1, J.2.2.1, (nI (min (c + 1) 4), nI (nxt4 w), updS J.2.2.2.1.2.2 (nxt4 w) v'), J.2.2.2.2) PM (nI x)) (by rw [ggd]; omega) (by show _ ≤ gC G; omega) (by show _ ≤ gS G; omega) (Nat.le_of_ble_eq_true rfl) (by rw [ggn]; exact Nat.le_of_ble_eq_true rfl) rfl rfl ?_
  rintro _ _ ⟨rfl, rfl⟩
  simp (disch := first | exact rfl | decide | omega) only [u_89_0, u_89_1, u_89_4, u_89_7, u_89_8, u_89_10, u_89_13, u_89_14, u_89_15, u_89_18, u_89_19, u_89_22, u_89_25, u_89_26, u_89_29, u_89_30, u_89_33, u_89_34, u_89_35, u_89_38, wp_stop, lget, lput1, lput2, kil, hget, hset, vget, vset, fget, fgetC, fput, fputC, iget, igetC, jget, jgetC, qget, qgetC, alen, lenC, oI, oJ, oF, oA, oV, oH, oInc, oIld, oJld, oQld, oR, oLen, oIst, oBst, oJst, oQst, ciOf, rcv, oCp, cat1, cond_true, cond_false, Bool.and_self, Bool.and_true, Bool.true_and, Bool.or_true, Bool.true_or, Bool.or_false, Bool.false_or, Bool.not_false, Bool.not_true, ↓reduceIte, Nat.reduceBEq, Nat.reduceEqDiff, beq_self_eq_true, true_and, and_true, eq_self_iff_true, Nat.reduceAdd, Nat.blt, Nat.ble, z_le, z_lt, z_eq, z_cl, z_add, z_sub, z_mul, z_in, z_lt0, z_ofN, z_m1, z_ltm1, z_m1lt, z_eqm1, z_m1eq, z_m1le, z_lem1, z_beq, nI_0_1, nI_m1lt0, nI_0lem1, not_false_eq_true, not_true_eq_false, forall_const, false_implies, true_implies, implies_true, false_and, and_false, mrg, renc, tra, trv, sg, List.map_cons, List.map_nil, Option.map_some, Option.map_none, Option.toList_some, Option.toList_none, List.cons_append, List.nil_append, List.length_cons, List.length_nil, jH, jF]
  refine CAL.dirM (hof v') (by rw [ggd]; omega) (by show _ ≤ gC G; omega) (by show _ ≤ gS G; omega) (Nat.le_of_ble_eq_true rfl) (by rw [ggn]; exact Nat.le_of_ble_eq_true rfl) (fun j _ z => by rw [← ggm]; exact z) rfl rfl ?_
  rintro _ _ ⟨rfl, PM', rfl, hy'⟩
  have hf2 := hf PM' hq hy'
  simp (disch := first | exact rfl | decide | omega) only [u_89_0, u_89_1, u_89_4, u_89_7, u_89_8, u_89_10, u_89_13, u_89_14, u_89_15, u_89_18, u_89_19, u_89_22, u_89_25, u_89_26, u_89_29, u_89_30, u_89_33, u_89_34, u_89_35, u_89_38, wp_stop, lget, lput1, lput2, kil, hget, hset, vget, vset, fget, fgetC, fput, fputC, iget, igetC, jget, jgetC, qget, qgetC, alen, lenC, oI, oJ, oF, oA, oV, oH, oInc, oIld, oJld, oQld, oR, oLen, oIst, oBst, oJst, oQst, ciOf, rcv, oCp, cat1, cond_true, cond_false, Bool.and_self, Bool.and_true, Bool.true_and, Bool.or_true, Bool.true_or, Bool.or_false, Bool.false_or, Bool.not_false, Bool.not_true, ↓reduceIte, Nat.reduceBEq, Nat.reduceEqDiff, beq_self_eq_true, true_and, and_true, eq_self_iff_true, Nat.reduceAdd, Nat.blt, Nat.ble, z_le, z_lt, z_eq, z_cl, z_add, z_sub, z_mul, z_in, z_lt0, z_ofN, z_m1, z_ltm1, z_m1lt, z_eqm1, z_m1eq, z_m1le, z_lem1, z_beq, nI_0_1, nI_m1lt0, nI_0lem1, not_false_eq_true, not_true_eq_false, forall_const, false_implies, true_implies, implies_true, false_and, and_false, mrg, renc, tra, trv, sg, List.map_cons, List.map_nil, Option.map_some, Option.map_none, Option.toList_some, Option.toList_none, List.cons_append, List.nil_append, List.length_cons, List.length_nil]
  exact hf2
theorem due1 {v x : Nat} (hx : x < 8) : (nI (v &&& 255) &&& nI 1 <<< (nI x &&& 31) = nI 0) ↔ v.testBit x = false := by
  rw [← fa_and]
  exact due0 hx
theorem rowL_app {p : Int64} {x : Nat} (hx : x < 8) : ∀ {row : List Nat} {m : Nat}, rowL p m row → (trM (dT p) (rowM p m row)).testBit x = true → rowL p m (row ++ [x])
  | [], _, _, h2 => ⟨hx, h2, trivial⟩
  | _ :: _, _, h, h2 => ⟨h.1, h.2.1, rowL_app hx h.2.2 h2⟩
theorem orA_0 (p : Int64) (o : Nat) (row : List Nat) : orA p o row 0 = nI (trM (dT p) (rowM p 1 row) &&& 255) := rfl
theorem orV_1 (ν : Nat → aN) (o : Nat) (row : List Nat) (w x : Nat) : (orV ν o row w x).1 = (ν x).1 := by
  unfold orV
  by_cases q : w < 2
  · rw [if_pos q]
    unfold upN
    by_cases q2 : x = o
    · rw [if_pos q2, rowA_1, q2]
    · rw [if_neg q2]
  · rw [if_neg q]
set_option maxRecDepth 100000 in
theorem c_stepsNo (d x o : Nat) (hx : x < 8) (J : jS) (PM : Nat → PS × MS) (ν : Nat → aN) (row : List Nat) (hR : rwJ J.2.2.1 o row) (hy : jY PM ν) (hL : rowL (ν o).1 1 row) (h14 : (rowA (ν o) 1 row).1.2.1.1.length ≤ 2 ^ 14) (hdue : (trM (dT (ν o).1) (rowM (ν o).1 1 row)).testBit x = false) :
    aSp (d + 10) 92 [.ref 0, .int (nI x)] (jH J PM) jv (fY yC (orV ν o row 0) - fY yC ν) (fY yS (orV ν o row 0) - fY yS ν) (fun r h' => r = some (.int (-3)) ∧ ∃ PM', h' = jH (rfN J) PM' ∧ jY PM' (orV ν o row 0)) := by
  have hof := c_ofRow d 0 o (by decide) J PM ν row hR hy hL (fun _ => h14)
  rw [orA_0] at hof
  generalize orV ν o row 0 = ν' at *
  have t3 := (due1 (v := trM (dT (ν o).1) (rowM (ν o).1 1 row)) hx).mpr hdue
  generalize trM (dT (ν o).1) (rowM (ν o).1 1 row) &&& 255 = a at *
  refine sp_of (by decide) (Nat.le_of_ble_eq_true rfl) ?_
  generalize hG : ((d + 10, _, jv, _, _, _) : aG) = G
  have ggd : gD G = d + 10 := by subst hG; rfl
  have ggn : gN G = 193 := by subst hG; exact jH_len _ _
  have ggm : gM G = jv := by subst hG; rfl
  have ggc : gC G = fY yC ν' - fY yC ν := by subst hG; rfl
  have ggs : gS G = fY yS ν' - fY yS ν := by subst hG; rfl
  have hret : ∀ PM' k' n', jY PM' ν' → k' ≤ gC G → n' ≤ gS G → RET G (some (.int (-3))) (jH (rfN J) PM') k' n' := by
    subst hG
    exact fun PM' k' n' q1 q2 q3 => RET.id ⟨rfl, PM', rfl, q1⟩ q2 q3
  clear hG
  have t1 : ¬ x < 0 := by omega
  have t2 : x < 8 := hx
  refine wp_aw (S := fun _ => false) (by decide) 200 _ _ _ _ _ _ ?_
  simp (disch := first | exact rfl | decide | omega) only [u_92_0, u_92_1, u_92_4, u_92_5, u_92_7, u_92_10, u_92_11, u_92_13, u_92_16, u_92_17, u_92_18, u_92_19, u_92_22, u_92_23, u_92_24, u_92_25, u_92_26, u_92_29, u_92_30, u_92_32, u_92_35, u_92_36, u_92_37, u_92_40, u_92_43, u_92_45, u_92_48, u_92_49, u_92_51, u_92_54, u_92_55, u_92_56, u_92_59, u_92_60, u_92_63, u_92_66, u_92_67, u_92_70, u_92_71, u_92_74, u_92_75, u_92_76, u_92_79, wp_stop, lget, lput1, lput2, kil, hget, hset, vget, vset, fget, fgetC, fput, fputC, iget, igetC, jget, jgetC, qget, qgetC, alen, lenC, oI, oJ, oF, oA, oV, oH, oInc, oIld, oJld, oQld, oR, oLen, oIst, oBst, oJst, oQst, ciOf, rcv, oCp, cat1, cond_true, cond_false, Bool.and_self, Bool.and_true, Bool.true_and, Bool.or_true, Bool.true_or, Bool.or_false, Bool.false_or, Bool.not_false, Bool.not_true, ↓reduceIte, Nat.reduceBEq, Nat.reduceEqDiff, beq_self_eq_true, true_and, and_true, eq_self_iff_true, Nat.reduceAdd, Nat.blt, Nat.ble, z_le, z_lt, z_eq, z_cl, z_add, z_sub, z_mul, z_in, z_lt0, z_ofN, z_m1, z_ltm1, z_m1lt, z_eqm1, z_m1eq, z_m1le, z_lem1, z_beq, nI_0_1, nI_m1lt0, nI_0lem1, not_false_eq_true, not_true_eq_false, forall_const, false_implies, true_implies, implies_true, false_and, and_false, mrg, renc, tra, trv, sg, List.map_cons, List.map_nil, Option.map_some, Option.map_none, Option.toList_some, Option.toList_none, List.cons_append, List.nil_append, List.length_cons, List.length_nil, eL, mL_92, jH, jF, t1, t2]
  refine CAL.dirM hof (by rw [ggd]; omega) (by show _ ≤ gC G; rw [ggc]; omega) (by show _ ≤ gS G; rw [ggs]; omega) (Nat.le_of_ble_eq_true rfl) (by rw [ggn]; exact Nat.le_of_ble_eq_true rfl) (fun j _ z => by rw [← ggm]; exact z) rfl rfl ?_
  rintro _ _ ⟨rfl, PM', rfl, hy'⟩
  have hf := hret PM' (0 + (fY yC ν' - fY yC ν) + 0) (0 + (fY yS ν' - fY yS ν) + 0) hy' (by rw [ggc]; omega) (by rw [ggs]; omega)
  simp (disch := first | exact rfl | decide | omega) only [u_92_0, u_92_1, u_92_4, u_92_5, u_92_7, u_92_10, u_92_11, u_92_13, u_92_16, u_92_17, u_92_18, u_92_19, u_92_22, u_92_23, u_92_24, u_92_25, u_92_26, u_92_29, u_92_30, u_92_32, u_92_35, u_92_36, u_92_37, u_92_40, u_92_43, u_92_45, u_92_48, u_92_49, u_92_51, u_92_54, u_92_55, u_92_56, u_92_59, u_92_60, u_92_63, u_92_66, u_92_67, u_92_70, u_92_71, u_92_74, u_92_75, u_92_76, u_92_79, wp_stop, lget, lput1, lput2, kil, hget, hset, vget, vset, fget, fgetC, fput, fputC, iget, igetC, jget, jgetC, qget, qgetC, alen, lenC, oI, oJ, oF, oA, oV, oH, oInc, oIld, oJld, oQld, oR, oLen, oIst, oBst, oJst, oQst, ciOf, rcv, oCp, cat1, cond_true, cond_false, Bool.and_self, Bool.and_true, Bool.true_and, Bool.or_true, Bool.true_or, Bool.or_false, Bool.false_or, Bool.not_false, Bool.not_true, ↓reduceIte, Nat.reduceBEq, Nat.reduceEqDiff, beq_self_eq_true, true_and, and_true, eq_self_iff_true, Nat.reduceAdd, Nat.blt, Nat.ble, z_le, z_lt, z_eq, z_cl, z_add, z_sub, z_mul, z_in, z_lt0, z_ofN, z_m1, z_ltm1, z_m1lt, z_eqm1, z_m1eq, z_m1le, z_lem1, z_beq, nI_0_1, nI_m1lt0, nI_0lem1, not_false_eq_true, not_true_eq_false, forall_const, false_implies, true_implies, implies_true, false_and, and_false, mrg, renc, tra, trv, sg, List.map_cons, List.map_nil, Option.map_some, Option.map_none, Option.toList_some, Option.toList_none, List.cons_append, List.nil_append, List.length_cons, List.length_nil, jH, jF, t3]
  refine CAL.dir (J_refNo d J PM') (by rw [ggd]; omega) (by show _ ≤ gC G; rw [ggc]; omega) (by show _ ≤ gS G; rw [ggs]; omega) (Nat.le_of_ble_eq_true rfl) (by rw [ggn]; exact Nat.le_of_ble_eq_true rfl) rfl rfl ?_
  rintro _ _ ⟨rfl, rfl⟩
  simp (disch := first | exact rfl | decide | omega) only [u_92_0, u_92_1, u_92_4, u_92_5, u_92_7, u_92_10, u_92_11, u_92_13, u_92_16, u_92_17, u_92_18, u_92_19, u_92_22, u_92_23, u_92_24, u_92_25, u_92_26, u_92_29, u_92_30, u_92_32, u_92_35, u_92_36, u_92_37, u_92_40, u_92_43, u_92_45, u_92_48, u_92_49, u_92_51, u_92_54, u_92_55, u_92_56, u_92_59, u_92_60, u_92_63, u_92_66, u_92_67, u_92_70, u_92_71, u_92_74, u_92_75, u_92_76, u_92_79, wp_stop, lget, lput1, lput2, kil, hget, hset, vget, vset, fget, fgetC, fput, fputC, iget, igetC, jget, jgetC, qget, qgetC, alen, lenC, oI, oJ, oF, oA, oV, oH, oInc, oIld, oJld, oQld, oR, oLen, oIst, oBst, oJst, oQst, ciOf, rcv, oCp, cat1, cond_true, cond_false, Bool.and_self, Bool.and_true, Bool.true_and, Bool.or_true, Bool.true_or, Bool.or_false, Bool.false_or, Bool.not_false, Bool.not_true, ↓reduceIte, Nat.reduceBEq, Nat.reduceEqDiff, beq_self_eq_true, true_and, and_true, eq_self_iff_true, Nat.reduceAdd, Nat.blt, Nat.ble, z_le, z_lt, z_eq, z_cl, z_add, z_sub, z_mul, z_in, z_lt0, z_ofN, z_m1, z_ltm1, z_m1lt, z_eqm1, z_m1eq, z_m1le, z_lem1, z_beq, nI_0_1, nI_m1lt0, nI_0lem1, not_false_eq_true, not_true_eq_false, forall_const, false_implies, true_implies, implies_true, false_and, and_false, mrg, renc, tra, trv, sg, List.map_cons, List.map_nil, Option.map_some, Option.map_none, Option.toList_some, Option.toList_none, List.cons_append, List.nil_append, List.length_cons, List.length_nil]
  exact hf
set_option maxRecDepth 100000 in
theorem c_stepsFull (d x o : Nat) (hx : x < 8) (J : jS) (PM : Nat → PS × MS) (ν : Nat → aN) (row : List Nat) (hR : rwJ J.2.2.1 o row) (hy : jY PM ν) (hL : rowL (ν o).1 1 row) (h14 : (rowA (ν o) 1 row).1.2.1.1.length ≤ 2 ^ 14) (hdue : (trM (dT (ν o).1) (rowM (ν o).1 1 row)).testBit x = true) (h20 : row.length = 20) :
    aSp (d + 10) 92 [.ref 0, .int (nI x)] (jH J PM) jv (fY yC (orV ν o row 0) - fY yC ν) (fY yS (orV ν o row 0) - fY yS ν) (fun r h' => r = some (.int (-4)) ∧ ∃ PM', h' = jH (rfF J) PM' ∧ jY PM' (orV ν o row 0)) := by
  have hof := c_ofRow d 0 o (by decide) J PM ν row hR hy hL (fun _ => h14)
  rw [orA_0] at hof
  generalize orV ν o row 0 = ν' at *
  have t3 : ¬ (nI (trM (dT (ν o).1) (rowM (ν o).1 1 row) &&& 255) &&& nI 1 <<< (nI x &&& 31) = nI 0) := fun q => by
    have := (due1 (v := trM (dT (ν o).1) (rowM (ν o).1 1 row)) hx).mp q
    rw [hdue] at this
    exact absurd this (by decide)
  generalize trM (dT (ν o).1) (rowM (ν o).1 1 row) &&& 255 = a at *
  have e3 : J.2.2.1.2.2.1 = nI 20 := by rw [← h20]; exact hR.2.2.1
  refine sp_of (by decide) (Nat.le_of_ble_eq_true rfl) ?_
  generalize hG : ((d + 10, _, jv, _, _, _) : aG) = G
  have ggd : gD G = d + 10 := by subst hG; rfl
  have ggn : gN G = 193 := by subst hG; exact jH_len _ _
  have ggm : gM G = jv := by subst hG; rfl
  have ggc : gC G = fY yC ν' - fY yC ν := by subst hG; rfl
  have ggs : gS G = fY yS ν' - fY yS ν := by subst hG; rfl
  have hret : ∀ PM' k' n', jY PM' ν' → k' ≤ gC G → n' ≤ gS G → RET G (some (.int (-4))) (jH (rfF J) PM') k' n' := by
    subst hG
    exact fun PM' k' n' q1 q2 q3 => RET.id ⟨rfl, PM', rfl, q1⟩ q2 q3
  clear hG
  have t1 : ¬ x < 0 := by omega
  have t2 : x < 8 := hx
  refine wp_aw (S := fun _ => false) (by decide) 200 _ _ _ _ _ _ ?_
  simp (disch := first | exact rfl | decide | omega) only [u_92_0, u_92_1, u_92_4, u_92_5, u_92_7, u_92_10, u_92_11, u_92_13, u_92_16, u_92_17, u_92_18, u_92_19, u_92_22, u_92_23, u_92_24, u_92_25, u_92_26, u_92_29, u_92_30, u_92_32, u_92_35, u_92_36, u_92_37, u_92_40, u_92_43, u_92_45, u_92_48, u_92_49, u_92_51, u_92_54, u_92_55, u_92_56, u_92_59, u_92_60, u_92_63, u_92_66, u_92_67, u_92_70, u_92_71, u_92_74, u_92_75, u_92_76, u_92_79, wp_stop, lget, lput1, lput2, kil, hget, hset, vget, vset, fget, fgetC, fput, fputC, iget, igetC, jget, jgetC, qget, qgetC, alen, lenC, oI, oJ, oF, oA, oV, oH, oInc, oIld, oJld, oQld, oR, oLen, oIst, oBst, oJst, oQst, ciOf, rcv, oCp, cat1, cond_true, cond_false, Bool.and_self, Bool.and_true, Bool.true_and, Bool.or_true, Bool.true_or, Bool.or_false, Bool.false_or, Bool.not_false, Bool.not_true, ↓reduceIte, Nat.reduceBEq, Nat.reduceEqDiff, beq_self_eq_true, true_and, and_true, eq_self_iff_true, Nat.reduceAdd, Nat.blt, Nat.ble, z_le, z_lt, z_eq, z_cl, z_add, z_sub, z_mul, z_in, z_lt0, z_ofN, z_m1, z_ltm1, z_m1lt, z_eqm1, z_m1eq, z_m1le, z_lem1, z_beq, nI_0_1, nI_m1lt0, nI_0lem1, not_false_eq_true, not_true_eq_false, forall_const, false_implies, true_implies, implies_true, false_and, and_false, mrg, renc, tra, trv, sg, List.map_cons, List.map_nil, Option.map_some, Option.map_none, Option.toList_some, Option.toList_none, List.cons_append, List.nil_append, List.length_cons, List.length_nil, eL, mL_92, jH, jF, t1, t2]
  refine CAL.dirM hof (by rw [ggd]; omega) (by show _ ≤ gC G; rw [ggc]; omega) (by show _ ≤ gS G; rw [ggs]; omega) (Nat.le_of_ble_eq_true rfl) (by rw [ggn]; exact Nat.le_of_ble_eq_true rfl) (fun j _ z => by rw [← ggm]; exact z) rfl rfl ?_
  rintro _ _ ⟨rfl, PM', rfl, hy'⟩
  have hf := hret PM' (0 + (fY yC ν' - fY yC ν) + 0) (0 + (fY yS ν' - fY yS ν) + 0) hy' (by rw [ggc]; omega) (by rw [ggs]; omega)
  simp (disch := first | exact rfl | decide | omega) only [u_92_0, u_92_1, u_92_4, u_92_5, u_92_7, u_92_10, u_92_11, u_92_13, u_92_16, u_92_17, u_92_18, u_92_19, u_92_22, u_92_23, u_92_24, u_92_25, u_92_26, u_92_29, u_92_30, u_92_32, u_92_35, u_92_36, u_92_37, u_92_40, u_92_43, u_92_45, u_92_48, u_92_49, u_92_51, u_92_54, u_92_55, u_92_56, u_92_59, u_92_60, u_92_63, u_92_66, u_92_67, u_92_70, u_92_71, u_92_74, u_92_75, u_92_76, u_92_79, wp_stop, lget, lput1, lput2, kil, hget, hset, vget, vset, fget, fgetC, fput, fputC, iget, igetC, jget, jgetC, qget, qgetC, alen, lenC, oI, oJ, oF, oA, oV, oH, oInc, oIld, oJld, oQld, oR, oLen, oIst, oBst, oJst, oQst, ciOf, rcv, oCp, cat1, cond_true, cond_false, Bool.and_self, Bool.and_true, Bool.true_and, Bool.or_true, Bool.true_or, Bool.or_false, Bool.false_or, Bool.not_false, Bool.not_true, ↓reduceIte, Nat.reduceBEq, Nat.reduceEqDiff, beq_self_eq_true, true_and, and_true, eq_self_iff_true, Nat.reduceAdd, Nat.blt, Nat.ble, z_le, z_lt, z_eq, z_cl, z_add, z_sub, z_mul, z_in, z_lt0, z_ofN, z_m1, z_ltm1, z_m1lt, z_eqm1, z_m1eq, z_m1le, z_lem1, z_beq, nI_0_1, nI_m1lt0, nI_0lem1, not_false_eq_true, not_true_eq_false, forall_const, false_implies, true_implies, implies_true, false_and, and_false, mrg, renc, tra, trv, sg, List.map_cons, List.map_nil, Option.map_some, Option.map_none, Option.toList_some, Option.toList_none, List.cons_append, List.nil_append, List.length_cons, List.length_nil, jH, jF, t3, e3, show ¬ (20 : Nat) < 20 by decide]
  rw [← e3]
  refine CAL.dir (J_refFull d J PM') (by rw [ggd]; omega) (by show _ ≤ gC G; rw [ggc]; omega) (by show _ ≤ gS G; rw [ggs]; omega) (Nat.le_of_ble_eq_true rfl) (by rw [ggn]; exact Nat.le_of_ble_eq_true rfl) rfl rfl ?_
  rintro _ _ ⟨rfl, rfl⟩
  simp (disch := first | exact rfl | decide | omega) only [u_92_0, u_92_1, u_92_4, u_92_5, u_92_7, u_92_10, u_92_11, u_92_13, u_92_16, u_92_17, u_92_18, u_92_19, u_92_22, u_92_23, u_92_24, u_92_25, u_92_26, u_92_29, u_92_30, u_92_32, u_92_35, u_92_36, u_92_37, u_92_40, u_92_43, u_92_45, u_92_48, u_92_49, u_92_51, u_92_54, u_92_55, u_92_56, u_92_59, u_92_60, u_92_63, u_92_66, u_92_67, u_92_70, u_92_71, u_92_74, u_92_75, u_92_76, u_92_79, wp_stop, lget, lput1, lput2, kil, hget, hset, vget, vset, fget, fgetC, fput, fputC, iget, igetC, jget, jgetC, qget, qgetC, alen, lenC, oI, oJ, oF, oA, oV, oH, oInc, oIld, oJld, oQld, oR, oLen, oIst, oBst, oJst, oQst, ciOf, rcv, oCp, cat1, cond_true, cond_false, Bool.and_self, Bool.and_true, Bool.true_and, Bool.or_true, Bool.true_or, Bool.or_false, Bool.false_or, Bool.not_false, Bool.not_true, ↓reduceIte, Nat.reduceBEq, Nat.reduceEqDiff, beq_self_eq_true, true_and, and_true, eq_self_iff_true, Nat.reduceAdd, Nat.blt, Nat.ble, z_le, z_lt, z_eq, z_cl, z_add, z_sub, z_mul, z_in, z_lt0, z_ofN, z_m1, z_ltm1, z_m1lt, z_eqm1, z_m1eq, z_m1le, z_lem1, z_beq, nI_0_1, nI_m1lt0, nI_0lem1, not_false_eq_true, not_true_eq_false, forall_const, false_implies, true_implies, implies_true, false_and, and_false, mrg, renc, tra, trv, sg, List.map_cons, List.map_nil, Option.map_some, Option.map_none, Option.toList_some, Option.toList_none, List.cons_append, List.nil_append, List.length_cons, List.length_nil]
  exact hf
