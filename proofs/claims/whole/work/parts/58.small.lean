/-! Text, Scene, isOwner, sortOf -/
abbrev tX (tl : Int32) (tb : Nat → Int32) : aH := [.inr (8, [.ref 1, .int tl]), .inl (0, 150, .inl tb)]
set_option maxRecDepth 100000 in
theorem c_textInit (d : Nat) : aSp (d + 1) 1 [.ref 0] [.inr (8, [.null, .int 0])] nomv 1 150 (fun r h' => r = none ∧ h' = tX 0 (fun _ => 0)) := by
  refine sp_of (by decide) (Nat.le_of_ble_eq_true rfl) ?_
  generalize hG : ((d + 1, _, nomv, _, _, _) : aG) = G
  have ggd : gD G = d + 1 := by subst hG; rfl
  have ggn : gN G = 1 := by subst hG; rfl
  have ggm : gM G = nomv := by subst hG; rfl
  have ggc : gC G = 1 := by subst hG; rfl
  have ggs : gS G = 150 := by subst hG; rfl
  have hret : RET G none (tX 0 (fun _ => 0)) 1 150 := by
    subst hG
    exact RET.id ⟨rfl, rfl⟩ (Nat.le_refl _) (Nat.le_refl _)
  clear hG
  have hd1 : 1 ≤ gD G := by rw [ggd]; omega
  have hc0 : (0 : Nat) ≤ 8 := Nat.zero_le _
  have t1 : (150 : Nat) * 1 ≤ 536870912 := by decide
  refine wp_aw (S := fun _ => false) (by decide) 200 _ _ _ _ _ _ ?_
  simp (disch := first | exact rfl | decide | omega) only [u_1_0, u_1_1, u_1_4, u_1_5, u_1_8, u_1_10, u_1_13, wp_stop, lget, lput1, lput2, kil, hget, hset, vget, vset, fget, fgetC, fput, fputC, iget, igetC, jget, jgetC, qget, qgetC, alen, lenC, oI, oJ, oF, oA, oV, oH, oInc, oIld, oJld, oQld, oR, oLen, oIst, oBst, oJst, oQst, ciOf, rcv, oCp, cat1, cond_true, cond_false, Bool.and_self, Bool.and_true, Bool.true_and, Bool.or_true, Bool.true_or, Bool.or_false, Bool.false_or, Bool.not_false, Bool.not_true, ↓reduceIte, Nat.reduceBEq, Nat.reduceEqDiff, beq_self_eq_true, true_and, and_true, eq_self_iff_true, Nat.reduceAdd, Nat.blt, Nat.ble, z_le, z_lt, z_eq, z_cl, z_add, z_sub, z_mul, z_in, z_lt0, z_ofN, z_m1, z_ltm1, z_m1lt, z_eqm1, z_m1eq, z_m1le, z_lem1, z_beq, nI_0_1, nI_m1lt0, nI_0lem1, not_false_eq_true, not_true_eq_false, forall_const, false_implies, true_implies, implies_true, false_and, and_false, mrg, renc, tra, trv, sg, List.map_cons, List.map_nil, Option.map_some, Option.map_none, Option.toList_some, Option.toList_none, List.cons_append, List.nil_append, List.length_cons, List.length_nil, eL, mL_1, hd1, List.sum_nil, hc0, t1]
  refine oNew.mk (by rw [ggc]; omega) (by rw [ggs]; omega) (by rw [ggn]; exact Nat.le_of_ble_eq_true rfl) rfl rfl rfl ?_
  simp (disch := first | exact rfl | decide | omega) only [u_1_0, u_1_1, u_1_4, u_1_5, u_1_8, u_1_10, u_1_13, wp_stop, lget, lput1, lput2, kil, hget, hset, vget, vset, fget, fgetC, fput, fputC, iget, igetC, jget, jgetC, qget, qgetC, alen, lenC, oI, oJ, oF, oA, oV, oH, oInc, oIld, oJld, oQld, oR, oLen, oIst, oBst, oJst, oQst, ciOf, rcv, oCp, cat1, cond_true, cond_false, Bool.and_self, Bool.and_true, Bool.true_and, Bool.or_true, Bool.true_or, Bool.or_false, Bool.false_or, Bool.not_false, Bool.not_true, ↓reduceIte, Nat.reduceBEq, Nat.reduceEqDiff, beq_self_eq_true, true_and, and_true, eq_self_iff_true, Nat.reduceAdd, Nat.blt, Nat.ble, z_le, z_lt, z_eq, z_cl, z_add, z_sub, z_mul, z_in, z_lt0, z_ofN, z_m1, z_ltm1, z_m1lt, z_eqm1, z_m1eq, z_m1le, z_lem1, z_beq, nI_0_1, nI_m1lt0, nI_0lem1, not_false_eq_true, not_true_eq_false, forall_const, false_implies, true_implies, implies_true, false_and, and_false, mrg, renc, tra, trv, sg, List.map_cons, List.map_nil, Option.map_some, Option.map_none, Option.toList_some, Option.toList_none, List.cons_append, List.nil_append, List.length_cons, List.length_nil, cB]
  exact hret
theorem nar_b : ∀ c, c < 128 → vp_nar .byte ((nI c).toInt8.toInt32) = nI c := by decide +kernel
set_option maxRecDepth 100000 in
theorem c_textAdd (d tl : Nat) (tb : Nat → Int32) (c : Nat) (hl : tl < 150) (hc : c < 128) : aSp d 34 [.ref 0, .int (nI c)] (tX (nI tl) tb) nomv 0 0 (fun r h' => r = none ∧ h' = tX (nI (tl + 1)) (upd tb tl (nI c))) := by
  refine sp_of (by decide) (Nat.le_of_ble_eq_true rfl) ?_
  generalize hG : ((d, _, nomv, _, _, _) : aG) = G
  have ggd : gD G = d := by subst hG; rfl
  have ggn : gN G = 2 := by subst hG; rfl
  have ggm : gM G = nomv := by subst hG; rfl
  have ggc : gC G = 0 := by subst hG; rfl
  have ggs : gS G = 0 := by subst hG; rfl
  have hret : RET G none (tX (nI (tl + 1)) (upd tb tl (nI c))) 0 0 := by
    subst hG
    exact RET.id ⟨rfl, rfl⟩ (Nat.le_refl _) (Nat.le_refl _)
  clear hG
  have t1 : ¬ 150 ≤ tl := by omega
  have e1 := nar_b c hc
  refine wp_aw (S := fun _ => false) (by decide) 200 _ _ _ _ _ _ ?_
  simp (disch := first | exact rfl | decide | omega) only [u_34_0, u_34_1, u_34_4, u_34_7, u_34_10, u_34_11, u_34_14, u_34_15, u_34_18, u_34_19, u_34_20, u_34_21, u_34_22, u_34_23, u_34_26, u_34_27, u_34_28, u_34_31, wp_stop, lget, lput1, lput2, kil, hget, hset, vget, vset, fget, fgetC, fput, fputC, iget, igetC, jget, jgetC, qget, qgetC, alen, lenC, oI, oJ, oF, oA, oV, oH, oInc, oIld, oJld, oQld, oR, oLen, oIst, oBst, oJst, oQst, ciOf, rcv, oCp, cat1, cond_true, cond_false, Bool.and_self, Bool.and_true, Bool.true_and, Bool.or_true, Bool.true_or, Bool.or_false, Bool.false_or, Bool.not_false, Bool.not_true, ↓reduceIte, Nat.reduceBEq, Nat.reduceEqDiff, beq_self_eq_true, true_and, and_true, eq_self_iff_true, Nat.reduceAdd, Nat.blt, Nat.ble, z_le, z_lt, z_eq, z_cl, z_add, z_sub, z_mul, z_in, z_lt0, z_ofN, z_m1, z_ltm1, z_m1lt, z_eqm1, z_m1eq, z_m1le, z_lem1, z_beq, nI_0_1, nI_m1lt0, nI_0lem1, not_false_eq_true, not_true_eq_false, forall_const, false_implies, true_implies, implies_true, false_and, and_false, mrg, renc, tra, trv, sg, List.map_cons, List.map_nil, Option.map_some, Option.map_none, Option.toList_some, Option.toList_none, List.cons_append, List.nil_append, List.length_cons, List.length_nil, eL, mL_34, tX, t1, e1]
  exact hret
set_option maxRecDepth 100000 in
theorem c_textAt (d tl : Nat) (tb : Nat → Int32) (i : Nat) (hl : tl ≤ 150) (hi : i < tl) : aSp d 38 [.ref 0, .int (nI i)] (tX (nI tl) tb) nomv 0 0 (fun r h' => r = some (.int (tb i)) ∧ h' = tX (nI tl) tb) := by
  refine sp_of (by decide) (Nat.le_of_ble_eq_true rfl) ?_
  generalize hG : ((d, _, nomv, _, _, _) : aG) = G
  have ggd : gD G = d := by subst hG; rfl
  have ggn : gN G = 2 := by subst hG; rfl
  have ggm : gM G = nomv := by subst hG; rfl
  have ggc : gC G = 0 := by subst hG; rfl
  have ggs : gS G = 0 := by subst hG; rfl
  have hret : RET G (some (.int (tb i))) (tX (nI tl) tb) 0 0 := by
    subst hG
    exact RET.id ⟨rfl, rfl⟩ (Nat.le_refl _) (Nat.le_refl _)
  clear hG
  have t1 : ¬ tl ≤ i := by omega
  have t2 : ¬ 150 ≤ i := by omega
  have t3 : ¬ i < 0 := by omega
  have t4 : i < 150 := by omega
  refine wp_aw (S := fun _ => false) (by decide) 200 _ _ _ _ _ _ ?_
  simp (disch := first | exact rfl | decide | omega) only [u_38_0, u_38_1, u_38_4, u_38_5, u_38_6, u_38_9, u_38_12, u_38_13, u_38_16, u_38_19, u_38_20, u_38_23, u_38_24, u_38_25, u_38_28, u_38_29, wp_stop, lget, lput1, lput2, kil, hget, hset, vget, vset, fget, fgetC, fput, fputC, iget, igetC, jget, jgetC, qget, qgetC, alen, lenC, oI, oJ, oF, oA, oV, oH, oInc, oIld, oJld, oQld, oR, oLen, oIst, oBst, oJst, oQst, ciOf, rcv, oCp, cat1, cond_true, cond_false, Bool.and_self, Bool.and_true, Bool.true_and, Bool.or_true, Bool.true_or, Bool.or_false, Bool.false_or, Bool.not_false, Bool.not_true, ↓reduceIte, Nat.reduceBEq, Nat.reduceEqDiff, beq_self_eq_true, true_and, and_true, eq_self_iff_true, Nat.reduceAdd, Nat.blt, Nat.ble, z_le, z_lt, z_eq, z_cl, z_add, z_sub, z_mul, z_in, z_lt0, z_ofN, z_m1, z_ltm1, z_m1lt, z_eqm1, z_m1eq, z_m1le, z_lem1, z_beq, nI_0_1, nI_m1lt0, nI_0lem1, not_false_eq_true, not_true_eq_false, forall_const, false_implies, true_implies, implies_true, false_and, and_false, mrg, renc, tra, trv, sg, List.map_cons, List.map_nil, Option.map_some, Option.map_none, Option.toList_some, Option.toList_none, List.cons_append, List.nil_append, List.length_cons, List.length_nil, eL, mL_38, tX, t1, t2, t3]
  exact hret
set_option maxRecDepth 100000 in
theorem c_ownY (d k : Nat) (hk : k < 9) (h : aH) : aSp d 51 [.int (nI k)] h nomv 0 0 (fun r h' => r = some (.int (nI 1)) ∧ h' = h) := by
  refine sp_of (by decide) (Nat.le_of_ble_eq_true rfl) ?_
  generalize hG : ((d, _, nomv, _, _, _) : aG) = G
  have hret : RET G (some (.int (nI 1))) h 0 0 := by
    subst hG
    exact RET.id ⟨rfl, rfl⟩ (Nat.le_refl _) (Nat.le_refl _)
  clear hG
  have t1 : ¬ k < 0 := by omega
  have t2 : ¬ 9 ≤ k := by omega
  refine wp_aw (S := fun _ => false) (by decide) 200 _ _ _ _ _ _ ?_
  simp (disch := first | exact rfl | decide | omega) only [u_51_0, u_51_1, u_51_4, u_51_5, u_51_7, u_51_10, u_51_11, u_51_14, u_51_15, wp_stop, lget, lput1, lput2, kil, hget, hset, vget, vset, fget, fgetC, fput, fputC, iget, igetC, jget, jgetC, qget, qgetC, alen, lenC, oI, oJ, oF, oA, oV, oH, oInc, oIld, oJld, oQld, oR, oLen, oIst, oBst, oJst, oQst, ciOf, rcv, oCp, cat1, cond_true, cond_false, Bool.and_self, Bool.and_true, Bool.true_and, Bool.or_true, Bool.true_or, Bool.or_false, Bool.false_or, Bool.not_false, Bool.not_true, ↓reduceIte, Nat.reduceBEq, Nat.reduceEqDiff, beq_self_eq_true, true_and, and_true, eq_self_iff_true, Nat.reduceAdd, Nat.blt, Nat.ble, z_le, z_lt, z_eq, z_cl, z_add, z_sub, z_mul, z_in, z_lt0, z_ofN, z_m1, z_ltm1, z_m1lt, z_eqm1, z_m1eq, z_m1le, z_lem1, z_beq, nI_0_1, nI_m1lt0, nI_0lem1, not_false_eq_true, not_true_eq_false, forall_const, false_implies, true_implies, implies_true, false_and, and_false, mrg, renc, tra, trv, sg, List.map_cons, List.map_nil, Option.map_some, Option.map_none, Option.toList_some, Option.toList_none, List.cons_append, List.nil_append, List.length_cons, List.length_nil, eL, mL_51, t1, t2]
  exact hret
set_option maxRecDepth 100000 in
theorem c_ownN (d : Nat) (x : Int32) (hx : x < nI 0 ∨ nI 9 ≤ x) (h : aH) : aSp d 51 [.int x] h nomv 0 0 (fun r h' => r = some (.int (nI 0)) ∧ h' = h) := by
  refine sp_of (by decide) (Nat.le_of_ble_eq_true rfl) ?_
  generalize hG : ((d, _, nomv, _, _, _) : aG) = G
  have hret : RET G (some (.int (nI 0))) h 0 0 := by
    subst hG
    exact RET.id ⟨rfl, rfl⟩ (Nat.le_refl _) (Nat.le_refl _)
  clear hG
  by_cases q : x < nI 0
  · refine wp_aw (S := fun _ => false) (by decide) 200 _ _ _ _ _ _ ?_
    simp (disch := first | exact rfl | decide | omega) only [u_51_0, u_51_1, u_51_4, u_51_5, u_51_7, u_51_10, u_51_11, u_51_14, u_51_15, wp_stop, lget, lput1, lput2, kil, hget, hset, vget, vset, fget, fgetC, fput, fputC, iget, igetC, jget, jgetC, qget, qgetC, alen, lenC, oI, oJ, oF, oA, oV, oH, oInc, oIld, oJld, oQld, oR, oLen, oIst, oBst, oJst, oQst, ciOf, rcv, oCp, cat1, cond_true, cond_false, Bool.and_self, Bool.and_true, Bool.true_and, Bool.or_true, Bool.true_or, Bool.or_false, Bool.false_or, Bool.not_false, Bool.not_true, ↓reduceIte, Nat.reduceBEq, Nat.reduceEqDiff, beq_self_eq_true, true_and, and_true, eq_self_iff_true, Nat.reduceAdd, Nat.blt, Nat.ble, z_le, z_lt, z_eq, z_cl, z_add, z_sub, z_mul, z_in, z_lt0, z_ofN, z_m1, z_ltm1, z_m1lt, z_eqm1, z_m1eq, z_m1le, z_lem1, z_beq, nI_0_1, nI_m1lt0, nI_0lem1, not_false_eq_true, not_true_eq_false, forall_const, false_implies, true_implies, implies_true, false_and, and_false, mrg, renc, tra, trv, sg, List.map_cons, List.map_nil, Option.map_some, Option.map_none, Option.toList_some, Option.toList_none, List.cons_append, List.nil_append, List.length_cons, List.length_nil, eL, mL_51, q]
    exact hret
  · have q2 := hx.resolve_left q
    refine wp_aw (S := fun _ => false) (by decide) 200 _ _ _ _ _ _ ?_
    simp (disch := first | exact rfl | decide | omega) only [u_51_0, u_51_1, u_51_4, u_51_5, u_51_7, u_51_10, u_51_11, u_51_14, u_51_15, wp_stop, lget, lput1, lput2, kil, hget, hset, vget, vset, fget, fgetC, fput, fputC, iget, igetC, jget, jgetC, qget, qgetC, alen, lenC, oI, oJ, oF, oA, oV, oH, oInc, oIld, oJld, oQld, oR, oLen, oIst, oBst, oJst, oQst, ciOf, rcv, oCp, cat1, cond_true, cond_false, Bool.and_self, Bool.and_true, Bool.true_and, Bool.or_true, Bool.true_or, Bool.or_false, Bool.false_or, Bool.not_false, Bool.not_true, ↓reduceIte, Nat.reduceBEq, Nat.reduceEqDiff, beq_self_eq_true, true_and, and_true, eq_self_iff_true, Nat.reduceAdd, Nat.blt, Nat.ble, z_le, z_lt, z_eq, z_cl, z_add, z_sub, z_mul, z_in, z_lt0, z_ofN, z_m1, z_ltm1, z_m1lt, z_eqm1, z_m1eq, z_m1le, z_lem1, z_beq, nI_0_1, nI_m1lt0, nI_0lem1, not_false_eq_true, not_true_eq_false, forall_const, false_implies, true_implies, implies_true, false_and, and_false, mrg, renc, tra, trv, sg, List.map_cons, List.map_nil, Option.map_some, Option.map_none, Option.toList_some, Option.toList_none, List.cons_append, List.nil_append, List.length_cons, List.length_nil, eL, mL_51, q, q2]
    exact hret
/-- the sort of a letter -/
def srt (c : Nat) : Int32 := if 97 ≤ c ∧ c ≤ 104 then nI (c - 97) else -1
set_option maxRecDepth 100000 in
theorem c_sortOf (d c : Nat) (hc : c < 2 ^ 20) (h : aH) : aSp d 41 [.int (nI c)] h nomv 0 0 (fun r h' => r = some (.int (srt c)) ∧ h' = h) := by
  refine sp_of (by decide) (Nat.le_of_ble_eq_true rfl) ?_
  generalize hG : ((d, _, nomv, _, _, _) : aG) = G
  have hret : RET G (some (.int (srt c))) h 0 0 := by
    subst hG
    exact RET.id ⟨rfl, rfl⟩ (Nat.le_refl _) (Nat.le_refl _)
  clear hG
  unfold srt at hret
  by_cases q : 97 ≤ c
  · by_cases q2 : c ≤ 104
    · rw [if_pos ⟨q, q2⟩] at hret
      have t1 : ¬ c < 97 := by omega
      have t2 : ¬ 104 < c := by omega
      refine wp_aw (S := fun _ => false) (by decide) 200 _ _ _ _ _ _ ?_
      simp (disch := first | exact rfl | decide | omega) only [u_41_0, u_41_1, u_41_3, u_41_6, u_41_7, u_41_9, u_41_12, u_41_13, u_41_15, u_41_16, u_41_19, u_41_20, wp_stop, lget, lput1, lput2, kil, hget, hset, vget, vset, fget, fgetC, fput, fputC, iget, igetC, jget, jgetC, qget, qgetC, alen, lenC, oI, oJ, oF, oA, oV, oH, oInc, oIld, oJld, oQld, oR, oLen, oIst, oBst, oJst, oQst, ciOf, rcv, oCp, cat1, cond_true, cond_false, Bool.and_self, Bool.and_true, Bool.true_and, Bool.or_true, Bool.true_or, Bool.or_false, Bool.false_or, Bool.not_false, Bool.not_true, ↓reduceIte, Nat.reduceBEq, Nat.reduceEqDiff, beq_self_eq_true, true_and, and_true, eq_self_iff_true, Nat.reduceAdd, Nat.blt, Nat.ble, z_le, z_lt, z_eq, z_cl, z_add, z_sub, z_mul, z_in, z_lt0, z_ofN, z_m1, z_ltm1, z_m1lt, z_eqm1, z_m1eq, z_m1le, z_lem1, z_beq, nI_0_1, nI_m1lt0, nI_0lem1, not_false_eq_true, not_true_eq_false, forall_const, false_implies, true_implies, implies_true, false_and, and_false, mrg, renc, tra, trv, sg, List.map_cons, List.map_nil, Option.map_some, Option.map_none, Option.toList_some, Option.toList_none, List.cons_append, List.nil_append, List.length_cons, List.length_nil, eL, mL_41, t1, t2]
      exact hret
    · rw [if_neg (fun z => q2 z.2)] at hret
      have t1 : ¬ c < 97 := by omega
      have t2 : 104 < c := by omega
      refine wp_aw (S := fun _ => false) (by decide) 200 _ _ _ _ _ _ ?_
      simp (disch := first | exact rfl | decide | omega) only [u_41_0, u_41_1, u_41_3, u_41_6, u_41_7, u_41_9, u_41_12, u_41_13, u_41_15, u_41_16, u_41_19, u_41_20, wp_stop, lget, lput1, lput2, kil, hget, hset, vget, vset, fget, fgetC, fput, fputC, iget, igetC, jget, jgetC, qget, qgetC, alen, lenC, oI, oJ, oF, oA, oV, oH, oInc, oIld, oJld, oQld, oR, oLen, oIst, oBst, oJst, oQst, ciOf, rcv, oCp, cat1, cond_true, cond_false, Bool.and_self, Bool.and_true, Bool.true_and, Bool.or_true, Bool.true_or, Bool.or_false, Bool.false_or, Bool.not_false, Bool.not_true, ↓reduceIte, Nat.reduceBEq, Nat.reduceEqDiff, beq_self_eq_true, true_and, and_true, eq_self_iff_true, Nat.reduceAdd, Nat.blt, Nat.ble, z_le, z_lt, z_eq, z_cl, z_add, z_sub, z_mul, z_in, z_lt0, z_ofN, z_m1, z_ltm1, z_m1lt, z_eqm1, z_m1eq, z_m1le, z_lem1, z_beq, nI_0_1, nI_m1lt0, nI_0lem1, not_false_eq_true, not_true_eq_false, forall_const, false_implies, true_implies, implies_true, false_and, and_false, mrg, renc, tra, trv, sg, List.map_cons, List.map_nil, Option.map_some, Option.map_none, Option.toList_some, Option.toList_none, List.cons_append, List.nil_append, List.length_cons, List.length_nil, eL, mL_41, t1, t2]
      exact hret
  · rw [if_neg (fun z => q z.1)] at hret
    have t1 : c < 97 := by omega
    refine wp_aw (S := fun _ => false) (by decide) 200 _ _ _ _ _ _ ?_
    simp (disch := first | exact rfl | decide | omega) only [u_41_0, u_41_1, u_41_3, u_41_6, u_41_7, u_41_9, u_41_12, u_41_13, u_41_15, u_41_16, u_41_19, u_41_20, wp_stop, lget, lput1, lput2, kil, hget, hset, vget, vset, fget, fgetC, fput, fputC, iget, igetC, jget, jgetC, qget, qgetC, alen, lenC, oI, oJ, oF, oA, oV, oH, oInc, oIld, oJld, oQld, oR, oLen, oIst, oBst, oJst, oQst, ciOf, rcv, oCp, cat1, cond_true, cond_false, Bool.and_self, Bool.and_true, Bool.true_and, Bool.or_true, Bool.true_or, Bool.or_false, Bool.false_or, Bool.not_false, Bool.not_true, ↓reduceIte, Nat.reduceBEq, Nat.reduceEqDiff, beq_self_eq_true, true_and, and_true, eq_self_iff_true, Nat.reduceAdd, Nat.blt, Nat.ble, z_le, z_lt, z_eq, z_cl, z_add, z_sub, z_mul, z_in, z_lt0, z_ofN, z_m1, z_ltm1, z_m1lt, z_eqm1, z_m1eq, z_m1le, z_lem1, z_beq, nI_0_1, nI_m1lt0, nI_0lem1, not_false_eq_true, not_true_eq_false, forall_const, false_implies, true_implies, implies_true, false_and, and_false, mrg, renc, tra, trv, sg, List.map_cons, List.map_nil, Option.map_some, Option.map_none, Option.toList_some, Option.toList_none, List.cons_append, List.nil_append, List.length_cons, List.length_nil, eL, mL_41, t1]
    exact hret
/-! Scene -/
abbrev sX (pt : Nat → Int64) (rw : Nat → Int32) (len own : Int32) : aH := [.inr (7, [.ref 1, .ref 2, .int len, .int own]), .inl (2, 9, .inr (.inl pt)), .inl (1, 20, .inl rw)]
set_option maxRecDepth 100000 in
theorem c_sceneInit (d : Nat) : aSp (d + 1) 2 [.ref 0] [.inr (7, [.null, .null, .int 0, .int 0])] nomv 2 29 (fun r h' => r = none ∧ ∃ pt, h' = sX pt (fun _ => 0) 0 (nI 8) ∧ ∀ j, j < 9 → pt j = lN 9) := by
  refine sp_of (by decide) (Nat.le_of_ble_eq_true rfl) ?_
  generalize hG : ((d + 1, _, nomv, _, _, _) : aG) = G
  have ggd : gD G = d + 1 := by subst hG; rfl
  have ggn : gN G = 1 := by subst hG; rfl
  have ggm : gM G = nomv := by subst hG; rfl
  have ggc : gC G = 2 := by subst hG; rfl
  have ggs : gS G = 29 := by subst hG; rfl
  have hret : ∀ pt, (∀ j, j < 9 → pt j = lN 9) → RET G none (sX pt (fun _ => 0) 0 (nI 8)) 2 29 := by
    subst hG
    exact fun pt q => RET.id ⟨rfl, pt, rfl, q⟩ (Nat.le_refl _) (Nat.le_refl _)
  clear hG
  have hd1 : 1 ≤ gD G := by rw [ggd]; omega
  have hc0 : (0 : Nat) ≤ 8 := Nat.zero_le _
  have t1 : (9 : Nat) * 8 ≤ 536870912 := by decide
  have t2 : (20 : Nat) * 4 ≤ 536870912 := by decide
  refine wp_aw (S := fun _ => false) (by decide) 200 _ _ _ _ _ _ ?_
  simp (disch := first | exact rfl | decide | omega) only [u_2_0, u_2_1, u_2_4, u_2_5, u_2_7, u_2_9, u_2_12, u_2_13, u_2_15, u_2_17, u_2_20, u_2_21, u_2_23, u_2_26, u_2_27, u_2_30, u_2_33, u_2_36, wp_stop, lget, lput1, lput2, kil, hget, hset, vget, vset, fget, fgetC, fput, fputC, iget, igetC, jget, jgetC, qget, qgetC, alen, lenC, oI, oJ, oF, oA, oV, oH, oInc, oIld, oJld, oQld, oR, oLen, oIst, oBst, oJst, oQst, ciOf, rcv, oCp, cat1, cond_true, cond_false, Bool.and_self, Bool.and_true, Bool.true_and, Bool.or_true, Bool.true_or, Bool.or_false, Bool.false_or, Bool.not_false, Bool.not_true, ↓reduceIte, Nat.reduceBEq, Nat.reduceEqDiff, beq_self_eq_true, true_and, and_true, eq_self_iff_true, Nat.reduceAdd, Nat.blt, Nat.ble, z_le, z_lt, z_eq, z_cl, z_add, z_sub, z_mul, z_in, z_lt0, z_ofN, z_m1, z_ltm1, z_m1lt, z_eqm1, z_m1eq, z_m1le, z_lem1, z_beq, nI_0_1, nI_m1lt0, nI_0lem1, not_false_eq_true, not_true_eq_false, forall_const, false_implies, true_implies, implies_true, false_and, and_false, mrg, renc, tra, trv, sg, List.map_cons, List.map_nil, Option.map_some, Option.map_none, Option.toList_some, Option.toList_none, List.cons_append, List.nil_append, List.length_cons, List.length_nil, eL, mL_2, hd1, List.sum_nil, hc0, t1, t2]
  refine oNew.mk (by rw [ggc]; omega) (by rw [ggs]; omega) (by rw [ggn]; exact Nat.le_of_ble_eq_true rfl) rfl rfl rfl ?_
  simp (disch := first | exact rfl | decide | omega) only [u_2_0, u_2_1, u_2_4, u_2_5, u_2_7, u_2_9, u_2_12, u_2_13, u_2_15, u_2_17, u_2_20, u_2_21, u_2_23, u_2_26, u_2_27, u_2_30, u_2_33, u_2_36, wp_stop, lget, lput1, lput2, kil, hget, hset, vget, vset, fget, fgetC, fput, fputC, iget, igetC, jget, jgetC, qget, qgetC, alen, lenC, oI, oJ, oF, oA, oV, oH, oInc, oIld, oJld, oQld, oR, oLen, oIst, oBst, oJst, oQst, ciOf, rcv, oCp, cat1, cond_true, cond_false, Bool.and_self, Bool.and_true, Bool.true_and, Bool.or_true, Bool.true_or, Bool.or_false, Bool.false_or, Bool.not_false, Bool.not_true, ↓reduceIte, Nat.reduceBEq, Nat.reduceEqDiff, beq_self_eq_true, true_and, and_true, eq_self_iff_true, Nat.reduceAdd, Nat.blt, Nat.ble, z_le, z_lt, z_eq, z_cl, z_add, z_sub, z_mul, z_in, z_lt0, z_ofN, z_m1, z_ltm1, z_m1lt, z_eqm1, z_m1eq, z_m1le, z_lem1, z_beq, nI_0_1, nI_m1lt0, nI_0lem1, not_false_eq_true, not_true_eq_false, forall_const, false_implies, true_implies, implies_true, false_and, and_false, mrg, renc, tra, trv, sg, List.map_cons, List.map_nil, Option.map_some, Option.map_none, Option.toList_some, Option.toList_none, List.cons_append, List.nil_append, List.length_cons, List.length_nil, cJ, t1, t2]
  refine oNew.mk (by rw [ggc]; omega) (by rw [ggs]; omega) (by rw [ggn]; exact Nat.le_of_ble_eq_true rfl) rfl rfl rfl ?_
  simp (disch := first | exact rfl | decide | omega) only [u_2_0, u_2_1, u_2_4, u_2_5, u_2_7, u_2_9, u_2_12, u_2_13, u_2_15, u_2_17, u_2_20, u_2_21, u_2_23, u_2_26, u_2_27, u_2_30, u_2_33, u_2_36, wp_stop, lget, lput1, lput2, kil, hget, hset, vget, vset, fget, fgetC, fput, fputC, iget, igetC, jget, jgetC, qget, qgetC, alen, lenC, oI, oJ, oF, oA, oV, oH, oInc, oIld, oJld, oQld, oR, oLen, oIst, oBst, oJst, oQst, ciOf, rcv, oCp, cat1, cond_true, cond_false, Bool.and_self, Bool.and_true, Bool.true_and, Bool.or_true, Bool.true_or, Bool.or_false, Bool.false_or, Bool.not_false, Bool.not_true, ↓reduceIte, Nat.reduceBEq, Nat.reduceEqDiff, beq_self_eq_true, true_and, and_true, eq_self_iff_true, Nat.reduceAdd, Nat.blt, Nat.ble, z_le, z_lt, z_eq, z_cl, z_add, z_sub, z_mul, z_in, z_lt0, z_ofN, z_m1, z_ltm1, z_m1lt, z_eqm1, z_m1eq, z_m1le, z_lem1, z_beq, nI_0_1, nI_m1lt0, nI_0lem1, not_false_eq_true, not_true_eq_false, forall_const, false_implies, true_implies, implies_true, false_and, and_false, mrg, renc, tra, trv, sg, List.map_cons, List.map_nil, Option.map_some, Option.map_none, Option.toList_some, Option.toList_none, List.cons_append, List.nil_append, List.length_cons, List.length_nil, cI, t1, t2]
  refine CAL.nm (c_fillJ d (lN 9) 9 (fun _ => 0) (by decide)) [1] rfl rfl rfl (by decide) rfl ?_ (by rw [ggd]; omega) (by rw [ggc]; omega) (by rw [ggs]; omega) (Nat.le_of_ble_eq_true rfl) (by rw [ggn]; exact Nat.le_of_ble_eq_true rfl) rfl rfl ?_
  · rintro r hc' ⟨-, g, rfl, -⟩
    exact Nat.le_of_ble_eq_true rfl
  rintro _ _ ⟨rfl, g, rfl, hg⟩
  simp (disch := first | exact rfl | decide | omega) only [u_2_0, u_2_1, u_2_4, u_2_5, u_2_7, u_2_9, u_2_12, u_2_13, u_2_15, u_2_17, u_2_20, u_2_21, u_2_23, u_2_26, u_2_27, u_2_30, u_2_33, u_2_36, wp_stop, lget, lput1, lput2, kil, hget, hset, vget, vset, fget, fgetC, fput, fputC, iget, igetC, jget, jgetC, qget, qgetC, alen, lenC, oI, oJ, oF, oA, oV, oH, oInc, oIld, oJld, oQld, oR, oLen, oIst, oBst, oJst, oQst, ciOf, rcv, oCp, cat1, cond_true, cond_false, Bool.and_self, Bool.and_true, Bool.true_and, Bool.or_true, Bool.true_or, Bool.or_false, Bool.false_or, Bool.not_false, Bool.not_true, ↓reduceIte, Nat.reduceBEq, Nat.reduceEqDiff, beq_self_eq_true, true_and, and_true, eq_self_iff_true, Nat.reduceAdd, Nat.blt, Nat.ble, z_le, z_lt, z_eq, z_cl, z_add, z_sub, z_mul, z_in, z_lt0, z_ofN, z_m1, z_ltm1, z_m1lt, z_eqm1, z_m1eq, z_m1le, z_lem1, z_beq, nI_0_1, nI_m1lt0, nI_0lem1, not_false_eq_true, not_true_eq_false, forall_const, false_implies, true_implies, implies_true, false_and, and_false, mrg, renc, tra, trv, sg, List.map_cons, List.map_nil, Option.map_some, Option.map_none, Option.toList_some, Option.toList_none, List.cons_append, List.nil_append, List.length_cons, List.length_nil]
  exact hret g hg
set_option maxRecDepth 100000 in
theorem c_emptyRow (d : Nat) (pt : Nat → Int64) (rw : Nat → Int32) (len own x : Int32) : aSp d 54 [.ref 0, .int x] (sX pt rw len own) nomv 0 0 (fun r h' => r = none ∧ h' = sX pt rw (nI 0) x) := by
  refine sp_of (by decide) (Nat.le_of_ble_eq_true rfl) ?_
  generalize hG : ((d, _, nomv, _, _, _) : aG) = G
  have ggd : gD G = d := by subst hG; rfl
  have ggn : gN G = 3 := by subst hG; rfl
  have ggm : gM G = nomv := by subst hG; rfl
  have ggc : gC G = 0 := by subst hG; rfl
  have ggs : gS G = 0 := by subst hG; rfl
  have hret : RET G none (sX pt rw (nI 0) x) 0 0 := by
    subst hG
    exact RET.id ⟨rfl, rfl⟩ (Nat.le_refl _) (Nat.le_refl _)
  clear hG
  refine wp_aw (S := fun _ => false) (by decide) 200 _ _ _ _ _ _ ?_
  simp (disch := first | exact rfl | decide | omega) only [u_54_0, u_54_1, u_54_2, u_54_5, u_54_6, u_54_7, u_54_10, wp_stop, lget, lput1, lput2, kil, hget, hset, vget, vset, fget, fgetC, fput, fputC, iget, igetC, jget, jgetC, qget, qgetC, alen, lenC, oI, oJ, oF, oA, oV, oH, oInc, oIld, oJld, oQld, oR, oLen, oIst, oBst, oJst, oQst, ciOf, rcv, oCp, cat1, cond_true, cond_false, Bool.and_self, Bool.and_true, Bool.true_and, Bool.or_true, Bool.true_or, Bool.or_false, Bool.false_or, Bool.not_false, Bool.not_true, ↓reduceIte, Nat.reduceBEq, Nat.reduceEqDiff, beq_self_eq_true, true_and, and_true, eq_self_iff_true, Nat.reduceAdd, Nat.blt, Nat.ble, z_le, z_lt, z_eq, z_cl, z_add, z_sub, z_mul, z_in, z_lt0, z_ofN, z_m1, z_ltm1, z_m1lt, z_eqm1, z_m1eq, z_m1le, z_lem1, z_beq, nI_0_1, nI_m1lt0, nI_0lem1, not_false_eq_true, not_true_eq_false, forall_const, false_implies, true_implies, implies_true, false_and, and_false, mrg, renc, tra, trv, sg, List.map_cons, List.map_nil, Option.map_some, Option.map_none, Option.toList_some, Option.toList_none, List.cons_append, List.nil_append, List.length_cons, List.length_nil, eL, mL_54, sX]
  exact hret
set_option maxRecDepth 100000 in
theorem c_addToRow (d : Nat) (pt : Nat → Int64) (rw : Nat → Int32) (len : Nat) (own x : Int32) (hl : len < 20) : aSp d 93 [.ref 0, .int x] (sX pt rw (nI len) own) nomv 0 0 (fun r h' => r = none ∧ h' = sX pt (upd rw len x) (nI (len + 1)) own) := by
  refine sp_of (by decide) (Nat.le_of_ble_eq_true rfl) ?_
  generalize hG : ((d, _, nomv, _, _, _) : aG) = G
  have ggd : gD G = d := by subst hG; rfl
  have ggn : gN G = 3 := by subst hG; rfl
  have ggm : gM G = nomv := by subst hG; rfl
  have ggc : gC G = 0 := by subst hG; rfl
  have ggs : gS G = 0 := by subst hG; rfl
  have hret : RET G none (sX pt (upd rw len x) (nI (len + 1)) own) 0 0 := by
    subst hG
    exact RET.id ⟨rfl, rfl⟩ (Nat.le_refl _) (Nat.le_refl _)
  clear hG
  have t1 : ¬ 20 ≤ len := by omega
  refine wp_aw (S := fun _ => false) (by decide) 200 _ _ _ _ _ _ ?_
  simp (disch := first | exact rfl | decide | omega) only [u_93_0, u_93_1, u_93_4, u_93_6, u_93_9, u_93_10, u_93_13, u_93_14, u_93_17, u_93_18, u_93_19, u_93_20, u_93_21, u_93_24, u_93_25, u_93_26, u_93_29, wp_stop, lget, lput1, lput2, kil, hget, hset, vget, vset, fget, fgetC, fput, fputC, iget, igetC, jget, jgetC, qget, qgetC, alen, lenC, oI, oJ, oF, oA, oV, oH, oInc, oIld, oJld, oQld, oR, oLen, oIst, oBst, oJst, oQst, ciOf, rcv, oCp, cat1, cond_true, cond_false, Bool.and_self, Bool.and_true, Bool.true_and, Bool.or_true, Bool.true_or, Bool.or_false, Bool.false_or, Bool.not_false, Bool.not_true, ↓reduceIte, Nat.reduceBEq, Nat.reduceEqDiff, beq_self_eq_true, true_and, and_true, eq_self_iff_true, Nat.reduceAdd, Nat.blt, Nat.ble, z_le, z_lt, z_eq, z_cl, z_add, z_sub, z_mul, z_in, z_lt0, z_ofN, z_m1, z_ltm1, z_m1lt, z_eqm1, z_m1eq, z_m1le, z_lem1, z_beq, nI_0_1, nI_m1lt0, nI_0lem1, not_false_eq_true, not_true_eq_false, forall_const, false_implies, true_implies, implies_true, false_and, and_false, mrg, renc, tra, trv, sg, List.map_cons, List.map_nil, Option.map_some, Option.map_none, Option.toList_some, Option.toList_none, List.cons_append, List.nil_append, List.length_cons, List.length_nil, eL, mL_93, sX, t1]
  exact hret
/-- two scenes: the first one takes over the second one -/
abbrev sX2 (pt : Nat → Int64) (rw : Nat → Int32) (len own : Int32) (pt2 : Nat → Int64) (rw2 : Nat → Int32) (len2 own2 : Int32) : aH := [.inr (7, [.ref 1, .ref 2, .int len, .int own]), .inl (2, 9, .inr (.inl pt)), .inl (1, 20, .inl rw), .inr (7, [.ref 4, .ref 5, .int len2, .int own2]), .inl (2, 9, .inr (.inl pt2)), .inl (1, 20, .inl rw2)]
set_option maxRecDepth 100000 in
theorem c_copyFrom (d : Nat) (pt : Nat → Int64) (rw : Nat → Int32) (len own : Int32) (pt2 : Nat → Int64) (rw2 : Nat → Int32) (len2 own2 : Int32) : aSp (d + 1) 53 [.ref 0, .ref 3] (sX2 pt rw len own pt2 rw2 len2 own2) nomv 0 0 (fun r h' => r = none ∧ ∃ pt' rw', h' = sX2 pt' rw' len2 own2 pt2 rw2 len2 own2 ∧ (∀ j, j < 9 → pt' j = pt2 j) ∧ ∀ j, j < 20 → rw' j = rw2 j) := by
  refine sp_of (by decide) (Nat.le_of_ble_eq_true rfl) ?_
  generalize hG : ((d + 1, _, nomv, _, _, _) : aG) = G
  have ggd : gD G = d + 1 := by subst hG; rfl
  have ggn : gN G = 6 := by subst hG; rfl
  have ggm : gM G = nomv := by subst hG; rfl
  have ggc : gC G = 0 := by subst hG; rfl
  have ggs : gS G = 0 := by subst hG; rfl
  have hret : ∀ pt' rw', (∀ j, j < 9 → pt' j = pt2 j) → (∀ j, j < 20 → rw' j = rw2 j) → RET G none (sX2 pt' rw' len2 own2 pt2 rw2 len2 own2) 0 0 := by
    subst hG
    exact fun pt' rw' q1 q2 => RET.id ⟨rfl, pt', rw', rfl, q1, q2⟩ (Nat.le_refl _) (Nat.le_refl _)
  clear hG
  have hd1 : 1 ≤ gD G := by rw [ggd]; omega
  have hc0 : (0 : Nat) ≤ 8 := Nat.zero_le _
  refine wp_aw (S := fun _ => false) (by decide) 200 _ _ _ _ _ _ ?_
  simp (disch := first | exact rfl | decide | omega) only [u_53_0, u_53_1, u_53_4, u_53_5, u_53_6, u_53_9, u_53_10, u_53_12, u_53_15, u_53_16, u_53_19, u_53_20, u_53_21, u_53_24, u_53_25, u_53_27, u_53_30, u_53_31, u_53_32, u_53_35, u_53_38, u_53_39, u_53_40, u_53_43, u_53_46, wp_stop, lget, lput1, lput2, kil, hget, hset, vget, vset, fget, fgetC, fput, fputC, iget, igetC, jget, jgetC, qget, qgetC, alen, lenC, oI, oJ, oF, oA, oV, oH, oInc, oIld, oJld, oQld, oR, oLen, oIst, oBst, oJst, oQst, ciOf, rcv, oCp, cat1, cond_true, cond_false, Bool.and_self, Bool.and_true, Bool.true_and, Bool.or_true, Bool.true_or, Bool.or_false, Bool.false_or, Bool.not_false, Bool.not_true, ↓reduceIte, Nat.reduceBEq, Nat.reduceEqDiff, beq_self_eq_true, true_and, and_true, eq_self_iff_true, Nat.reduceAdd, Nat.blt, Nat.ble, z_le, z_lt, z_eq, z_cl, z_add, z_sub, z_mul, z_in, z_lt0, z_ofN, z_m1, z_ltm1, z_m1lt, z_eqm1, z_m1eq, z_m1le, z_lem1, z_beq, nI_0_1, nI_m1lt0, nI_0lem1, not_false_eq_true, not_true_eq_false, forall_const, false_implies, true_implies, implies_true, false_and, and_false, mrg, renc, tra, trv, sg, List.map_cons, List.map_nil, Option.map_some, Option.map_none, Option.toList_some, Option.toList_none, List.cons_append, List.nil_append, List.length_cons, List.length_nil, eL, mL_53, sX2, hd1, hc0, List.sum_nil]
  refine ⟨9, pt2, 9, pt, rfl, rfl, by decide, by decide, by decide, by decide, by decide, ?_⟩
  simp (disch := first | exact rfl | decide | omega) only [u_53_0, u_53_1, u_53_4, u_53_5, u_53_6, u_53_9, u_53_10, u_53_12, u_53_15, u_53_16, u_53_19, u_53_20, u_53_21, u_53_24, u_53_25, u_53_27, u_53_30, u_53_31, u_53_32, u_53_35, u_53_38, u_53_39, u_53_40, u_53_43, u_53_46, wp_stop, lget, lput1, lput2, kil, hget, hset, vget, vset, fget, fgetC, fput, fputC, iget, igetC, jget, jgetC, qget, qgetC, alen, lenC, oI, oJ, oF, oA, oV, oH, oInc, oIld, oJld, oQld, oR, oLen, oIst, oBst, oJst, oQst, ciOf, rcv, oCp, cat1, cond_true, cond_false, Bool.and_self, Bool.and_true, Bool.true_and, Bool.or_true, Bool.true_or, Bool.or_false, Bool.false_or, Bool.not_false, Bool.not_true, ↓reduceIte, Nat.reduceBEq, Nat.reduceEqDiff, beq_self_eq_true, true_and, and_true, eq_self_iff_true, Nat.reduceAdd, Nat.blt, Nat.ble, z_le, z_lt, z_eq, z_cl, z_add, z_sub, z_mul, z_in, z_lt0, z_ofN, z_m1, z_ltm1, z_m1lt, z_eqm1, z_m1eq, z_m1le, z_lem1, z_beq, nI_0_1, nI_m1lt0, nI_0lem1, not_false_eq_true, not_true_eq_false, forall_const, false_implies, true_implies, implies_true, false_and, and_false, mrg, renc, tra, trv, sg, List.map_cons, List.map_nil, Option.map_some, Option.map_none, Option.toList_some, Option.toList_none, List.cons_append, List.nil_append, List.length_cons, List.length_nil, hd1, hc0, List.sum_nil]
  refine ⟨20, rw2, 20, rw, rfl, rfl, by decide, by decide, by decide, by decide, by decide, ?_⟩
  simp (disch := first | exact rfl | decide | omega) only [u_53_0, u_53_1, u_53_4, u_53_5, u_53_6, u_53_9, u_53_10, u_53_12, u_53_15, u_53_16, u_53_19, u_53_20, u_53_21, u_53_24, u_53_25, u_53_27, u_53_30, u_53_31, u_53_32, u_53_35, u_53_38, u_53_39, u_53_40, u_53_43, u_53_46, wp_stop, lget, lput1, lput2, kil, hget, hset, vget, vset, fget, fgetC, fput, fputC, iget, igetC, jget, jgetC, qget, qgetC, alen, lenC, oI, oJ, oF, oA, oV, oH, oInc, oIld, oJld, oQld, oR, oLen, oIst, oBst, oJst, oQst, ciOf, rcv, oCp, cat1, cond_true, cond_false, Bool.and_self, Bool.and_true, Bool.true_and, Bool.or_true, Bool.true_or, Bool.or_false, Bool.false_or, Bool.not_false, Bool.not_true, ↓reduceIte, Nat.reduceBEq, Nat.reduceEqDiff, beq_self_eq_true, true_and, and_true, eq_self_iff_true, Nat.reduceAdd, Nat.blt, Nat.ble, z_le, z_lt, z_eq, z_cl, z_add, z_sub, z_mul, z_in, z_lt0, z_ofN, z_m1, z_ltm1, z_m1lt, z_eqm1, z_m1eq, z_m1le, z_lem1, z_beq, nI_0_1, nI_m1lt0, nI_0lem1, not_false_eq_true, not_true_eq_false, forall_const, false_implies, true_implies, implies_true, false_and, and_false, mrg, renc, tra, trv, sg, List.map_cons, List.map_nil, Option.map_some, Option.map_none, Option.toList_some, Option.toList_none, List.cons_append, List.nil_append, List.length_cons, List.length_nil]
  refine hret _ _ (fun j hj => ?_) (fun j hj => ?_)
  · show va_cpy pt2 pt 0 0 9 j = _
    rw [pk_cpy_in (by omega) (by omega)]
    simp
  · show va_cpy rw2 rw 0 0 20 j = _
    rw [pk_cpy_in (by omega) (by omega)]
    simp
