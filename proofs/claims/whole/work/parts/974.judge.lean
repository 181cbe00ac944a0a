/-! ResidualJudge: judge, mark -/
def jdA (f : Option Nat) (a : Int32) : Int32 := match f with
  | some i => -10 - nI i
  | none => a
section JM
variable (J : jS) (PM : Nat → PS × MS)
set_option maxRecDepth 100000 in
theorem c_judgeBad (d : Nat) (x : Int32) (hx : x < nI 0 ∨ nI 5 < x) : aSp (d + 1) 75 [.ref 0, .int x] (jH J PM) jv 0 0 (fun r h' => r = some (.int (-2)) ∧ h' = jH (rfB J) PM) := by
  refine sp_of (by decide) (Nat.le_of_ble_eq_true rfl) ?_
  generalize hG : ((d + 1, _, jv, _, _, _) : aG) = G
  have ggd : gD G = d + 1 := by subst hG; rfl
  have ggn : gN G = 193 := by subst hG; exact jH_len _ _
  have ggm : gM G = jv := by subst hG; rfl
  have ggc : gC G = 0 := by subst hG; rfl
  have ggs : gS G = 0 := by subst hG; rfl
  have hret : RET G (some (.int (-2))) (jH (rfB J) PM) 0 0 := by
    subst hG
    exact RET.id ⟨rfl, rfl⟩ (Nat.le_refl _) (Nat.le_refl _)
  clear hG
  have hrb := J_refBad d J PM
  by_cases q : x < nI 0
  · refine wp_aw (S := fun _ => false) (by decide) 200 _ _ _ _ _ _ ?_
    simp (disch := first | exact rfl | decide | omega) only [u_75_0, u_75_1, u_75_4, u_75_5, u_75_6, u_75_9, u_75_10, u_75_12, u_75_15, u_75_16, u_75_17, u_75_20, u_75_21, u_75_24, u_75_25, u_75_28, u_75_31, u_75_32, u_75_33, u_75_34, u_75_37, u_75_38, u_75_39, u_75_42, u_75_45, u_75_47, u_75_48, u_75_49, wp_stop, lget, lput1, lput2, kil, hget, hset, vget, vset, fget, fgetC, fput, fputC, iget, igetC, jget, jgetC, qget, qgetC, alen, lenC, oI, oJ, oF, oA, oV, oH, oInc, oIld, oJld, oQld, oR, oLen, oIst, oBst, oJst, oQst, ciOf, rcv, oCp, cat1, cond_true, cond_false, Bool.and_self, Bool.and_true, Bool.true_and, Bool.or_true, Bool.true_or, Bool.or_false, Bool.false_or, Bool.not_false, Bool.not_true, ↓reduceIte, Nat.reduceBEq, Nat.reduceEqDiff, beq_self_eq_true, true_and, and_true, eq_self_iff_true, Nat.reduceAdd, Nat.blt, Nat.ble, z_le, z_lt, z_eq, z_cl, z_add, z_sub, z_mul, z_in, z_lt0, z_ofN, z_m1, z_ltm1, z_m1lt, z_eqm1, z_m1eq, z_m1le, z_lem1, z_beq, nI_0_1, nI_m1lt0, nI_0lem1, not_false_eq_true, not_true_eq_false, forall_const, false_implies, true_implies, implies_true, false_and, and_false, mrg, renc, tra, trv, sg, List.map_cons, List.map_nil, Option.map_some, Option.map_none, Option.toList_some, Option.toList_none, List.cons_append, List.nil_append, List.length_cons, List.length_nil, eL, mL_75, jH, jF, q]
    refine CAL.dir (hrb) (by rw [ggd]; omega) (by show _ ≤ gC G; omega) (by show _ ≤ gS G; omega) (Nat.le_of_ble_eq_true rfl) (by rw [ggn]; exact Nat.le_of_ble_eq_true rfl) rfl rfl ?_
    rintro _ _ ⟨rfl, rfl⟩
    simp (disch := first | exact rfl | decide | omega) only [u_75_0, u_75_1, u_75_4, u_75_5, u_75_6, u_75_9, u_75_10, u_75_12, u_75_15, u_75_16, u_75_17, u_75_20, u_75_21, u_75_24, u_75_25, u_75_28, u_75_31, u_75_32, u_75_33, u_75_34, u_75_37, u_75_38, u_75_39, u_75_42, u_75_45, u_75_47, u_75_48, u_75_49, wp_stop, lget, lput1, lput2, kil, hget, hset, vget, vset, fget, fgetC, fput, fputC, iget, igetC, jget, jgetC, qget, qgetC, alen, lenC, oI, oJ, oF, oA, oV, oH, oInc, oIld, oJld, oQld, oR, oLen, oIst, oBst, oJst, oQst, ciOf, rcv, oCp, cat1, cond_true, cond_false, Bool.and_self, Bool.and_true, Bool.true_and, Bool.or_true, Bool.true_or, Bool.or_false, Bool.false_or, Bool.not_false, Bool.not_true, ↓reduceIte, Nat.reduceBEq, Nat.reduceEqDiff, beq_self_eq_true, true_and, and_true, eq_self_iff_true, Nat.reduceAdd, Nat.blt, Nat.ble, z_le, z_lt, z_eq, z_cl, z_add, z_sub, z_mul, z_in, z_lt0, z_ofN, z_m1, z_ltm1, z_m1lt, z_eqm1, z_m1eq, z_m1le, z_lem1, z_beq, nI_0_1, nI_m1lt0, nI_0lem1, not_false_eq_true, not_true_eq_false, forall_const, false_implies, true_implies, implies_true, false_and, and_false, mrg, renc, tra, trv, sg, List.map_cons, List.map_nil, Option.map_some, Option.map_none, Option.toList_some, Option.toList_none, List.cons_append, List.nil_append, List.length_cons, List.length_nil]
    exact hret
  · have q2 : ¬ x ≤ nI 5 := fun z => absurd z (Int32.not_le.mpr (hx.resolve_left q))
    refine wp_aw (S := fun _ => false) (by decide) 200 _ _ _ _ _ _ ?_
    simp (disch := first | exact rfl | decide | omega) only [u_75_0, u_75_1, u_75_4, u_75_5, u_75_6, u_75_9, u_75_10, u_75_12, u_75_15, u_75_16, u_75_17, u_75_20, u_75_21, u_75_24, u_75_25, u_75_28, u_75_31, u_75_32, u_75_33, u_75_34, u_75_37, u_75_38, u_75_39, u_75_42, u_75_45, u_75_47, u_75_48, u_75_49, wp_stop, lget, lput1, lput2, kil, hget, hset, vget, vset, fget, fgetC, fput, fputC, iget, igetC, jget, jgetC, qget, qgetC, alen, lenC, oI, oJ, oF, oA, oV, oH, oInc, oIld, oJld, oQld, oR, oLen, oIst, oBst, oJst, oQst, ciOf, rcv, oCp, cat1, cond_true, cond_false, Bool.and_self, Bool.and_true, Bool.true_and, Bool.or_true, Bool.true_or, Bool.or_false, Bool.false_or, Bool.not_false, Bool.not_true, ↓reduceIte, Nat.reduceBEq, Nat.reduceEqDiff, beq_self_eq_true, true_and, and_true, eq_self_iff_true, Nat.reduceAdd, Nat.blt, Nat.ble, z_le, z_lt, z_eq, z_cl, z_add, z_sub, z_mul, z_in, z_lt0, z_ofN, z_m1, z_ltm1, z_m1lt, z_eqm1, z_m1eq, z_m1le, z_lem1, z_beq, nI_0_1, nI_m1lt0, nI_0lem1, not_false_eq_true, not_true_eq_false, forall_const, false_implies, true_implies, implies_true, false_and, and_false, mrg, renc, tra, trv, sg, List.map_cons, List.map_nil, Option.map_some, Option.map_none, Option.toList_some, Option.toList_none, List.cons_append, List.nil_append, List.length_cons, List.length_nil, eL, mL_75, jH, jF, q, q2]
    refine CAL.dir (hrb) (by rw [ggd]; omega) (by show _ ≤ gC G; omega) (by show _ ≤ gS G; omega) (Nat.le_of_ble_eq_true rfl) (by rw [ggn]; exact Nat.le_of_ble_eq_true rfl) rfl rfl ?_
    rintro _ _ ⟨rfl, rfl⟩
    simp (disch := first | exact rfl | decide | omega) only [u_75_0, u_75_1, u_75_4, u_75_5, u_75_6, u_75_9, u_75_10, u_75_12, u_75_15, u_75_16, u_75_17, u_75_20, u_75_21, u_75_24, u_75_25, u_75_28, u_75_31, u_75_32, u_75_33, u_75_34, u_75_37, u_75_38, u_75_39, u_75_42, u_75_45, u_75_47, u_75_48, u_75_49, wp_stop, lget, lput1, lput2, kil, hget, hset, vget, vset, fget, fgetC, fput, fputC, iget, igetC, jget, jgetC, qget, qgetC, alen, lenC, oI, oJ, oF, oA, oV, oH, oInc, oIld, oJld, oQld, oR, oLen, oIst, oBst, oJst, oQst, ciOf, rcv, oCp, cat1, cond_true, cond_false, Bool.and_self, Bool.and_true, Bool.true_and, Bool.or_true, Bool.true_or, Bool.or_false, Bool.false_or, Bool.not_false, Bool.not_true, ↓reduceIte, Nat.reduceBEq, Nat.reduceEqDiff, beq_self_eq_true, true_and, and_true, eq_self_iff_true, Nat.reduceAdd, Nat.blt, Nat.ble, z_le, z_lt, z_eq, z_cl, z_add, z_sub, z_mul, z_in, z_lt0, z_ofN, z_m1, z_ltm1, z_m1lt, z_eqm1, z_m1eq, z_m1le, z_lem1, z_beq, nI_0_1, nI_m1lt0, nI_0lem1, not_false_eq_true, not_true_eq_false, forall_const, false_implies, true_implies, implies_true, false_and, and_false, mrg, renc, tra, trv, sg, List.map_cons, List.map_nil, Option.map_some, Option.map_none, Option.toList_some, Option.toList_none, List.cons_append, List.nil_append, List.length_cons, List.length_nil]
    exact hret
set_option maxRecDepth 100000 in
theorem c_judge (d w len : Nat) (hw : w < 6) (ν : Nat → aN) (T : List Nat) (e : J.2.1.1 = nI len) (hT : txR J.2.1.2 T) (hl : T.length = len) (hl2 : len ≤ 150) (hy : jY PM ν) (h9 : ∀ x, 9 ≤ x → okN (ν x)) (h14 : ∀ x, x < 9 → ((kbF (kb0 ν) T 0).2.2.2.2.2.2 x).2.1.1.length ≤ 2 ^ 14) :
    aSp (d + 10) 75 [.ref 0, .int (nI w)] (jH J PM) jv (fY yC (kbF (kb0 ν) T 0).2.2.2.2.2.2 - fY yC ν) (fY yS (kbF (kb0 ν) T 0).2.2.2.2.2.2 - fY yS ν)
      (fun r h' => r = some (.int (jdA (kbW (kb0 ν) T) (jbA (kbE (kbF (kb0 ν) T 0).2 len) (kbF (kb0 ν) T 0).2.2.2.2.1 (kbF (kb0 ν) T 0).2.2.2.2.2.1 w))) ∧ ∃ bk PM', h' = jH (bkJ J bk) PM' ∧ jY PM' (kbF (kb0 ν) T 0).2.2.2.2.2.2) := by
  obtain ⟨mv, hmv, hgo⟩ := J_go d len J PM ν T e hT hl hl2 hy h9 h14
  have hfi : ∀ i, kbW (kb0 ν) T = some i → i ≤ len := fun i hi => by rw [← hl]; exact kbW_le hi
  have hEI := kbE_le ν T
  rw [hl] at hEI
  generalize kbW (kb0 ν) T = f at *
  generalize kbF (kb0 ν) T 0 = FF at *
  obtain ⟨ff, stk, bb, qq, le, de, νF⟩ := FF
  dsimp only at *
  generalize hE : kbE (stk, bb, qq, le, de, νF) len = qE at *
  unfold goJ at hgo
  dsimp only at hgo
  rw [hE] at hgo
  refine sp_of (by decide) (Nat.le_of_ble_eq_true rfl) ?_
  generalize hG : ((d + 10, _, jv, _, _, _) : aG) = G
  have ggd : gD G = d + 10 := by subst hG; rfl
  have ggn : gN G = 193 := by subst hG; exact jH_len _ _
  have ggm : gM G = jv := by subst hG; rfl
  have ggc : gC G = fY yC νF - fY yC ν := by subst hG; rfl
  have ggs : gS G = fY yS νF - fY yS ν := by subst hG; rfl
  have hret : ∀ bk PM' k' n', jY PM' νF → k' ≤ gC G → n' ≤ gS G → RET G (some (.int (jdA f (jbA qE le de w)))) (jH (bkJ J bk) PM') k' n' := by
    subst hG
    exact fun bk PM' k' n' q1 q2 q3 => RET.id ⟨rfl, bk, PM', rfl, q1⟩ q2 q3
  clear hG
  have t1 : ¬ w < 0 := by omega
  have t2 : w ≤ 5 := by omega
  have hok := qI_OK hEI.2 (by omega)
  cases f with
  | some i =>
    have hi := hfi i rfl
    refine wp_aw (S := fun _ => false) (by decide) 200 _ _ _ _ _ _ ?_
    simp (disch := first | exact rfl | decide | omega) only [u_75_0, u_75_1, u_75_4, u_75_5, u_75_6, u_75_9, u_75_10, u_75_12, u_75_15, u_75_16, u_75_17, u_75_20, u_75_21, u_75_24, u_75_25, u_75_28, u_75_31, u_75_32, u_75_33, u_75_34, u_75_37, u_75_38, u_75_39, u_75_42, u_75_45, u_75_47, u_75_48, u_75_49, wp_stop, lget, lput1, lput2, kil, hget, hset, vget, vset, fget, fgetC, fput, fputC, iget, igetC, jget, jgetC, qget, qgetC, alen, lenC, oI, oJ, oF, oA, oV, oH, oInc, oIld, oJld, oQld, oR, oLen, oIst, oBst, oJst, oQst, ciOf, rcv, oCp, cat1, cond_true, cond_false, Bool.and_self, Bool.and_true, Bool.true_and, Bool.or_true, Bool.true_or, Bool.or_false, Bool.false_or, Bool.not_false, Bool.not_true, ↓reduceIte, Nat.reduceBEq, Nat.reduceEqDiff, beq_self_eq_true, true_and, and_true, eq_self_iff_true, Nat.reduceAdd, Nat.blt, Nat.ble, z_le, z_lt, z_eq, z_cl, z_add, z_sub, z_mul, z_in, z_lt0, z_ofN, z_m1, z_ltm1, z_m1lt, z_eqm1, z_m1eq, z_m1le, z_lem1, z_beq, nI_0_1, nI_m1lt0, nI_0lem1, not_false_eq_true, not_true_eq_false, forall_const, false_implies, true_implies, implies_true, false_and, and_false, mrg, renc, tra, trv, sg, List.map_cons, List.map_nil, Option.map_some, Option.map_none, Option.toList_some, Option.toList_none, List.cons_append, List.nil_append, List.length_cons, List.length_nil, eL, mL_75, jH, jF, t1, t2]
    refine CAL.dirM hgo (by rw [ggd]; omega) (by show _ ≤ gC G; rw [ggc]; omega) (by show _ ≤ gS G; rw [ggs]; omega) (Nat.le_of_ble_eq_true rfl) (by rw [ggn]; exact Nat.le_of_ble_eq_true rfl) (fun j _ z => jv_I hmv (by rw [← ggm]; exact z)) (okL_mono hmv rfl) rfl ?_
    rintro _ _ ⟨q1, -⟩
    obtain ⟨rfl, bk, PM', rfl, hy'⟩ := q1 i rfl
    have hf := hret bk PM' (0 + (fY yC νF - fY yC ν)) (0 + (fY yS νF - fY yS ν)) hy' (by rw [ggc]; omega) (by rw [ggs]; omega)
    clear hret
    have e5 : jdA (some i) (jbA qE le de w) = -10 - nI i := rfl
    rw [e5] at hf
    generalize hv : (-10 - nI i : Int32) = v at *
    simp (disch := first | exact rfl | decide | omega) only [u_75_0, u_75_1, u_75_4, u_75_5, u_75_6, u_75_9, u_75_10, u_75_12, u_75_15, u_75_16, u_75_17, u_75_20, u_75_21, u_75_24, u_75_25, u_75_28, u_75_31, u_75_32, u_75_33, u_75_34, u_75_37, u_75_38, u_75_39, u_75_42, u_75_45, u_75_47, u_75_48, u_75_49, wp_stop, lget, lput1, lput2, kil, hget, hset, vget, vset, fget, fgetC, fput, fputC, iget, igetC, jget, jgetC, qget, qgetC, alen, lenC, oI, oJ, oF, oA, oV, oH, oInc, oIld, oJld, oQld, oR, oLen, oIst, oBst, oJst, oQst, ciOf, rcv, oCp, cat1, cond_true, cond_false, Bool.and_self, Bool.and_true, Bool.true_and, Bool.or_true, Bool.true_or, Bool.or_false, Bool.false_or, Bool.not_false, Bool.not_true, ↓reduceIte, Nat.reduceBEq, Nat.reduceEqDiff, beq_self_eq_true, true_and, and_true, eq_self_iff_true, Nat.reduceAdd, Nat.blt, Nat.ble, z_le, z_lt, z_eq, z_cl, z_add, z_sub, z_mul, z_in, z_lt0, z_ofN, z_m1, z_ltm1, z_m1lt, z_eqm1, z_m1eq, z_m1le, z_lem1, z_beq, nI_0_1, nI_m1lt0, nI_0lem1, not_false_eq_true, not_true_eq_false, forall_const, false_implies, true_implies, implies_true, false_and, and_false, mrg, renc, tra, trv, sg, List.map_cons, List.map_nil, Option.map_some, Option.map_none, Option.toList_some, Option.toList_none, List.cons_append, List.nil_append, List.length_cons, List.length_nil, hv]
    exact hf
  | none =>
    refine wp_aw (S := fun _ => false) (by decide) 200 _ _ _ _ _ _ ?_
    simp (disch := first | exact rfl | decide | omega) only [u_75_0, u_75_1, u_75_4, u_75_5, u_75_6, u_75_9, u_75_10, u_75_12, u_75_15, u_75_16, u_75_17, u_75_20, u_75_21, u_75_24, u_75_25, u_75_28, u_75_31, u_75_32, u_75_33, u_75_34, u_75_37, u_75_38, u_75_39, u_75_42, u_75_45, u_75_47, u_75_48, u_75_49, wp_stop, lget, lput1, lput2, kil, hget, hset, vget, vset, fget, fgetC, fput, fputC, iget, igetC, jget, jgetC, qget, qgetC, alen, lenC, oI, oJ, oF, oA, oV, oH, oInc, oIld, oJld, oQld, oR, oLen, oIst, oBst, oJst, oQst, ciOf, rcv, oCp, cat1, cond_true, cond_false, Bool.and_self, Bool.and_true, Bool.true_and, Bool.or_true, Bool.true_or, Bool.or_false, Bool.false_or, Bool.not_false, Bool.not_true, ↓reduceIte, Nat.reduceBEq, Nat.reduceEqDiff, beq_self_eq_true, true_and, and_true, eq_self_iff_true, Nat.reduceAdd, Nat.blt, Nat.ble, z_le, z_lt, z_eq, z_cl, z_add, z_sub, z_mul, z_in, z_lt0, z_ofN, z_m1, z_ltm1, z_m1lt, z_eqm1, z_m1eq, z_m1le, z_lem1, z_beq, nI_0_1, nI_m1lt0, nI_0lem1, not_false_eq_true, not_true_eq_false, forall_const, false_implies, true_implies, implies_true, false_and, and_false, mrg, renc, tra, trv, sg, List.map_cons, List.map_nil, Option.map_some, Option.map_none, Option.toList_some, Option.toList_none, List.cons_append, List.nil_append, List.length_cons, List.length_nil, eL, mL_75, jH, jF, t1, t2]
    refine CAL.dirM hgo (by rw [ggd]; omega) (by show _ ≤ gC G; rw [ggc]; omega) (by show _ ≤ gS G; rw [ggs]; omega) (Nat.le_of_ble_eq_true rfl) (by rw [ggn]; exact Nat.le_of_ble_eq_true rfl) (fun j _ z => jv_I hmv (by rw [← ggm]; exact z)) (okL_mono hmv rfl) rfl ?_
    rintro _ _ ⟨-, q2⟩
    obtain ⟨rfl, ow, st, PM', rfl, hy'⟩ := q2 rfl
    have hob := c_ofBook d w le de hw qE hok J PM' (nI 0) (bv none) (fv qE).2.2.2 ow st
    have hf := hret (nI 0, bv none, (fv qE).1, (fv qE).2.1, (fv qE).2.2.1, nI le, (fv qE).2.2.2, nI de, ow, st) PM' (0 + (fY yC νF - fY yC ν) + 0) (0 + (fY yS νF - fY yS ν) + 0) hy' (by rw [ggc]; omega) (by rw [ggs]; omega)
    clear hret
    have e5 : jdA none (jbA qE le de w) = jbA qE le de w := rfl
    rw [e5] at hf
    simp (disch := first | exact rfl | decide | omega) only [u_75_0, u_75_1, u_75_4, u_75_5, u_75_6, u_75_9, u_75_10, u_75_12, u_75_15, u_75_16, u_75_17, u_75_20, u_75_21, u_75_24, u_75_25, u_75_28, u_75_31, u_75_32, u_75_33, u_75_34, u_75_37, u_75_38, u_75_39, u_75_42, u_75_45, u_75_47, u_75_48, u_75_49, wp_stop, lget, lput1, lput2, kil, hget, hset, vget, vset, fget, fgetC, fput, fputC, iget, igetC, jget, jgetC, qget, qgetC, alen, lenC, oI, oJ, oF, oA, oV, oH, oInc, oIld, oJld, oQld, oR, oLen, oIst, oBst, oJst, oQst, ciOf, rcv, oCp, cat1, cond_true, cond_false, Bool.and_self, Bool.and_true, Bool.true_and, Bool.or_true, Bool.true_or, Bool.or_false, Bool.false_or, Bool.not_false, Bool.not_true, ↓reduceIte, Nat.reduceBEq, Nat.reduceEqDiff, beq_self_eq_true, true_and, and_true, eq_self_iff_true, Nat.reduceAdd, Nat.blt, Nat.ble, z_le, z_lt, z_eq, z_cl, z_add, z_sub, z_mul, z_in, z_lt0, z_ofN, z_m1, z_ltm1, z_m1lt, z_eqm1, z_m1eq, z_m1le, z_lem1, z_beq, nI_0_1, nI_m1lt0, nI_0lem1, not_false_eq_true, not_true_eq_false, forall_const, false_implies, true_implies, implies_true, false_and, and_false, mrg, renc, tra, trv, sg, List.map_cons, List.map_nil, Option.map_some, Option.map_none, Option.toList_some, Option.toList_none, List.cons_append, List.nil_append, List.length_cons, List.length_nil, jH, jF]
    refine CAL.dir hob (by rw [ggd]; omega) (by show _ ≤ gC G; rw [ggc]; omega) (by show _ ≤ gS G; rw [ggs]; omega) (Nat.le_of_ble_eq_true rfl) (by rw [ggn]; exact Nat.le_of_ble_eq_true rfl) rfl rfl ?_
    rintro _ _ ⟨rfl, rfl⟩
    simp (disch := first | exact rfl | decide | omega) only [u_75_0, u_75_1, u_75_4, u_75_5, u_75_6, u_75_9, u_75_10, u_75_12, u_75_15, u_75_16, u_75_17, u_75_20, u_75_21, u_75_24, u_75_25, u_75_28, u_75_31, u_75_32, u_75_33, u_75_34, u_75_37, u_75_38, u_75_39, u_75_42, u_75_45, u_75_47, u_75_48, u_75_49, wp_stop, lget, lput1, lput2, kil, hget, hset, vget, vset, fget, fgetC, fput, fputC, iget, igetC, jget, jgetC, qget, qgetC, alen, lenC, oI, oJ, oF, oA, oV, oH, oInc, oIld, oJld, oQld, oR, oLen, oIst, oBst, oJst, oQst, ciOf, rcv, oCp, cat1, cond_true, cond_false, Bool.and_self, Bool.and_true, Bool.true_and, Bool.or_true, Bool.true_or, Bool.or_false, Bool.false_or, Bool.not_false, Bool.not_true, ↓reduceIte, Nat.reduceBEq, Nat.reduceEqDiff, beq_self_eq_true, true_and, and_true, eq_self_iff_true, Nat.reduceAdd, Nat.blt, Nat.ble, z_le, z_lt, z_eq, z_cl, z_add, z_sub, z_mul, z_in, z_lt0, z_ofN, z_m1, z_ltm1, z_m1lt, z_eqm1, z_m1eq, z_m1le, z_lem1, z_beq, nI_0_1, nI_m1lt0, nI_0lem1, not_false_eq_true, not_true_eq_false, forall_const, false_implies, true_implies, implies_true, false_and, and_false, mrg, renc, tra, trv, sg, List.map_cons, List.map_nil, Option.map_some, Option.map_none, Option.toList_some, Option.toList_none, List.cons_append, List.nil_append, List.length_cons, List.length_nil]
    exact hf
set_option maxRecDepth 100000 in
theorem c_mark (d len : Nat) (ν : Nat → aN) (T : List Nat) (e : J.2.1.1 = nI len) (hT : txR J.2.1.2 T) (hl : T.length = len) (hl2 : len ≤ 150) (hy : jY PM ν) (h9 : ∀ x, 9 ≤ x → okN (ν x)) (h14 : ∀ x, x < 9 → ((kbF (kb0 ν) T 0).2.2.2.2.2.2 x).2.1.1.length ≤ 2 ^ 14) :
    aSp (d + 10) 86 [.ref 0] (jH J PM) jv (fY yC (kbF (kb0 ν) T 0).2.2.2.2.2.2 - fY yC ν) (fY yS (kbF (kb0 ν) T 0).2.2.2.2.2.2 - fY yS ν)
      (fun r h' => r = some (.int (jdA (kbW (kb0 ν) T) (nI (shF (kbE (kbF (kb0 ν) T 0).2 len) (kbF (kb0 ν) T 0).2.2.2.2.1).toNat))) ∧ ∃ bk PM', h' = jH (bkJ J bk) PM' ∧ jY PM' (kbF (kb0 ν) T 0).2.2.2.2.2.2) := by
  obtain ⟨mv, hmv, hgo⟩ := J_go d len J PM ν T e hT hl hl2 hy h9 h14
  have hfi : ∀ i, kbW (kb0 ν) T = some i → i ≤ len := fun i hi => by rw [← hl]; exact kbW_le hi
  have hEI := kbE_le ν T
  rw [hl] at hEI
  generalize kbW (kb0 ν) T = f at *
  generalize kbF (kb0 ν) T 0 = FF at *
  obtain ⟨ff, stk, bb, qq, le, de, νF⟩ := FF
  dsimp only at *
  generalize hE : kbE (stk, bb, qq, le, de, νF) len = qE at *
  unfold goJ at hgo
  dsimp only at hgo
  rw [hE] at hgo
  refine sp_of (by decide) (Nat.le_of_ble_eq_true rfl) ?_
  generalize hG : ((d + 10, _, jv, _, _, _) : aG) = G
  have ggd : gD G = d + 10 := by subst hG; rfl
  have ggn : gN G = 193 := by subst hG; exact jH_len _ _
  have ggm : gM G = jv := by subst hG; rfl
  have ggc : gC G = fY yC νF - fY yC ν := by subst hG; rfl
  have ggs : gS G = fY yS νF - fY yS ν := by subst hG; rfl
  have hret : ∀ bk PM' k' n', jY PM' νF → k' ≤ gC G → n' ≤ gS G → RET G (some (.int (jdA f (nI (shF qE le).toNat)))) (jH (bkJ J bk) PM') k' n' := by
    subst hG
    exact fun bk PM' k' n' q1 q2 q3 => RET.id ⟨rfl, bk, PM', rfl, q1⟩ q2 q3
  clear hG
  have hR := shF_R (by omega) hEI.2
  cases f with
  | some i =>
    have hi := hfi i rfl
    refine wp_aw (S := fun _ => false) (by decide) 200 _ _ _ _ _ _ ?_
    simp (disch := first | exact rfl | decide | omega) only [u_86_0, u_86_1, u_86_4, u_86_5, u_86_8, u_86_9, u_86_12, u_86_15, u_86_16, u_86_17, u_86_18, u_86_21, u_86_22, u_86_25, u_86_28, u_86_31, u_86_34, u_86_36, u_86_37, u_86_38, wp_stop, lget, lput1, lput2, kil, hget, hset, vget, vset, fget, fgetC, fput, fputC, iget, igetC, jget, jgetC, qget, qgetC, alen, lenC, oI, oJ, oF, oA, oV, oH, oInc, oIld, oJld, oQld, oR, oLen, oIst, oBst, oJst, oQst, ciOf, rcv, oCp, cat1, cond_true, cond_false, Bool.and_self, Bool.and_true, Bool.true_and, Bool.or_true, Bool.true_or, Bool.or_false, Bool.false_or, Bool.not_false, Bool.not_true, ↓reduceIte, Nat.reduceBEq, Nat.reduceEqDiff, beq_self_eq_true, true_and, and_true, eq_self_iff_true, Nat.reduceAdd, Nat.blt, Nat.ble, z_le, z_lt, z_eq, z_cl, z_add, z_sub, z_mul, z_in, z_lt0, z_ofN, z_m1, z_ltm1, z_m1lt, z_eqm1, z_m1eq, z_m1le, z_lem1, z_beq, nI_0_1, nI_m1lt0, nI_0lem1, not_false_eq_true, not_true_eq_false, forall_const, false_implies, true_implies, implies_true, false_and, and_false, mrg, renc, tra, trv, sg, List.map_cons, List.map_nil, Option.map_some, Option.map_none, Option.toList_some, Option.toList_none, List.cons_append, List.nil_append, List.length_cons, List.length_nil, eL, mL_86, jH, jF]
    refine CAL.dirM hgo (by rw [ggd]; omega) (by show _ ≤ gC G; rw [ggc]; omega) (by show _ ≤ gS G; rw [ggs]; omega) (Nat.le_of_ble_eq_true rfl) (by rw [ggn]; exact Nat.le_of_ble_eq_true rfl) (fun j _ z => jv_I hmv (by rw [← ggm]; exact z)) (okL_mono hmv rfl) rfl ?_
    rintro _ _ ⟨q1, -⟩
    obtain ⟨rfl, bk, PM', rfl, hy'⟩ := q1 i rfl
    have hf := hret bk PM' (0 + (fY yC νF - fY yC ν)) (0 + (fY yS νF - fY yS ν)) hy' (by rw [ggc]; omega) (by rw [ggs]; omega)
    clear hret
    have e5 : jdA (some i) (nI (shF qE le).toNat) = -10 - nI i := rfl
    rw [e5] at hf
    generalize hv : (-10 - nI i : Int32) = v at *
    simp (disch := first | exact rfl | decide | omega) only [u_86_0, u_86_1, u_86_4, u_86_5, u_86_8, u_86_9, u_86_12, u_86_15, u_86_16, u_86_17, u_86_18, u_86_21, u_86_22, u_86_25, u_86_28, u_86_31, u_86_34, u_86_36, u_86_37, u_86_38, wp_stop, lget, lput1, lput2, kil, hget, hset, vget, vset, fget, fgetC, fput, fputC, iget, igetC, jget, jgetC, qget, qgetC, alen, lenC, oI, oJ, oF, oA, oV, oH, oInc, oIld, oJld, oQld, oR, oLen, oIst, oBst, oJst, oQst, ciOf, rcv, oCp, cat1, cond_true, cond_false, Bool.and_self, Bool.and_true, Bool.true_and, Bool.or_true, Bool.true_or, Bool.or_false, Bool.false_or, Bool.not_false, Bool.not_true, ↓reduceIte, Nat.reduceBEq, Nat.reduceEqDiff, beq_self_eq_true, true_and, and_true, eq_self_iff_true, Nat.reduceAdd, Nat.blt, Nat.ble, z_le, z_lt, z_eq, z_cl, z_add, z_sub, z_mul, z_in, z_lt0, z_ofN, z_m1, z_ltm1, z_m1lt, z_eqm1, z_m1eq, z_m1le, z_lem1, z_beq, nI_0_1, nI_m1lt0, nI_0lem1, not_false_eq_true, not_true_eq_false, forall_const, false_implies, true_implies, implies_true, false_and, and_false, mrg, renc, tra, trv, sg, List.map_cons, List.map_nil, Option.map_some, Option.map_none, Option.toList_some, Option.toList_none, List.cons_append, List.nil_append, List.length_cons, List.length_nil, hv]
    exact hf
  | none =>
    refine wp_aw (S := fun _ => false) (by decide) 200 _ _ _ _ _ _ ?_
    simp (disch := first | exact rfl | decide | omega) only [u_86_0, u_86_1, u_86_4, u_86_5, u_86_8, u_86_9, u_86_12, u_86_15, u_86_16, u_86_17, u_86_18, u_86_21, u_86_22, u_86_25, u_86_28, u_86_31, u_86_34, u_86_36, u_86_37, u_86_38, wp_stop, lget, lput1, lput2, kil, hget, hset, vget, vset, fget, fgetC, fput, fputC, iget, igetC, jget, jgetC, qget, qgetC, alen, lenC, oI, oJ, oF, oA, oV, oH, oInc, oIld, oJld, oQld, oR, oLen, oIst, oBst, oJst, oQst, ciOf, rcv, oCp, cat1, cond_true, cond_false, Bool.and_self, Bool.and_true, Bool.true_and, Bool.or_true, Bool.true_or, Bool.or_false, Bool.false_or, Bool.not_false, Bool.not_true, ↓reduceIte, Nat.reduceBEq, Nat.reduceEqDiff, beq_self_eq_true, true_and, and_true, eq_self_iff_true, Nat.reduceAdd, Nat.blt, Nat.ble, z_le, z_lt, z_eq, z_cl, z_add, z_sub, z_mul, z_in, z_lt0, z_ofN, z_m1, z_ltm1, z_m1lt, z_eqm1, z_m1eq, z_m1le, z_lem1, z_beq, nI_0_1, nI_m1lt0, nI_0lem1, not_false_eq_true, not_true_eq_false, forall_const, false_implies, true_implies, implies_true, false_and, and_false, mrg, renc, tra, trv, sg, List.map_cons, List.map_nil, Option.map_some, Option.map_none, Option.toList_some, Option.toList_none, List.cons_append, List.nil_append, List.length_cons, List.length_nil, eL, mL_86, jH, jF]
    refine CAL.dirM hgo (by rw [ggd]; omega) (by show _ ≤ gC G; rw [ggc]; omega) (by show _ ≤ gS G; rw [ggs]; omega) (Nat.le_of_ble_eq_true rfl) (by rw [ggn]; exact Nat.le_of_ble_eq_true rfl) (fun j _ z => jv_I hmv (by rw [← ggm]; exact z)) (okL_mono hmv rfl) rfl ?_
    rintro _ _ ⟨-, q2⟩
    obtain ⟨rfl, ow, st, PM', rfl, hy'⟩ := q2 rfl
    have hob := c_share d le de len qE hEI.2 (by omega) (by omega) J PM' (nI 0) (bv none) ow st
    have hf := hret (nI 0, bv none, (fv qE).1, (fv qE).2.1, (fv qE).2.2.1, nI le, (fv qE).2.2.2, nI de, ow, st) PM' (0 + (fY yC νF - fY yC ν) + 0 + 0) (0 + (fY yS νF - fY yS ν) + 0 + 0) hy' (by rw [ggc]; omega) (by rw [ggs]; omega)
    clear hret
    have e5 : jdA none (nI (shF qE le).toNat) = nI (shF qE le).toNat := rfl
    rw [e5] at hf
    generalize shF qE le = s at *
    simp (disch := first | exact rfl | decide | omega) only [u_86_0, u_86_1, u_86_4, u_86_5, u_86_8, u_86_9, u_86_12, u_86_15, u_86_16, u_86_17, u_86_18, u_86_21, u_86_22, u_86_25, u_86_28, u_86_31, u_86_34, u_86_36, u_86_37, u_86_38, wp_stop, lget, lput1, lput2, kil, hget, hset, vget, vset, fget, fgetC, fput, fputC, iget, igetC, jget, jgetC, qget, qgetC, alen, lenC, oI, oJ, oF, oA, oV, oH, oInc, oIld, oJld, oQld, oR, oLen, oIst, oBst, oJst, oQst, ciOf, rcv, oCp, cat1, cond_true, cond_false, Bool.and_self, Bool.and_true, Bool.true_and, Bool.or_true, Bool.true_or, Bool.or_false, Bool.false_or, Bool.not_false, Bool.not_true, ↓reduceIte, Nat.reduceBEq, Nat.reduceEqDiff, beq_self_eq_true, true_and, and_true, eq_self_iff_true, Nat.reduceAdd, Nat.blt, Nat.ble, z_le, z_lt, z_eq, z_cl, z_add, z_sub, z_mul, z_in, z_lt0, z_ofN, z_m1, z_ltm1, z_m1lt, z_eqm1, z_m1eq, z_m1le, z_lem1, z_beq, nI_0_1, nI_m1lt0, nI_0lem1, not_false_eq_true, not_true_eq_false, forall_const, false_implies, true_implies, implies_true, false_and, and_false, mrg, renc, tra, trv, sg, List.map_cons, List.map_nil, Option.map_some, Option.map_none, Option.toList_some, Option.toList_none, List.cons_append, List.nil_append, List.length_cons, List.length_nil, jH, jF]
    refine CAL.dir hob (by rw [ggd]; omega) (by show _ ≤ gC G; rw [ggc]; omega) (by show _ ≤ gS G; rw [ggs]; omega) (Nat.le_of_ble_eq_true rfl) (by rw [ggn]; exact Nat.le_of_ble_eq_true rfl) rfl rfl ?_
    rintro _ _ ⟨rfl, rfl⟩
    simp (disch := first | exact rfl | decide | omega) only [u_86_0, u_86_1, u_86_4, u_86_5, u_86_8, u_86_9, u_86_12, u_86_15, u_86_16, u_86_17, u_86_18, u_86_21, u_86_22, u_86_25, u_86_28, u_86_31, u_86_34, u_86_36, u_86_37, u_86_38, wp_stop, lget, lput1, lput2, kil, hget, hset, vget, vset, fget, fgetC, fput, fputC, iget, igetC, jget, jgetC, qget, qgetC, alen, lenC, oI, oJ, oF, oA, oV, oH, oInc, oIld, oJld, oQld, oR, oLen, oIst, oBst, oJst, oQst, ciOf, rcv, oCp, cat1, cond_true, cond_false, Bool.and_self, Bool.and_true, Bool.true_and, Bool.or_true, Bool.true_or, Bool.or_false, Bool.false_or, Bool.not_false, Bool.not_true, ↓reduceIte, Nat.reduceBEq, Nat.reduceEqDiff, beq_self_eq_true, true_and, and_true, eq_self_iff_true, Nat.reduceAdd, Nat.blt, Nat.ble, z_le, z_lt, z_eq, z_cl, z_add, z_sub, z_mul, z_in, z_lt0, z_ofN, z_m1, z_ltm1, z_m1lt, z_eqm1, z_m1eq, z_m1le, z_lem1, z_beq, nI_0_1, nI_m1lt0, nI_0lem1, not_false_eq_true, not_true_eq_false, forall_const, false_implies, true_implies, implies_true, false_and, and_false, mrg, renc, tra, trv, sg, List.map_cons, List.map_nil, Option.map_some, Option.map_none, Option.toList_some, Option.toList_none, List.cons_append, List.nil_append, List.length_cons, List.length_nil, jH, jF]
    refine CAL.dir (c_bitsOf d s hR _) (by rw [ggd]; omega) (by show _ ≤ gC G; rw [ggc]; omega) (by show _ ≤ gS G; rw [ggs]; omega) (Nat.le_of_ble_eq_true rfl) (by rw [ggn]; exact Nat.le_of_ble_eq_true rfl) rfl rfl ?_
    rintro _ _ ⟨rfl, rfl⟩
    simp (disch := first | exact rfl | decide | omega) only [u_86_0, u_86_1, u_86_4, u_86_5, u_86_8, u_86_9, u_86_12, u_86_15, u_86_16, u_86_17, u_86_18, u_86_21, u_86_22, u_86_25, u_86_28, u_86_31, u_86_34, u_86_36, u_86_37, u_86_38, wp_stop, lget, lput1, lput2, kil, hget, hset, vget, vset, fget, fgetC, fput, fputC, iget, igetC, jget, jgetC, qget, qgetC, alen, lenC, oI, oJ, oF, oA, oV, oH, oInc, oIld, oJld, oQld, oR, oLen, oIst, oBst, oJst, oQst, ciOf, rcv, oCp, cat1, cond_true, cond_false, Bool.and_self, Bool.and_true, Bool.true_and, Bool.or_true, Bool.true_or, Bool.or_false, Bool.false_or, Bool.not_false, Bool.not_true, ↓reduceIte, Nat.reduceBEq, Nat.reduceEqDiff, beq_self_eq_true, true_and, and_true, eq_self_iff_true, Nat.reduceAdd, Nat.blt, Nat.ble, z_le, z_lt, z_eq, z_cl, z_add, z_sub, z_mul, z_in, z_lt0, z_ofN, z_m1, z_ltm1, z_m1lt, z_eqm1, z_m1eq, z_m1le, z_lem1, z_beq, nI_0_1, nI_m1lt0, nI_0lem1, not_false_eq_true, not_true_eq_false, forall_const, false_implies, true_implies, implies_true, false_and, and_false, mrg, renc, tra, trv, sg, List.map_cons, List.map_nil, Option.map_some, Option.map_none, Option.toList_some, Option.toList_none, List.cons_append, List.nil_append, List.length_cons, List.length_nil]
    exact hf
end JM
