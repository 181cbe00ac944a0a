/-! ResidualJudgeModel: operator, takesUnit, takesOperator -/
section PR
variable {gmd gop gwt : Nat → Int32} {gom gwm : Int32} {W L : List Nat}
theorem pr_m {u : Nat} (h : prG gmd gop gom gwt gwm W L u) : gmd 0 = nI L.length ∧ gom = nI (nzW W + u) ∧ gwm = nI W.length ∧ wtG gwt W := by
  obtain ⟨lf, st, p1, p2, p3, p4, p5, p6, p7, p8, p9⟩ := h
  exact ⟨p1, by rw [p4, p9], p6, p5⟩
theorem pr_leaf {k : Nat} (h : prG gmd gop gom gwt gwm W L 0) (hk : 1 ≤ k) (hk2 : k ≤ 9) : prG (mdN gmd L.length (nI (mkK k)) (-1) (-1)) (upd gop (nzW W) (nI L.length)) (nI (nzW W + 1)) gwt gwm W (L ++ [k]) 1 := by
  obtain ⟨lf, st, p1, p2, p3, p4, p5, p6, p7, p8, p9⟩ := h
  have hll : (L ++ [k]).length = L.length + 1 := by rw [List.length_append]; rfl
  obtain ⟨f1, f2⟩ := fo_leaf (k := k) (K' := kL (L ++ [k])) p7 p8 hk hk2 (fun j hj => kL_o hj) (kL_n L k)
  have hnd := ndG_app p2 (fun j hj => ⟨kL_o hj, rfl⟩ : agW (kL L) lf (kL (L ++ [k])) lf L.length) (its := nI (mkK k)) (a := -1) (b := -1) (by rw [kL_n]) (by unfold lfV; rw [kL_n, if_pos hk2]) (by unfold rtV; rw [kL_n, if_neg (by omega)])
  rw [Nat.add_zero] at p9
  exact ⟨lf, L.length :: st, by rw [mdN_0, hll], by rw [hll]; exact hnd, ⟨by rw [p9, upd_s], opG_push (by omega) p3⟩, by rw [List.length_cons, p9], p5, p6, by rw [hll]; exact f1, by rw [hll]; exact f2, by rw [List.length_cons, p9]⟩
theorem pr_un {k : Nat} (h : prG gmd gop gom gwt gwm W L 1) (hk : 13 ≤ k) (hk2 : k ≤ 15) : 0 < L.length ∧ gop (nzW W) = nI (L.length - 1) ∧ prG (mdN gmd L.length (nI (mkK k)) (nI (L.length - 1)) (-1)) (upd gop (nzW W) (nI L.length)) (nI (nzW W + 1)) gwt gwm W (L ++ [k]) 1 := by
  obtain ⟨lf, st, p1, p2, p3, p4, p5, p6, p7, p8, p9⟩ := h
  cases st with
  | nil => simp at p9
  | cons r st =>
    rw [List.length_cons] at p9
    have hll : (L ++ [k]).length = L.length + 1 := by rw [List.length_append]; rfl
    obtain ⟨f0, f1, f2⟩ := fo_un (k := k) (K' := kL (L ++ [k])) p7 p8 hk hk2 (fun j hj => kL_o hj) (kL_n L k)
    have e1 : st.length = nzW W := by omega
    have hnd := ndG_app p2 (fun j hj => ⟨kL_o hj, rfl⟩ : agW (kL L) lf (kL (L ++ [k])) lf L.length) (its := nI (mkK k)) (a := nI (L.length - 1)) (b := -1) (by rw [kL_n]) (by unfold lfV; rw [kL_n, if_neg (by omega), if_pos hk]) (by unfold rtV; rw [kL_n, if_neg (by omega)])
    refine ⟨by omega, ?_, lf, L.length :: st, by rw [mdN_0, hll], by rw [hll]; exact hnd, ⟨by rw [e1, upd_s], opG_push (by omega) p3.2⟩, by rw [List.length_cons, e1], p5, p6, by rw [hll]; exact f1, by rw [hll]; exact f2, by rw [List.length_cons, e1]⟩
    rw [← e1, p3.1, f0, Nat.add_sub_cancel]
theorem pr_bin {k : Nat} (h : prG gmd gop gom gwt gwm W L 1) (hk : 10 ≤ k) : prG gmd gop gom (upd gwt W.length (nI (wK k))) (nI (W.length + 1)) (k :: W) L 0 := by
  obtain ⟨lf, st, p1, p2, p3, p4, p5, p6, p7, p8, p9⟩ := h
  exact ⟨lf, st, p1, p2, p3, p4, ⟨upd_s, wtG_push (Nat.le_refl _) p5⟩, by rw [List.length_cons], p7, p8, by rw [nzW_c, if_neg (by omega)]; omega⟩
theorem pr_opn (h : prG gmd gop gom gwt gwm W L 0) : prG gmd gop gom (upd gwt W.length (nI 0)) (nI (W.length + 1)) (0 :: W) L 0 := by
  obtain ⟨lf, st, p1, p2, p3, p4, p5, p6, p7, p8, p9⟩ := h
  exact ⟨lf, st, p1, p2, p3, p4, ⟨upd_s, wtG_push (Nat.le_refl _) p5⟩, by rw [List.length_cons], p7, p8, by rw [nzW_c, if_pos rfl]; omega⟩
theorem pr_cls (h : prG gmd gop gom gwt gwm (0 :: W) L 1) : gwm = nI (W.length + 1) ∧ prG gmd gop gom gwt (nI W.length) W L 1 := by
  obtain ⟨lf, st, p1, p2, p3, p4, p5, p6, p7, p8, p9⟩ := h
  refine ⟨p6, lf, st, p1, p2, p3, p4, p5.2, rfl, p7, p8, ?_⟩
  rw [nzW_c, if_pos rfl] at p9
  omega
end PR
/-- the state of a reading that the model holds -/
def ppI (σ : rS) (gmd gop : Nat → Int32) (gom : Int32) (gwt : Nat → Int32) (gwm gtn gon : Int32) : Prop := prG gmd gop gom gwt gwm σ.W σ.L (if σ.ph = 3 then 1 else 0) ∧ gtn = nI σ.nd ∧ gon = nI σ.o ∧ wtO σ.W
/-- an operator's byte -/
def opB (c : Nat) : Option Nat := if c = 63 then some 13 else if c = 42 then some 14 else if c = 43 then some 15 else if c = 44 then some 12 else if c = 38 then some 11 else if c = 124 then some 10 else none
def opV : Option Nat → Int32
  | none => -1
  | some k => nI (mkK k)
set_option maxRecDepth 100000 in
theorem g_operator (d c : Nat) (hc : c < 128) (h : aH) : aSp d 116 [.int (nI c)] h nomv 0 0 (fun r h' => r = some (.int (opV (opB c))) ∧ h' = h) := by
  refine sp_of (by decide) (Nat.le_of_ble_eq_true rfl) ?_
  generalize hG : ((d, _, nomv, _, _, _) : aG) = G
  have hret : RET G (some (.int (opV (opB c)))) h 0 0 := by
    subst hG
    exact RET.id ⟨rfl, rfl⟩ (Nat.le_refl _) (Nat.le_refl _)
  clear hG
  by_cases q63 : c = 63
  · subst q63
    have hr2 : RET G (some (.int (nI 12))) h 0 0 := hret
    refine wp_aw (S := fun _ => false) (by decide) 200 _ _ _ _ _ _ ?_
    simp (disch := first | exact rfl | decide | omega) only [u_116_0, u_116_1, u_116_60, u_116_62, u_116_63, u_116_65, u_116_66, u_116_68, u_116_69, u_116_71, u_116_72, u_116_74, u_116_75, u_116_77, u_116_78, u_116_79, wp_stop, lget, lput1, lput2, kil, hget, hset, vget, vset, fget, fgetC, fput, fputC, iget, igetC, jget, jgetC, qget, qgetC, alen, lenC, oI, oJ, oF, oA, oV, oH, oInc, oIld, oJld, oQld, oR, oLen, oIst, oBst, oJst, oQst, ciOf, rcv, oCp, cat1, cond_true, cond_false, Bool.and_self, Bool.and_true, Bool.true_and, Bool.or_true, Bool.true_or, Bool.or_false, Bool.false_or, Bool.not_false, Bool.not_true, ↓reduceIte, Nat.reduceBEq, Nat.reduceEqDiff, beq_self_eq_true, true_and, and_true, eq_self_iff_true, Nat.reduceAdd, Nat.blt, Nat.ble, z_le, z_lt, z_eq, z_cl, z_add, z_sub, z_mul, z_in, z_lt0, z_ofN, z_m1, z_ltm1, z_m1lt, z_eqm1, z_m1eq, z_m1le, z_lem1, z_beq, nI_0_1, nI_m1lt0, nI_0lem1, not_false_eq_true, not_true_eq_false, forall_const, false_implies, true_implies, implies_true, false_and, and_false, mrg, renc, tra, trv, sg, List.map_cons, List.map_nil, Option.map_some, Option.map_none, Option.toList_some, Option.toList_none, List.cons_append, List.nil_append, List.length_cons, List.length_nil, eL, mL_116]
    exact hr2
  by_cases q42 : c = 42
  · subst q42
    have hr2 : RET G (some (.int (nI 13))) h 0 0 := hret
    refine wp_aw (S := fun _ => false) (by decide) 200 _ _ _ _ _ _ ?_
    simp (disch := first | exact rfl | decide | omega) only [u_116_0, u_116_1, u_116_60, u_116_62, u_116_63, u_116_65, u_116_66, u_116_68, u_116_69, u_116_71, u_116_72, u_116_74, u_116_75, u_116_77, u_116_78, u_116_79, wp_stop, lget, lput1, lput2, kil, hget, hset, vget, vset, fget, fgetC, fput, fputC, iget, igetC, jget, jgetC, qget, qgetC, alen, lenC, oI, oJ, oF, oA, oV, oH, oInc, oIld, oJld, oQld, oR, oLen, oIst, oBst, oJst, oQst, ciOf, rcv, oCp, cat1, cond_true, cond_false, Bool.and_self, Bool.and_true, Bool.true_and, Bool.or_true, Bool.true_or, Bool.or_false, Bool.false_or, Bool.not_false, Bool.not_true, ↓reduceIte, Nat.reduceBEq, Nat.reduceEqDiff, beq_self_eq_true, true_and, and_true, eq_self_iff_true, Nat.reduceAdd, Nat.blt, Nat.ble, z_le, z_lt, z_eq, z_cl, z_add, z_sub, z_mul, z_in, z_lt0, z_ofN, z_m1, z_ltm1, z_m1lt, z_eqm1, z_m1eq, z_m1le, z_lem1, z_beq, nI_0_1, nI_m1lt0, nI_0lem1, not_false_eq_true, not_true_eq_false, forall_const, false_implies, true_implies, implies_true, false_and, and_false, mrg, renc, tra, trv, sg, List.map_cons, List.map_nil, Option.map_some, Option.map_none, Option.toList_some, Option.toList_none, List.cons_append, List.nil_append, List.length_cons, List.length_nil, eL, mL_116]
    exact hr2
  by_cases q43 : c = 43
  · subst q43
    have hr2 : RET G (some (.int (nI 14))) h 0 0 := hret
    refine wp_aw (S := fun _ => false) (by decide) 200 _ _ _ _ _ _ ?_
    simp (disch := first | exact rfl | decide | omega) only [u_116_0, u_116_1, u_116_60, u_116_62, u_116_63, u_116_65, u_116_66, u_116_68, u_116_69, u_116_71, u_116_72, u_116_74, u_116_75, u_116_77, u_116_78, u_116_79, wp_stop, lget, lput1, lput2, kil, hget, hset, vget, vset, fget, fgetC, fput, fputC, iget, igetC, jget, jgetC, qget, qgetC, alen, lenC, oI, oJ, oF, oA, oV, oH, oInc, oIld, oJld, oQld, oR, oLen, oIst, oBst, oJst, oQst, ciOf, rcv, oCp, cat1, cond_true, cond_false, Bool.and_self, Bool.and_true, Bool.true_and, Bool.or_true, Bool.true_or, Bool.or_false, Bool.false_or, Bool.not_false, Bool.not_true, ↓reduceIte, Nat.reduceBEq, Nat.reduceEqDiff, beq_self_eq_true, true_and, and_true, eq_self_iff_true, Nat.reduceAdd, Nat.blt, Nat.ble, z_le, z_lt, z_eq, z_cl, z_add, z_sub, z_mul, z_in, z_lt0, z_ofN, z_m1, z_ltm1, z_m1lt, z_eqm1, z_m1eq, z_m1le, z_lem1, z_beq, nI_0_1, nI_m1lt0, nI_0lem1, not_false_eq_true, not_true_eq_false, forall_const, false_implies, true_implies, implies_true, false_and, and_false, mrg, renc, tra, trv, sg, List.map_cons, List.map_nil, Option.map_some, Option.map_none, Option.toList_some, Option.toList_none, List.cons_append, List.nil_append, List.length_cons, List.length_nil, eL, mL_116]
    exact hr2
  by_cases q44 : c = 44
  · subst q44
    have hr2 : RET G (some (.int (nI 9))) h 0 0 := hret
    refine wp_aw (S := fun _ => false) (by decide) 200 _ _ _ _ _ _ ?_
    simp (disch := first | exact rfl | decide | omega) only [u_116_0, u_116_1, u_116_60, u_116_62, u_116_63, u_116_65, u_116_66, u_116_68, u_116_69, u_116_71, u_116_72, u_116_74, u_116_75, u_116_77, u_116_78, u_116_79, wp_stop, lget, lput1, lput2, kil, hget, hset, vget, vset, fget, fgetC, fput, fputC, iget, igetC, jget, jgetC, qget, qgetC, alen, lenC, oI, oJ, oF, oA, oV, oH, oInc, oIld, oJld, oQld, oR, oLen, oIst, oBst, oJst, oQst, ciOf, rcv, oCp, cat1, cond_true, cond_false, Bool.and_self, Bool.and_true, Bool.true_and, Bool.or_true, Bool.true_or, Bool.or_false, Bool.false_or, Bool.not_false, Bool.not_true, ↓reduceIte, Nat.reduceBEq, Nat.reduceEqDiff, beq_self_eq_true, true_and, and_true, eq_self_iff_true, Nat.reduceAdd, Nat.blt, Nat.ble, z_le, z_lt, z_eq, z_cl, z_add, z_sub, z_mul, z_in, z_lt0, z_ofN, z_m1, z_ltm1, z_m1lt, z_eqm1, z_m1eq, z_m1le, z_lem1, z_beq, nI_0_1, nI_m1lt0, nI_0lem1, not_false_eq_true, not_true_eq_false, forall_const, false_implies, true_implies, implies_true, false_and, and_false, mrg, renc, tra, trv, sg, List.map_cons, List.map_nil, Option.map_some, Option.map_none, Option.toList_some, Option.toList_none, List.cons_append, List.nil_append, List.length_cons, List.length_nil, eL, mL_116]
    exact hr2
  by_cases q38 : c = 38
  · subst q38
    have hr2 : RET G (some (.int (nI 11))) h 0 0 := hret
    refine wp_aw (S := fun _ => false) (by decide) 200 _ _ _ _ _ _ ?_
    simp (disch := first | exact rfl | decide | omega) only [u_116_0, u_116_1, u_116_60, u_116_62, u_116_63, u_116_65, u_116_66, u_116_68, u_116_69, u_116_71, u_116_72, u_116_74, u_116_75, u_116_77, u_116_78, u_116_79, wp_stop, lget, lput1, lput2, kil, hget, hset, vget, vset, fget, fgetC, fput, fputC, iget, igetC, jget, jgetC, qget, qgetC, alen, lenC, oI, oJ, oF, oA, oV, oH, oInc, oIld, oJld, oQld, oR, oLen, oIst, oBst, oJst, oQst, ciOf, rcv, oCp, cat1, cond_true, cond_false, Bool.and_self, Bool.and_true, Bool.true_and, Bool.or_true, Bool.true_or, Bool.or_false, Bool.false_or, Bool.not_false, Bool.not_true, ↓reduceIte, Nat.reduceBEq, Nat.reduceEqDiff, beq_self_eq_true, true_and, and_true, eq_self_iff_true, Nat.reduceAdd, Nat.blt, Nat.ble, z_le, z_lt, z_eq, z_cl, z_add, z_sub, z_mul, z_in, z_lt0, z_ofN, z_m1, z_ltm1, z_m1lt, z_eqm1, z_m1eq, z_m1le, z_lem1, z_beq, nI_0_1, nI_m1lt0, nI_0lem1, not_false_eq_true, not_true_eq_false, forall_const, false_implies, true_implies, implies_true, false_and, and_false, mrg, renc, tra, trv, sg, List.map_cons, List.map_nil, Option.map_some, Option.map_none, Option.toList_some, Option.toList_none, List.cons_append, List.nil_append, List.length_cons, List.length_nil, eL, mL_116]
    exact hr2
  by_cases q124 : c = 124
  · subst q124
    have hr2 : RET G (some (.int (nI 10))) h 0 0 := hret
    refine wp_aw (S := fun _ => false) (by decide) 200 _ _ _ _ _ _ ?_
    simp (disch := first | exact rfl | decide | omega) only [u_116_0, u_116_1, u_116_60, u_116_62, u_116_63, u_116_65, u_116_66, u_116_68, u_116_69, u_116_71, u_116_72, u_116_74, u_116_75, u_116_77, u_116_78, u_116_79, wp_stop, lget, lput1, lput2, kil, hget, hset, vget, vset, fget, fgetC, fput, fputC, iget, igetC, jget, jgetC, qget, qgetC, alen, lenC, oI, oJ, oF, oA, oV, oH, oInc, oIld, oJld, oQld, oR, oLen, oIst, oBst, oJst, oQst, ciOf, rcv, oCp, cat1, cond_true, cond_false, Bool.and_self, Bool.and_true, Bool.true_and, Bool.or_true, Bool.true_or, Bool.or_false, Bool.false_or, Bool.not_false, Bool.not_true, ↓reduceIte, Nat.reduceBEq, Nat.reduceEqDiff, beq_self_eq_true, true_and, and_true, eq_self_iff_true, Nat.reduceAdd, Nat.blt, Nat.ble, z_le, z_lt, z_eq, z_cl, z_add, z_sub, z_mul, z_in, z_lt0, z_ofN, z_m1, z_ltm1, z_m1lt, z_eqm1, z_m1eq, z_m1le, z_lem1, z_beq, nI_0_1, nI_m1lt0, nI_0lem1, not_false_eq_true, not_true_eq_false, forall_const, false_implies, true_implies, implies_true, false_and, and_false, mrg, renc, tra, trv, sg, List.map_cons, List.map_nil, Option.map_some, Option.map_none, Option.toList_some, Option.toList_none, List.cons_append, List.nil_append, List.length_cons, List.length_nil, eL, mL_116]
    exact hr2
  have e : opB c = none := by
    unfold opB
    rw [if_neg q63, if_neg q42, if_neg q43, if_neg q44, if_neg q38, if_neg q124]
  rw [e] at hret
  have hr2 : RET G (some (.int (-1))) h 0 0 := hret
  refine wp_aw (S := fun _ => false) (by decide) 200 _ _ _ _ _ _ ?_
  simp (disch := first | exact rfl | decide | omega) only [u_116_0, u_116_1, u_116_60, u_116_62, u_116_63, u_116_65, u_116_66, u_116_68, u_116_69, u_116_71, u_116_72, u_116_74, u_116_75, u_116_77, u_116_78, u_116_79, wp_stop, lget, lput1, lput2, kil, hget, hset, vget, vset, fget, fgetC, fput, fputC, iget, igetC, jget, jgetC, qget, qgetC, alen, lenC, oI, oJ, oF, oA, oV, oH, oInc, oIld, oJld, oQld, oR, oLen, oIst, oBst, oJst, oQst, ciOf, rcv, oCp, cat1, cond_true, cond_false, Bool.and_self, Bool.and_true, Bool.true_and, Bool.or_true, Bool.true_or, Bool.or_false, Bool.false_or, Bool.not_false, Bool.not_true, ↓reduceIte, Nat.reduceBEq, Nat.reduceEqDiff, beq_self_eq_true, true_and, and_true, eq_self_iff_true, Nat.reduceAdd, Nat.blt, Nat.ble, z_le, z_lt, z_eq, z_cl, z_add, z_sub, z_mul, z_in, z_lt0, z_ofN, z_m1, z_ltm1, z_m1lt, z_eqm1, z_m1eq, z_m1le, z_lem1, z_beq, nI_0_1, nI_m1lt0, nI_0lem1, not_false_eq_true, not_true_eq_false, forall_const, false_implies, true_implies, implies_true, false_and, and_false, mrg, renc, tra, trv, sg, List.map_cons, List.map_nil, Option.map_some, Option.map_none, Option.toList_some, Option.toList_none, List.cons_append, List.nil_append, List.length_cons, List.length_nil, eL, mL_116, q63, q42, q43, q44, q38, q124]
  exact hr2
set_option maxRecDepth 100000 in
theorem g_operatorM (d : Nat) (h : aH) : aSp d 116 [.int (-1)] h nomv 0 0 (fun r h' => r = some (.int (-1)) ∧ h' = h) := by
  refine sp_of (by decide) (Nat.le_of_ble_eq_true rfl) ?_
  generalize hG : ((d, _, nomv, _, _, _) : aG) = G
  have hret : RET G (some (.int (-1))) h 0 0 := by
    subst hG
    exact RET.id ⟨rfl, rfl⟩ (Nat.le_refl _) (Nat.le_refl _)
  clear hG
  refine wp_aw (S := fun _ => false) (by decide) 200 _ _ _ _ _ _ ?_
  simp (disch := first | exact rfl | decide | omega) only [u_116_0, u_116_1, u_116_60, u_116_62, u_116_63, u_116_65, u_116_66, u_116_68, u_116_69, u_116_71, u_116_72, u_116_74, u_116_75, u_116_77, u_116_78, u_116_79, wp_stop, lget, lput1, lput2, kil, hget, hset, vget, vset, fget, fgetC, fput, fputC, iget, igetC, jget, jgetC, qget, qgetC, alen, lenC, oI, oJ, oF, oA, oV, oH, oInc, oIld, oJld, oQld, oR, oLen, oIst, oBst, oJst, oQst, ciOf, rcv, oCp, cat1, cond_true, cond_false, Bool.and_self, Bool.and_true, Bool.true_and, Bool.or_true, Bool.true_or, Bool.or_false, Bool.false_or, Bool.not_false, Bool.not_true, ↓reduceIte, Nat.reduceBEq, Nat.reduceEqDiff, beq_self_eq_true, true_and, and_true, eq_self_iff_true, Nat.reduceAdd, Nat.blt, Nat.ble, z_le, z_lt, z_eq, z_cl, z_add, z_sub, z_mul, z_in, z_lt0, z_ofN, z_m1, z_ltm1, z_m1lt, z_eqm1, z_m1eq, z_m1le, z_lem1, z_beq, nI_0_1, nI_m1lt0, nI_0lem1, not_false_eq_true, not_true_eq_false, forall_const, false_implies, true_implies, implies_true, false_and, and_false, mrg, renc, tra, trv, sg, List.map_cons, List.map_nil, Option.map_some, Option.map_none, Option.toList_some, Option.toList_none, List.cons_append, List.nil_append, List.length_cons, List.length_nil, eL, mL_116]
  exact hret
section GM
variable (gal : Nat → Int32) (gps : Nat → Int32) (gst : Int32) (grf : Nat → Int32) (gmy : Int32) (gkd : Nat → Int32) (glf : Nat → Int32) (grt : Nat → Int32) (gpr : Nat → Int32) (gun : Nat → Int32) (gow : Nat → Int32) (gem : Nat → Int32) (ged : Nat → Int32) (gse : Nat → Int32) (gsz : Nat → Int32) (gtx : Nat → Int32) (gtl : Int32) (gsp : Int32) (gmd : Nat → Int32) (gop : Nat → Int32) (gom : Int32) (gwt : Nat → Int32) (gwm : Int32) (gtn : Int32) (gon : Int32) (gsh : Nat → Int32) (gtr : Nat → Int32) (gbl : Int32) (gbd : Int32) (gwh : Nat → Int32) (gfl : Int32) (gfd : Int32) (gfe : Int32)
/-- what a step of the reading ends with in the model -/
def tkP (q : Option rS) (r : Option Value) (h' : aH) : Prop := r = some (.int (bN q.isSome)) ∧ ∃ gmd gop gom gwt gwm gtn gon, h' = (gH gal gps gst grf gmy gkd glf grt gpr gun gow gem ged gse gsz gtx gtl gsp gmd gop gom gwt gwm gtn gon gsh gtr gbl gbd gwh gfl gfd gfe) ∧ ∀ σ', q = some σ' → ppI σ' gmd gop gom gwt gwm gtn gon
set_option maxRecDepth 100000 in
set_option maxHeartbeats 8000000 in
theorem g_takesUnit (d c : Nat) (hc : c < 128) (σ : rS) (hI : rdI σ) (h2 : σ.ph = 2) (hp : ppI σ gmd gop gom gwt gwm gtn gon) : aSp (d + 1) 111 [.ref 0, .int (nI c)] (gH gal gps gst grf gmy gkd glf grt gpr gun gow gem ged gse gsz gtx gtl gsp gmd gop gom gwt gwm gtn gon gsh gtr gbl gbd gwh gfl gfd gfe) nomv 0 0 (tkP gal gps gst grf gmy gkd glf grt gpr gun gow gem ged gse gsz gtx gtl gsp gsh gtr gbl gbd gwh gfl gfd gfe (rdU σ c)) := by
  obtain ⟨-, hord, hi⟩ := hI
  obtain ⟨i1, i2, i3, i4, i5, i6, i7, i8⟩ := hi (by omega)
  obtain ⟨ph, ow, W, oo, n, L, Gr, od⟩ := σ
  simp only [rS.ph, rS.own, rS.W, rS.o, rS.nd, rS.L, rS.Gr, rS.ord] at *
  subst h2
  obtain ⟨hpr, rfl, rfl, hwo⟩ := hp
  simp only [rS.ph, rS.own, rS.W, rS.o, rS.nd, rS.L, rS.Gr, rS.ord] at hpr hwo ⊢
  rw [if_neg (show ¬ 2 = 3 by decide)] at hpr
  obtain ⟨m1, m2, m3, m4⟩ := pr_m hpr
  rw [Nat.add_zero] at m2
  have hret : ∀ (G : aG) (q : Option rS), gP G = tkP gal gps gst grf gmy gkd glf grt gpr gun gow gem ged gse gsz gtx gtl gsp gsh gtr gbl gbd gwh gfl gfd gfe q → q = none → RET G (some (.int (nI 0))) (gH gal gps gst grf gmy gkd glf grt gpr gun gow gem ged gse gsz gtx gtl gsp gmd gop gom gwt gwm (nI n) (nI oo) gsh gtr gbl gbd gwh gfl gfd gfe) 0 0 := fun G q hg hq => by
    refine RET.id ?_ (Nat.zero_le _) (Nat.zero_le _)
    rw [hg, hq]
    exact ⟨rfl, gmd, gop, gom, gwt, gwm, nI n, nI oo, rfl, fun σ' w => by simp at w⟩
  refine sp_of (by decide) (Nat.le_of_ble_eq_true rfl) ?_
  generalize hG : ((d + 1, _, nomv, _, _, _) : aG) = G
  have ggd : gD G = d + 1 := by subst hG; rfl
  have ggn : gN G = 21 := by subst hG; rfl
  have ggm : gM G = nomv := by subst hG; rfl
  have ggc : gC G = 0 := by subst hG; rfl
  have ggs : gS G = 0 := by subst hG; rfl
  have hgp : gP G = tkP gal gps gst grf gmy gkd glf grt gpr gun gow gem ged gse gsz gtx gtl gsp gsh gtr gbl gbd gwh gfl gfd gfe (rdU (2, ow, W, oo, n, L, Gr, od) c) := by subst hG; rfl
  clear hG
  have hbad := hret G _ hgp
  clear hret
  unfold rdU rdN at hgp hbad
  simp only [rS.ph, rS.own, rS.W, rS.o, rS.nd, rS.L, rS.Gr, rS.ord] at hgp hbad
  by_cases q40 : c = 40
  · subst q40
    rw [if_pos rfl] at hgp hbad
    by_cases q8 : oo + 1 ≤ 8
    · rw [if_pos q8] at hgp
      have t1 : ¬ oo = 8 := by omega
      have hf : RET G (some (.int (nI 1))) (gH gal gps gst grf gmy gkd glf grt gpr gun gow gem ged gse gsz gtx gtl gsp gmd gop gom (upd gwt W.length (nI 0)) (nI (W.length + 1)) (nI n) (nI (oo + 1)) gsh gtr gbl gbd gwh gfl gfd gfe) 0 0 := by
        refine RET.id ?_ (Nat.zero_le _) (Nat.zero_le _)
        rw [hgp]
        refine ⟨rfl, gmd, gop, gom, _, _, nI n, nI (oo + 1), rfl, fun σ' w => ?_⟩
        rw [← Option.some.inj w]
        exact ⟨pr_opn hpr, rfl, rfl, fun y hy => by
          rcases List.mem_cons.mp hy with e | e
          · exact Or.inl e
          · exact hwo y e⟩
      clear hgp hbad hpr
      have hw24 : W.length < 40 := by omega
      generalize W.length = wl at *
      refine wp_aw (S := fun _ => false) (by decide) 200 _ _ _ _ _ _ ?_
      simp (disch := first | exact rfl | decide | omega) only [u_111_0, u_111_1, u_111_3, u_111_6, u_111_7, u_111_10, u_111_12, u_111_15, u_111_16, u_111_17, u_111_18, u_111_19, u_111_22, u_111_23, u_111_24, u_111_27, u_111_28, u_111_31, u_111_32, u_111_35, u_111_36, u_111_37, u_111_38, u_111_39, u_111_42, u_111_43, u_111_44, u_111_47, u_111_48, u_111_49, u_111_50, u_111_52, u_111_55, u_111_56, u_111_57, u_111_60, u_111_63, u_111_66, u_111_69, u_111_70, u_111_73, u_111_75, u_111_78, u_111_79, u_111_80, u_111_81, u_111_82, u_111_85, u_111_86, u_111_87, u_111_90, u_111_91, u_111_92, u_111_94, u_111_97, u_111_98, u_111_101, u_111_102, u_111_104, u_111_105, u_111_106, u_111_107, u_111_108, u_111_109, u_111_112, u_111_113, wp_stop, lget, lput1, lput2, kil, hget, hset, vget, vset, fget, fgetC, fput, fputC, iget, igetC, jget, jgetC, qget, qgetC, alen, lenC, oI, oJ, oF, oA, oV, oH, oInc, oIld, oJld, oQld, oR, oLen, oIst, oBst, oJst, oQst, ciOf, rcv, oCp, cat1, cond_true, cond_false, Bool.and_self, Bool.and_true, Bool.true_and, Bool.or_true, Bool.true_or, Bool.or_false, Bool.false_or, Bool.not_false, Bool.not_true, ↓reduceIte, Nat.reduceBEq, Nat.reduceEqDiff, beq_self_eq_true, true_and, and_true, eq_self_iff_true, Nat.reduceAdd, Nat.blt, Nat.ble, z_le, z_lt, z_eq, z_cl, z_add, z_sub, z_mul, z_in, z_lt0, z_ofN, z_m1, z_ltm1, z_m1lt, z_eqm1, z_m1eq, z_m1le, z_lem1, z_beq, nI_0_1, nI_m1lt0, nI_0lem1, not_false_eq_true, not_true_eq_false, forall_const, false_implies, true_implies, implies_true, false_and, and_false, mrg, renc, tra, trv, sg, List.map_cons, List.map_nil, Option.map_some, Option.map_none, Option.toList_some, Option.toList_none, List.cons_append, List.nil_append, List.length_cons, List.length_nil, eL, mL_111, gH, gO, t1, m3]
      exact hf
    · rw [if_neg q8] at hbad
      have hf := hbad rfl
      have t1 : oo = 8 := by omega
      clear hgp hbad hpr
      subst t1
      refine wp_aw (S := fun _ => false) (by decide) 200 _ _ _ _ _ _ ?_
      simp (disch := first | exact rfl | decide | omega) only [u_111_0, u_111_1, u_111_3, u_111_6, u_111_7, u_111_10, u_111_12, u_111_15, u_111_16, u_111_17, u_111_18, u_111_19, u_111_22, u_111_23, u_111_24, u_111_27, u_111_28, u_111_31, u_111_32, u_111_35, u_111_36, u_111_37, u_111_38, u_111_39, u_111_42, u_111_43, u_111_44, u_111_47, u_111_48, u_111_49, u_111_50, u_111_52, u_111_55, u_111_56, u_111_57, u_111_60, u_111_63, u_111_66, u_111_69, u_111_70, u_111_73, u_111_75, u_111_78, u_111_79, u_111_80, u_111_81, u_111_82, u_111_85, u_111_86, u_111_87, u_111_90, u_111_91, u_111_92, u_111_94, u_111_97, u_111_98, u_111_101, u_111_102, u_111_104, u_111_105, u_111_106, u_111_107, u_111_108, u_111_109, u_111_112, u_111_113, wp_stop, lget, lput1, lput2, kil, hget, hset, vget, vset, fget, fgetC, fput, fputC, iget, igetC, jget, jgetC, qget, qgetC, alen, lenC, oI, oJ, oF, oA, oV, oH, oInc, oIld, oJld, oQld, oR, oLen, oIst, oBst, oJst, oQst, ciOf, rcv, oCp, cat1, cond_true, cond_false, Bool.and_self, Bool.and_true, Bool.true_and, Bool.or_true, Bool.true_or, Bool.or_false, Bool.false_or, Bool.not_false, Bool.not_true, ↓reduceIte, Nat.reduceBEq, Nat.reduceEqDiff, beq_self_eq_true, true_and, and_true, eq_self_iff_true, Nat.reduceAdd, Nat.blt, Nat.ble, z_le, z_lt, z_eq, z_cl, z_add, z_sub, z_mul, z_in, z_lt0, z_ofN, z_m1, z_ltm1, z_m1lt, z_eqm1, z_m1eq, z_m1le, z_lem1, z_beq, nI_0_1, nI_m1lt0, nI_0lem1, not_false_eq_true, not_true_eq_false, forall_const, false_implies, true_implies, implies_true, false_and, and_false, mrg, renc, tra, trv, sg, List.map_cons, List.map_nil, Option.map_some, Option.map_none, Option.toList_some, Option.toList_none, List.cons_append, List.nil_append, List.length_cons, List.length_nil, eL, mL_111, gH, gO]
      exact hf
  · rw [if_neg q40] at hgp hbad
    have hnz : nzW W ≤ 16 := by omega
    have hleaf : ∀ k, 1 ≤ k → k ≤ 9 → n + 1 ≤ 16 → gP G = tkP gal gps gst grf gmy gkd glf grt gpr gun gow gem ged gse gsz gtx gtl gsp gsh gtr gbl gbd gwh gfl gfd gfe (some (3, ow, W, oo, n + 1, L ++ [k], Gr, od)) → RET G (some (.int (nI 1))) (gH gal gps gst grf gmy gkd glf grt gpr gun gow gem ged gse gsz gtx gtl gsp (mdN gmd L.length (nI (mkK k)) (-1) (-1)) (upd gop (nzW W) (nI L.length)) (nI (nzW W + 1)) gwt gwm (nI (n + 1)) (nI oo) gsh gtr gbl gbd gwh gfl gfd gfe) 0 0 := fun k k1 k2 k3 hg => by
      refine RET.id ?_ (Nat.zero_le _) (Nat.zero_le _)
      rw [hg]
      refine ⟨rfl, _, _, _, gwt, gwm, nI (n + 1), nI oo, rfl, fun σ' w => ?_⟩
      rw [← Option.some.inj w]
      refine ⟨?_, rfl, rfl, hwo⟩
      simp only [rS.ph, rS.own, rS.W, rS.o, rS.nd, rS.L, rS.Gr, rS.ord, if_true]
      exact pr_leaf hpr k1 k2
    by_cases qL : 97 ≤ c ∧ c ≤ 104
    · rw [if_pos qL] at hgp hbad
      have hin := g_in 0 (nI c) 97 104 (by decide) (by decide) (gH gal gps gst grf gmy gkd glf grt gpr gun gow gem ged gse gsz gtx gtl gsp gmd gop gom gwt gwm (nI n) (nI oo) gsh gtr gbl gbd gwh gfl gfd gfe)
      rw [inB_n (by omega) (by decide) (by decide), Nat.ble_eq_true_of_le qL.1, Nat.ble_eq_true_of_le qL.2] at hin
      have n95 : ¬ c = 95 := by omega
      have hb : bN (true && true) = nI 1 := rfl
      by_cases q16 : n + 1 ≤ 16
      · rw [if_pos q16] at hgp
        have hf := hleaf (c - 97 + 1) (by omega) (by omega) q16 hgp
        rw [mk_let (by omega)] at hf
        have t1 : ¬ n = 16 := by omega
        have hno := g_node gal gps gst grf gmy gkd glf grt gpr gun gow gem ged gse gsz gtx gtl gsp gmd gop gom gwt gwm (nI (n + 1)) (nI oo) gsh gtr gbl gbd gwh gfl gfd gfe 0 L.length (nzW W) (nI (c - 97 + 1)) (-1) (-1) (by omega) (by omega) m1 m2
        clear hgp hbad hpr hleaf
        have esub : nI c - nI 97 = nI (c - 97) := z_sub qL.1
        have hnl : L.length < 20 := by omega
        generalize L.length = ll at *
        refine wp_aw (S := fun _ => false) (by decide) 200 _ _ _ _ _ _ ?_
        simp (disch := first | exact rfl | decide | omega) only [u_111_0, u_111_1, u_111_3, u_111_6, u_111_7, u_111_10, u_111_12, u_111_15, u_111_16, u_111_17, u_111_18, u_111_19, u_111_22, u_111_23, u_111_24, u_111_27, u_111_28, u_111_31, u_111_32, u_111_35, u_111_36, u_111_37, u_111_38, u_111_39, u_111_42, u_111_43, u_111_44, u_111_47, u_111_48, u_111_49, u_111_50, u_111_52, u_111_55, u_111_56, u_111_57, u_111_60, u_111_63, u_111_66, u_111_69, u_111_70, u_111_73, u_111_75, u_111_78, u_111_79, u_111_80, u_111_81, u_111_82, u_111_85, u_111_86, u_111_87, u_111_90, u_111_91, u_111_92, u_111_94, u_111_97, u_111_98, u_111_101, u_111_102, u_111_104, u_111_105, u_111_106, u_111_107, u_111_108, u_111_109, u_111_112, u_111_113, wp_stop, lget, lput1, lput2, kil, hget, hset, vget, vset, fget, fgetC, fput, fputC, iget, igetC, jget, jgetC, qget, qgetC, alen, lenC, oI, oJ, oF, oA, oV, oH, oInc, oIld, oJld, oQld, oR, oLen, oIst, oBst, oJst, oQst, ciOf, rcv, oCp, cat1, cond_true, cond_false, Bool.and_self, Bool.and_true, Bool.true_and, Bool.or_true, Bool.true_or, Bool.or_false, Bool.false_or, Bool.not_false, Bool.not_true, ↓reduceIte, Nat.reduceBEq, Nat.reduceEqDiff, beq_self_eq_true, true_and, and_true, eq_self_iff_true, Nat.reduceAdd, Nat.blt, Nat.ble, z_le, z_lt, z_eq, z_cl, z_add, z_sub, z_mul, z_in, z_lt0, z_ofN, z_m1, z_ltm1, z_m1lt, z_eqm1, z_m1eq, z_m1le, z_lem1, z_beq, nI_0_1, nI_m1lt0, nI_0lem1, not_false_eq_true, not_true_eq_false, forall_const, false_implies, true_implies, implies_true, false_and, and_false, mrg, renc, tra, trv, sg, List.map_cons, List.map_nil, Option.map_some, Option.map_none, Option.toList_some, Option.toList_none, List.cons_append, List.nil_append, List.length_cons, List.length_nil, eL, mL_111, gH, gO, q40, n95]
        refine CAL.dir (hin) (by rw [ggd]; omega) (by rw [ggc]; omega) (by rw [ggs]; omega) (Nat.le_of_ble_eq_true rfl) (by rw [ggn]; exact Nat.le_of_ble_eq_true rfl) rfl rfl ?_
        rintro _ _ ⟨rfl, rfl⟩
        simp (disch := first | exact rfl | decide | omega) only [u_111_0, u_111_1, u_111_3, u_111_6, u_111_7, u_111_10, u_111_12, u_111_15, u_111_16, u_111_17, u_111_18, u_111_19, u_111_22, u_111_23, u_111_24, u_111_27, u_111_28, u_111_31, u_111_32, u_111_35, u_111_36, u_111_37, u_111_38, u_111_39, u_111_42, u_111_43, u_111_44, u_111_47, u_111_48, u_111_49, u_111_50, u_111_52, u_111_55, u_111_56, u_111_57, u_111_60, u_111_63, u_111_66, u_111_69, u_111_70, u_111_73, u_111_75, u_111_78, u_111_79, u_111_80, u_111_81, u_111_82, u_111_85, u_111_86, u_111_87, u_111_90, u_111_91, u_111_92, u_111_94, u_111_97, u_111_98, u_111_101, u_111_102, u_111_104, u_111_105, u_111_106, u_111_107, u_111_108, u_111_109, u_111_112, u_111_113, wp_stop, lget, lput1, lput2, kil, hget, hset, vget, vset, fget, fgetC, fput, fputC, iget, igetC, jget, jgetC, qget, qgetC, alen, lenC, oI, oJ, oF, oA, oV, oH, oInc, oIld, oJld, oQld, oR, oLen, oIst, oBst, oJst, oQst, ciOf, rcv, oCp, cat1, cond_true, cond_false, Bool.and_self, Bool.and_true, Bool.true_and, Bool.or_true, Bool.true_or, Bool.or_false, Bool.false_or, Bool.not_false, Bool.not_true, ↓reduceIte, Nat.reduceBEq, Nat.reduceEqDiff, beq_self_eq_true, true_and, and_true, eq_self_iff_true, Nat.reduceAdd, Nat.blt, Nat.ble, z_le, z_lt, z_eq, z_cl, z_add, z_sub, z_mul, z_in, z_lt0, z_ofN, z_m1, z_ltm1, z_m1lt, z_eqm1, z_m1eq, z_m1le, z_lem1, z_beq, nI_0_1, nI_m1lt0, nI_0lem1, not_false_eq_true, not_true_eq_false, forall_const, false_implies, true_implies, implies_true, false_and, and_false, mrg, renc, tra, trv, sg, List.map_cons, List.map_nil, Option.map_some, Option.map_none, Option.toList_some, Option.toList_none, List.cons_append, List.nil_append, List.length_cons, List.length_nil, gH, gO, hb, n10, t1, n95]
        refine CAL.dir (hno) (by rw [ggd]; omega) (by rw [ggc]; omega) (by rw [ggs]; omega) (Nat.le_of_ble_eq_true rfl) (by rw [ggn]; exact Nat.le_of_ble_eq_true rfl) rfl rfl ?_
        rintro _ _ ⟨rfl, rfl⟩
        simp (disch := first | exact rfl | decide | omega) only [u_111_0, u_111_1, u_111_3, u_111_6, u_111_7, u_111_10, u_111_12, u_111_15, u_111_16, u_111_17, u_111_18, u_111_19, u_111_22, u_111_23, u_111_24, u_111_27, u_111_28, u_111_31, u_111_32, u_111_35, u_111_36, u_111_37, u_111_38, u_111_39, u_111_42, u_111_43, u_111_44, u_111_47, u_111_48, u_111_49, u_111_50, u_111_52, u_111_55, u_111_56, u_111_57, u_111_60, u_111_63, u_111_66, u_111_69, u_111_70, u_111_73, u_111_75, u_111_78, u_111_79, u_111_80, u_111_81, u_111_82, u_111_85, u_111_86, u_111_87, u_111_90, u_111_91, u_111_92, u_111_94, u_111_97, u_111_98, u_111_101, u_111_102, u_111_104, u_111_105, u_111_106, u_111_107, u_111_108, u_111_109, u_111_112, u_111_113, wp_stop, lget, lput1, lput2, kil, hget, hset, vget, vset, fget, fgetC, fput, fputC, iget, igetC, jget, jgetC, qget, qgetC, alen, lenC, oI, oJ, oF, oA, oV, oH, oInc, oIld, oJld, oQld, oR, oLen, oIst, oBst, oJst, oQst, ciOf, rcv, oCp, cat1, cond_true, cond_false, Bool.and_self, Bool.and_true, Bool.true_and, Bool.or_true, Bool.true_or, Bool.or_false, Bool.false_or, Bool.not_false, Bool.not_true, ↓reduceIte, Nat.reduceBEq, Nat.reduceEqDiff, beq_self_eq_true, true_and, and_true, eq_self_iff_true, Nat.reduceAdd, Nat.blt, Nat.ble, z_le, z_lt, z_eq, z_cl, z_add, z_sub, z_mul, z_in, z_lt0, z_ofN, z_m1, z_ltm1, z_m1lt, z_eqm1, z_m1eq, z_m1le, z_lem1, z_beq, nI_0_1, nI_m1lt0, nI_0lem1, not_false_eq_true, not_true_eq_false, forall_const, false_implies, true_implies, implies_true, false_and, and_false, mrg, renc, tra, trv, sg, List.map_cons, List.map_nil, Option.map_some, Option.map_none, Option.toList_some, Option.toList_none, List.cons_append, List.nil_append, List.length_cons, List.length_nil, gH, gO]
        exact hf
      · rw [if_neg q16] at hbad
        have hf := hbad rfl
        have t1 : n = 16 := by omega
        clear hgp hbad hpr hleaf
        subst t1
        refine wp_aw (S := fun _ => false) (by decide) 200 _ _ _ _ _ _ ?_
        simp (disch := first | exact rfl | decide | omega) only [u_111_0, u_111_1, u_111_3, u_111_6, u_111_7, u_111_10, u_111_12, u_111_15, u_111_16, u_111_17, u_111_18, u_111_19, u_111_22, u_111_23, u_111_24, u_111_27, u_111_28, u_111_31, u_111_32, u_111_35, u_111_36, u_111_37, u_111_38, u_111_39, u_111_42, u_111_43, u_111_44, u_111_47, u_111_48, u_111_49, u_111_50, u_111_52, u_111_55, u_111_56, u_111_57, u_111_60, u_111_63, u_111_66, u_111_69, u_111_70, u_111_73, u_111_75, u_111_78, u_111_79, u_111_80, u_111_81, u_111_82, u_111_85, u_111_86, u_111_87, u_111_90, u_111_91, u_111_92, u_111_94, u_111_97, u_111_98, u_111_101, u_111_102, u_111_104, u_111_105, u_111_106, u_111_107, u_111_108, u_111_109, u_111_112, u_111_113, wp_stop, lget, lput1, lput2, kil, hget, hset, vget, vset, fget, fgetC, fput, fputC, iget, igetC, jget, jgetC, qget, qgetC, alen, lenC, oI, oJ, oF, oA, oV, oH, oInc, oIld, oJld, oQld, oR, oLen, oIst, oBst, oJst, oQst, ciOf, rcv, oCp, cat1, cond_true, cond_false, Bool.and_self, Bool.and_true, Bool.true_and, Bool.or_true, Bool.true_or, Bool.or_false, Bool.false_or, Bool.not_false, Bool.not_true, ↓reduceIte, Nat.reduceBEq, Nat.reduceEqDiff, beq_self_eq_true, true_and, and_true, eq_self_iff_true, Nat.reduceAdd, Nat.blt, Nat.ble, z_le, z_lt, z_eq, z_cl, z_add, z_sub, z_mul, z_in, z_lt0, z_ofN, z_m1, z_ltm1, z_m1lt, z_eqm1, z_m1eq, z_m1le, z_lem1, z_beq, nI_0_1, nI_m1lt0, nI_0lem1, not_false_eq_true, not_true_eq_false, forall_const, false_implies, true_implies, implies_true, false_and, and_false, mrg, renc, tra, trv, sg, List.map_cons, List.map_nil, Option.map_some, Option.map_none, Option.toList_some, Option.toList_none, List.cons_append, List.nil_append, List.length_cons, List.length_nil, eL, mL_111, gH, gO, q40, n95]
        refine CAL.dir (hin) (by rw [ggd]; omega) (by rw [ggc]; omega) (by rw [ggs]; omega) (Nat.le_of_ble_eq_true rfl) (by rw [ggn]; exact Nat.le_of_ble_eq_true rfl) rfl rfl ?_
        rintro _ _ ⟨rfl, rfl⟩
        simp (disch := first | exact rfl | decide | omega) only [u_111_0, u_111_1, u_111_3, u_111_6, u_111_7, u_111_10, u_111_12, u_111_15, u_111_16, u_111_17, u_111_18, u_111_19, u_111_22, u_111_23, u_111_24, u_111_27, u_111_28, u_111_31, u_111_32, u_111_35, u_111_36, u_111_37, u_111_38, u_111_39, u_111_42, u_111_43, u_111_44, u_111_47, u_111_48, u_111_49, u_111_50, u_111_52, u_111_55, u_111_56, u_111_57, u_111_60, u_111_63, u_111_66, u_111_69, u_111_70, u_111_73, u_111_75, u_111_78, u_111_79, u_111_80, u_111_81, u_111_82, u_111_85, u_111_86, u_111_87, u_111_90, u_111_91, u_111_92, u_111_94, u_111_97, u_111_98, u_111_101, u_111_102, u_111_104, u_111_105, u_111_106, u_111_107, u_111_108, u_111_109, u_111_112, u_111_113, wp_stop, lget, lput1, lput2, kil, hget, hset, vget, vset, fget, fgetC, fput, fputC, iget, igetC, jget, jgetC, qget, qgetC, alen, lenC, oI, oJ, oF, oA, oV, oH, oInc, oIld, oJld, oQld, oR, oLen, oIst, oBst, oJst, oQst, ciOf, rcv, oCp, cat1, cond_true, cond_false, Bool.and_self, Bool.and_true, Bool.true_and, Bool.or_true, Bool.true_or, Bool.or_false, Bool.false_or, Bool.not_false, Bool.not_true, ↓reduceIte, Nat.reduceBEq, Nat.reduceEqDiff, beq_self_eq_true, true_and, and_true, eq_self_iff_true, Nat.reduceAdd, Nat.blt, Nat.ble, z_le, z_lt, z_eq, z_cl, z_add, z_sub, z_mul, z_in, z_lt0, z_ofN, z_m1, z_ltm1, z_m1lt, z_eqm1, z_m1eq, z_m1le, z_lem1, z_beq, nI_0_1, nI_m1lt0, nI_0lem1, not_false_eq_true, not_true_eq_false, forall_const, false_implies, true_implies, implies_true, false_and, and_false, mrg, renc, tra, trv, sg, List.map_cons, List.map_nil, Option.map_some, Option.map_none, Option.toList_some, Option.toList_none, List.cons_append, List.nil_append, List.length_cons, List.length_nil, gH, gO, hb, n10]
        exact hf
    · rw [if_neg qL] at hgp hbad
      by_cases q95 : c = 95
      · rw [if_pos q95] at hgp hbad
        subst q95
        by_cases q16 : n + 1 ≤ 16
        · rw [if_pos q16] at hgp
          have hf := hleaf 9 (by omega) (by omega) q16 hgp
          have e9 : nI (mkK 9) = nI 0 := rfl
          rw [e9] at hf
          have t1 : ¬ n = 16 := by omega
          have hno := g_node gal gps gst grf gmy gkd glf grt gpr gun gow gem ged gse gsz gtx gtl gsp gmd gop gom gwt gwm (nI (n + 1)) (nI oo) gsh gtr gbl gbd gwh gfl gfd gfe 0 L.length (nzW W) (nI 0) (-1) (-1) (by omega) (by omega) m1 m2
          clear hgp hbad hpr hleaf
          generalize L.length = ll at *
          refine wp_aw (S := fun _ => false) (by decide) 200 _ _ _ _ _ _ ?_
          simp (disch := first | exact rfl | decide | omega) only [u_111_0, u_111_1, u_111_3, u_111_6, u_111_7, u_111_10, u_111_12, u_111_15, u_111_16, u_111_17, u_111_18, u_111_19, u_111_22, u_111_23, u_111_24, u_111_27, u_111_28, u_111_31, u_111_32, u_111_35, u_111_36, u_111_37, u_111_38, u_111_39, u_111_42, u_111_43, u_111_44, u_111_47, u_111_48, u_111_49, u_111_50, u_111_52, u_111_55, u_111_56, u_111_57, u_111_60, u_111_63, u_111_66, u_111_69, u_111_70, u_111_73, u_111_75, u_111_78, u_111_79, u_111_80, u_111_81, u_111_82, u_111_85, u_111_86, u_111_87, u_111_90, u_111_91, u_111_92, u_111_94, u_111_97, u_111_98, u_111_101, u_111_102, u_111_104, u_111_105, u_111_106, u_111_107, u_111_108, u_111_109, u_111_112, u_111_113, wp_stop, lget, lput1, lput2, kil, hget, hset, vget, vset, fget, fgetC, fput, fputC, iget, igetC, jget, jgetC, qget, qgetC, alen, lenC, oI, oJ, oF, oA, oV, oH, oInc, oIld, oJld, oQld, oR, oLen, oIst, oBst, oJst, oQst, ciOf, rcv, oCp, cat1, cond_true, cond_false, Bool.and_self, Bool.and_true, Bool.true_and, Bool.or_true, Bool.true_or, Bool.or_false, Bool.false_or, Bool.not_false, Bool.not_true, ↓reduceIte, Nat.reduceBEq, Nat.reduceEqDiff, beq_self_eq_true, true_and, and_true, eq_self_iff_true, Nat.reduceAdd, Nat.blt, Nat.ble, z_le, z_lt, z_eq, z_cl, z_add, z_sub, z_mul, z_in, z_lt0, z_ofN, z_m1, z_ltm1, z_m1lt, z_eqm1, z_m1eq, z_m1le, z_lem1, z_beq, nI_0_1, nI_m1lt0, nI_0lem1, not_false_eq_true, not_true_eq_false, forall_const, false_implies, true_implies, implies_true, false_and, and_false, mrg, renc, tra, trv, sg, List.map_cons, List.map_nil, Option.map_some, Option.map_none, Option.toList_some, Option.toList_none, List.cons_append, List.nil_append, List.length_cons, List.length_nil, eL, mL_111, gH, gO, t1]
          refine CAL.dir (hno) (by rw [ggd]; omega) (by rw [ggc]; omega) (by rw [ggs]; omega) (Nat.le_of_ble_eq_true rfl) (by rw [ggn]; exact Nat.le_of_ble_eq_true rfl) rfl rfl ?_
          rintro _ _ ⟨rfl, rfl⟩
          simp (disch := first | exact rfl | decide | omega) only [u_111_0, u_111_1, u_111_3, u_111_6, u_111_7, u_111_10, u_111_12, u_111_15, u_111_16, u_111_17, u_111_18, u_111_19, u_111_22, u_111_23, u_111_24, u_111_27, u_111_28, u_111_31, u_111_32, u_111_35, u_111_36, u_111_37, u_111_38, u_111_39, u_111_42, u_111_43, u_111_44, u_111_47, u_111_48, u_111_49, u_111_50, u_111_52, u_111_55, u_111_56, u_111_57, u_111_60, u_111_63, u_111_66, u_111_69, u_111_70, u_111_73, u_111_75, u_111_78, u_111_79, u_111_80, u_111_81, u_111_82, u_111_85, u_111_86, u_111_87, u_111_90, u_111_91, u_111_92, u_111_94, u_111_97, u_111_98, u_111_101, u_111_102, u_111_104, u_111_105, u_111_106, u_111_107, u_111_108, u_111_109, u_111_112, u_111_113, wp_stop, lget, lput1, lput2, kil, hget, hset, vget, vset, fget, fgetC, fput, fputC, iget, igetC, jget, jgetC, qget, qgetC, alen, lenC, oI, oJ, oF, oA, oV, oH, oInc, oIld, oJld, oQld, oR, oLen, oIst, oBst, oJst, oQst, ciOf, rcv, oCp, cat1, cond_true, cond_false, Bool.and_self, Bool.and_true, Bool.true_and, Bool.or_true, Bool.true_or, Bool.or_false, Bool.false_or, Bool.not_false, Bool.not_true, ↓reduceIte, Nat.reduceBEq, Nat.reduceEqDiff, beq_self_eq_true, true_and, and_true, eq_self_iff_true, Nat.reduceAdd, Nat.blt, Nat.ble, z_le, z_lt, z_eq, z_cl, z_add, z_sub, z_mul, z_in, z_lt0, z_ofN, z_m1, z_ltm1, z_m1lt, z_eqm1, z_m1eq, z_m1le, z_lem1, z_beq, nI_0_1, nI_m1lt0, nI_0lem1, not_false_eq_true, not_true_eq_false, forall_const, false_implies, true_implies, implies_true, false_and, and_false, mrg, renc, tra, trv, sg, List.map_cons, List.map_nil, Option.map_some, Option.map_none, Option.toList_some, Option.toList_none, List.cons_append, List.nil_append, List.length_cons, List.length_nil, gH, gO]
          exact hf
        · rw [if_neg q16] at hbad
          have hf := hbad rfl
          have t1 : n = 16 := by omega
          clear hgp hbad hpr hleaf
          subst t1
          refine wp_aw (S := fun _ => false) (by decide) 200 _ _ _ _ _ _ ?_
          simp (disch := first | exact rfl | decide | omega) only [u_111_0, u_111_1, u_111_3, u_111_6, u_111_7, u_111_10, u_111_12, u_111_15, u_111_16, u_111_17, u_111_18, u_111_19, u_111_22, u_111_23, u_111_24, u_111_27, u_111_28, u_111_31, u_111_32, u_111_35, u_111_36, u_111_37, u_111_38, u_111_39, u_111_42, u_111_43, u_111_44, u_111_47, u_111_48, u_111_49, u_111_50, u_111_52, u_111_55, u_111_56, u_111_57, u_111_60, u_111_63, u_111_66, u_111_69, u_111_70, u_111_73, u_111_75, u_111_78, u_111_79, u_111_80, u_111_81, u_111_82, u_111_85, u_111_86, u_111_87, u_111_90, u_111_91, u_111_92, u_111_94, u_111_97, u_111_98, u_111_101, u_111_102, u_111_104, u_111_105, u_111_106, u_111_107, u_111_108, u_111_109, u_111_112, u_111_113, wp_stop, lget, lput1, lput2, kil, hget, hset, vget, vset, fget, fgetC, fput, fputC, iget, igetC, jget, jgetC, qget, qgetC, alen, lenC, oI, oJ, oF, oA, oV, oH, oInc, oIld, oJld, oQld, oR, oLen, oIst, oBst, oJst, oQst, ciOf, rcv, oCp, cat1, cond_true, cond_false, Bool.and_self, Bool.and_true, Bool.true_and, Bool.or_true, Bool.true_or, Bool.or_false, Bool.false_or, Bool.not_false, Bool.not_true, ↓reduceIte, Nat.reduceBEq, Nat.reduceEqDiff, beq_self_eq_true, true_and, and_true, eq_self_iff_true, Nat.reduceAdd, Nat.blt, Nat.ble, z_le, z_lt, z_eq, z_cl, z_add, z_sub, z_mul, z_in, z_lt0, z_ofN, z_m1, z_ltm1, z_m1lt, z_eqm1, z_m1eq, z_m1le, z_lem1, z_beq, nI_0_1, nI_m1lt0, nI_0lem1, not_false_eq_true, not_true_eq_false, forall_const, false_implies, true_implies, implies_true, false_and, and_false, mrg, renc, tra, trv, sg, List.map_cons, List.map_nil, Option.map_some, Option.map_none, Option.toList_some, Option.toList_none, List.cons_append, List.nil_append, List.length_cons, List.length_nil, eL, mL_111, gH, gO]
          exact hf
      · rw [if_neg q95] at hbad
        have hf := hbad rfl
        have hin := g_in 0 (nI c) 97 104 (by decide) (by decide) (gH gal gps gst grf gmy gkd glf grt gpr gun gow gem ged gse gsz gtx gtl gsp gmd gop gom gwt gwm (nI n) (nI oo) gsh gtr gbl gbd gwh gfl gfd gfe)
        rw [inB_n (by omega) (by decide) (by decide)] at hin
        have eLt : (Nat.ble 97 c && Nat.ble c 104) = false := by
          rw [← Bool.not_eq_true, Bool.and_eq_true, Nat.ble_eq, Nat.ble_eq]
          exact qL
        rw [eLt] at hin
        clear hgp hbad hpr hleaf
        refine wp_aw (S := fun _ => false) (by decide) 200 _ _ _ _ _ _ ?_
        simp (disch := first | exact rfl | decide | omega) only [u_111_0, u_111_1, u_111_3, u_111_6, u_111_7, u_111_10, u_111_12, u_111_15, u_111_16, u_111_17, u_111_18, u_111_19, u_111_22, u_111_23, u_111_24, u_111_27, u_111_28, u_111_31, u_111_32, u_111_35, u_111_36, u_111_37, u_111_38, u_111_39, u_111_42, u_111_43, u_111_44, u_111_47, u_111_48, u_111_49, u_111_50, u_111_52, u_111_55, u_111_56, u_111_57, u_111_60, u_111_63, u_111_66, u_111_69, u_111_70, u_111_73, u_111_75, u_111_78, u_111_79, u_111_80, u_111_81, u_111_82, u_111_85, u_111_86, u_111_87, u_111_90, u_111_91, u_111_92, u_111_94, u_111_97, u_111_98, u_111_101, u_111_102, u_111_104, u_111_105, u_111_106, u_111_107, u_111_108, u_111_109, u_111_112, u_111_113, wp_stop, lget, lput1, lput2, kil, hget, hset, vget, vset, fget, fgetC, fput, fputC, iget, igetC, jget, jgetC, qget, qgetC, alen, lenC, oI, oJ, oF, oA, oV, oH, oInc, oIld, oJld, oQld, oR, oLen, oIst, oBst, oJst, oQst, ciOf, rcv, oCp, cat1, cond_true, cond_false, Bool.and_self, Bool.and_true, Bool.true_and, Bool.or_true, Bool.true_or, Bool.or_false, Bool.false_or, Bool.not_false, Bool.not_true, ↓reduceIte, Nat.reduceBEq, Nat.reduceEqDiff, beq_self_eq_true, true_and, and_true, eq_self_iff_true, Nat.reduceAdd, Nat.blt, Nat.ble, z_le, z_lt, z_eq, z_cl, z_add, z_sub, z_mul, z_in, z_lt0, z_ofN, z_m1, z_ltm1, z_m1lt, z_eqm1, z_m1eq, z_m1le, z_lem1, z_beq, nI_0_1, nI_m1lt0, nI_0lem1, not_false_eq_true, not_true_eq_false, forall_const, false_implies, true_implies, implies_true, false_and, and_false, mrg, renc, tra, trv, sg, List.map_cons, List.map_nil, Option.map_some, Option.map_none, Option.toList_some, Option.toList_none, List.cons_append, List.nil_append, List.length_cons, List.length_nil, eL, mL_111, gH, gO, q40, q95]
        refine CAL.dir (hin) (by rw [ggd]; omega) (by rw [ggc]; omega) (by rw [ggs]; omega) (Nat.le_of_ble_eq_true rfl) (by rw [ggn]; exact Nat.le_of_ble_eq_true rfl) rfl rfl ?_
        rintro _ _ ⟨rfl, rfl⟩
        simp (disch := first | exact rfl | decide | omega) only [u_111_0, u_111_1, u_111_3, u_111_6, u_111_7, u_111_10, u_111_12, u_111_15, u_111_16, u_111_17, u_111_18, u_111_19, u_111_22, u_111_23, u_111_24, u_111_27, u_111_28, u_111_31, u_111_32, u_111_35, u_111_36, u_111_37, u_111_38, u_111_39, u_111_42, u_111_43, u_111_44, u_111_47, u_111_48, u_111_49, u_111_50, u_111_52, u_111_55, u_111_56, u_111_57, u_111_60, u_111_63, u_111_66, u_111_69, u_111_70, u_111_73, u_111_75, u_111_78, u_111_79, u_111_80, u_111_81, u_111_82, u_111_85, u_111_86, u_111_87, u_111_90, u_111_91, u_111_92, u_111_94, u_111_97, u_111_98, u_111_101, u_111_102, u_111_104, u_111_105, u_111_106, u_111_107, u_111_108, u_111_109, u_111_112, u_111_113, wp_stop, lget, lput1, lput2, kil, hget, hset, vget, vset, fget, fgetC, fput, fputC, iget, igetC, jget, jgetC, qget, qgetC, alen, lenC, oI, oJ, oF, oA, oV, oH, oInc, oIld, oJld, oQld, oR, oLen, oIst, oBst, oJst, oQst, ciOf, rcv, oCp, cat1, cond_true, cond_false, Bool.and_self, Bool.and_true, Bool.true_and, Bool.or_true, Bool.true_or, Bool.or_false, Bool.false_or, Bool.not_false, Bool.not_true, ↓reduceIte, Nat.reduceBEq, Nat.reduceEqDiff, beq_self_eq_true, true_and, and_true, eq_self_iff_true, Nat.reduceAdd, Nat.blt, Nat.ble, z_le, z_lt, z_eq, z_cl, z_add, z_sub, z_mul, z_in, z_lt0, z_ofN, z_m1, z_ltm1, z_m1lt, z_eqm1, z_m1eq, z_m1le, z_lem1, z_beq, nI_0_1, nI_m1lt0, nI_0lem1, not_false_eq_true, not_true_eq_false, forall_const, false_implies, true_implies, implies_true, false_and, and_false, mrg, renc, tra, trv, sg, List.map_cons, List.map_nil, Option.map_some, Option.map_none, Option.toList_some, Option.toList_none, List.cons_append, List.nil_append, List.length_cons, List.length_nil, gH, gO, bNf]
        exact hf
set_option maxRecDepth 100000 in
theorem g_takesUnitM (d : Nat) : aSp (d + 1) 111 [.ref 0, .int (-1)] (gH gal gps gst grf gmy gkd glf grt gpr gun gow gem ged gse gsz gtx gtl gsp gmd gop gom gwt gwm gtn gon gsh gtr gbl gbd gwh gfl gfd gfe) nomv 0 0 (fun r h' => r = some (.int (nI 0)) ∧ h' = (gH gal gps gst grf gmy gkd glf grt gpr gun gow gem ged gse gsz gtx gtl gsp gmd gop gom gwt gwm gtn gon gsh gtr gbl gbd gwh gfl gfd gfe)) := by
  refine sp_of (by decide) (Nat.le_of_ble_eq_true rfl) ?_
  generalize hG : ((d + 1, _, nomv, _, _, _) : aG) = G
  have ggd : gD G = d + 1 := by subst hG; rfl
  have ggn : gN G = 21 := by subst hG; rfl
  have ggm : gM G = nomv := by subst hG; rfl
  have ggc : gC G = 0 := by subst hG; rfl
  have ggs : gS G = 0 := by subst hG; rfl
  have hret : RET G (some (.int (nI 0))) (gH gal gps gst grf gmy gkd glf grt gpr gun gow gem ged gse gsz gtx gtl gsp gmd gop gom gwt gwm gtn gon gsh gtr gbl gbd gwh gfl gfd gfe) 0 0 := by
    subst hG
    exact RET.id ⟨rfl, rfl⟩ (Nat.le_refl _) (Nat.le_refl _)
  clear hG
  have hin := g_in 0 (-1) 97 104 (by decide) (by decide) (gH gal gps gst grf gmy gkd glf grt gpr gun gow gem ged gse gsz gtx gtl gsp gmd gop gom gwt gwm gtn gon gsh gtr gbl gbd gwh gfl gfd gfe)
  have e : inB (-1) 97 104 = false := by decide
  rw [e] at hin
  refine wp_aw (S := fun _ => false) (by decide) 200 _ _ _ _ _ _ ?_
  simp (disch := first | exact rfl | decide | omega) only [u_111_0, u_111_1, u_111_3, u_111_6, u_111_7, u_111_10, u_111_12, u_111_15, u_111_16, u_111_17, u_111_18, u_111_19, u_111_22, u_111_23, u_111_24, u_111_27, u_111_28, u_111_31, u_111_32, u_111_35, u_111_36, u_111_37, u_111_38, u_111_39, u_111_42, u_111_43, u_111_44, u_111_47, u_111_48, u_111_49, u_111_50, u_111_52, u_111_55, u_111_56, u_111_57, u_111_60, u_111_63, u_111_66, u_111_69, u_111_70, u_111_73, u_111_75, u_111_78, u_111_79, u_111_80, u_111_81, u_111_82, u_111_85, u_111_86, u_111_87, u_111_90, u_111_91, u_111_92, u_111_94, u_111_97, u_111_98, u_111_101, u_111_102, u_111_104, u_111_105, u_111_106, u_111_107, u_111_108, u_111_109, u_111_112, u_111_113, wp_stop, lget, lput1, lput2, kil, hget, hset, vget, vset, fget, fgetC, fput, fputC, iget, igetC, jget, jgetC, qget, qgetC, alen, lenC, oI, oJ, oF, oA, oV, oH, oInc, oIld, oJld, oQld, oR, oLen, oIst, oBst, oJst, oQst, ciOf, rcv, oCp, cat1, cond_true, cond_false, Bool.and_self, Bool.and_true, Bool.true_and, Bool.or_true, Bool.true_or, Bool.or_false, Bool.false_or, Bool.not_false, Bool.not_true, ↓reduceIte, Nat.reduceBEq, Nat.reduceEqDiff, beq_self_eq_true, true_and, and_true, eq_self_iff_true, Nat.reduceAdd, Nat.blt, Nat.ble, z_le, z_lt, z_eq, z_cl, z_add, z_sub, z_mul, z_in, z_lt0, z_ofN, z_m1, z_ltm1, z_m1lt, z_eqm1, z_m1eq, z_m1le, z_lem1, z_beq, nI_0_1, nI_m1lt0, nI_0lem1, not_false_eq_true, not_true_eq_false, forall_const, false_implies, true_implies, implies_true, false_and, and_false, mrg, renc, tra, trv, sg, List.map_cons, List.map_nil, Option.map_some, Option.map_none, Option.toList_some, Option.toList_none, List.cons_append, List.nil_append, List.length_cons, List.length_nil, eL, mL_111, gH, gO]
  refine CAL.dir (hin) (by rw [ggd]; omega) (by rw [ggc]; omega) (by rw [ggs]; omega) (Nat.le_of_ble_eq_true rfl) (by rw [ggn]; exact Nat.le_of_ble_eq_true rfl) rfl rfl ?_
  rintro _ _ ⟨rfl, rfl⟩
  simp (disch := first | exact rfl | decide | omega) only [u_111_0, u_111_1, u_111_3, u_111_6, u_111_7, u_111_10, u_111_12, u_111_15, u_111_16, u_111_17, u_111_18, u_111_19, u_111_22, u_111_23, u_111_24, u_111_27, u_111_28, u_111_31, u_111_32, u_111_35, u_111_36, u_111_37, u_111_38, u_111_39, u_111_42, u_111_43, u_111_44, u_111_47, u_111_48, u_111_49, u_111_50, u_111_52, u_111_55, u_111_56, u_111_57, u_111_60, u_111_63, u_111_66, u_111_69, u_111_70, u_111_73, u_111_75, u_111_78, u_111_79, u_111_80, u_111_81, u_111_82, u_111_85, u_111_86, u_111_87, u_111_90, u_111_91, u_111_92, u_111_94, u_111_97, u_111_98, u_111_101, u_111_102, u_111_104, u_111_105, u_111_106, u_111_107, u_111_108, u_111_109, u_111_112, u_111_113, wp_stop, lget, lput1, lput2, kil, hget, hset, vget, vset, fget, fgetC, fput, fputC, iget, igetC, jget, jgetC, qget, qgetC, alen, lenC, oI, oJ, oF, oA, oV, oH, oInc, oIld, oJld, oQld, oR, oLen, oIst, oBst, oJst, oQst, ciOf, rcv, oCp, cat1, cond_true, cond_false, Bool.and_self, Bool.and_true, Bool.true_and, Bool.or_true, Bool.true_or, Bool.or_false, Bool.false_or, Bool.not_false, Bool.not_true, ↓reduceIte, Nat.reduceBEq, Nat.reduceEqDiff, beq_self_eq_true, true_and, and_true, eq_self_iff_true, Nat.reduceAdd, Nat.blt, Nat.ble, z_le, z_lt, z_eq, z_cl, z_add, z_sub, z_mul, z_in, z_lt0, z_ofN, z_m1, z_ltm1, z_m1lt, z_eqm1, z_m1eq, z_m1le, z_lem1, z_beq, nI_0_1, nI_m1lt0, nI_0lem1, not_false_eq_true, not_true_eq_false, forall_const, false_implies, true_implies, implies_true, false_and, and_false, mrg, renc, tra, trv, sg, List.map_cons, List.map_nil, Option.map_some, Option.map_none, Option.toList_some, Option.toList_none, List.cons_append, List.nil_append, List.length_cons, List.length_nil, gH, gO, bNf]
  exact hret
set_option maxRecDepth 100000 in
set_option maxHeartbeats 8000000 in
theorem g_takesOperator (d k : Nat) (hk : 10 ≤ k) (hk2 : k ≤ 15) (σ : rS) (hI : rdI σ) (h2 : σ.ph = 3) (hp : ppI σ gmd gop gom gwt gwm gtn gon) : aSp (d + 2) 117 [.ref 0, .int (nI (mkK k))] (gH gal gps gst grf gmy gkd glf grt gpr gun gow gem ged gse gsz gtx gtl gsp gmd gop gom gwt gwm gtn gon gsh gtr gbl gbd gwh gfl gfd gfe) nomv 0 0 (tkP gal gps gst grf gmy gkd glf grt gpr gun gow gem ged gse gsz gtx gtl gsp gsh gtr gbl gbd gwh gfl gfd gfe (if 13 ≤ k then rdN σ k else rdB σ k)) := by
  obtain ⟨-, hord, hi⟩ := hI
  obtain ⟨i1, i2, i3, i4, i5, i6, i7, i8⟩ := hi (by omega)
  obtain ⟨ph, ow, W, oo, n, L, Gr, od⟩ := σ
  simp only [rS.ph, rS.own, rS.W, rS.o, rS.nd, rS.L, rS.Gr, rS.ord] at *
  subst h2
  obtain ⟨hpr, rfl, rfl, hwo⟩ := hp
  simp only [rS.ph, rS.own, rS.W, rS.o, rS.nd, rS.L, rS.Gr, rS.ord, if_true] at hpr hwo ⊢
  obtain ⟨m1, m2, m3, m4⟩ := pr_m hpr
  refine sp_of (by decide) (Nat.le_of_ble_eq_true rfl) ?_
  generalize hG : ((d + 2, _, nomv, _, _, _) : aG) = G
  have ggd : gD G = d + 2 := by subst hG; rfl
  have ggn : gN G = 21 := by subst hG; rfl
  have ggm : gM G = nomv := by subst hG; rfl
  have ggc : gC G = 0 := by subst hG; rfl
  have ggs : gS G = 0 := by subst hG; rfl
  have hgp : gP G = tkP gal gps gst grf gmy gkd glf grt gpr gun gow gem ged gse gsz gtx gtl gsp gsh gtr gbl gbd gwh gfl gfd gfe (if 13 ≤ k then rdN (3, ow, W, oo, n, L, Gr, od) k else rdB (3, ow, W, oo, n, L, Gr, od) k) := by subst hG; rfl
  clear hG
  unfold rdN rdB at hgp
  simp only [rS.ph, rS.own, rS.W, rS.o, rS.nd, rS.L, rS.Gr, rS.ord] at hgp
  by_cases q16 : n + 1 ≤ 16
  · rw [if_pos q16, if_pos q16] at hgp
    have t1 : ¬ n = 16 := by omega
    by_cases q13 : 13 ≤ k
    · rw [if_pos q13] at hgp
      obtain ⟨u1, u2, u3⟩ := pr_un hpr q13 hk2
      have hf : RET G (some (.int (nI 1))) (gH gal gps gst grf gmy gkd glf grt gpr gun gow gem ged gse gsz gtx gtl gsp (mdN gmd L.length (nI (mkK k)) (nI (L.length - 1)) (-1)) (upd gop (nzW W) (nI L.length)) (nI (nzW W + 1)) gwt gwm (nI (n + 1)) (nI oo) gsh gtr gbl gbd gwh gfl gfd gfe) 0 0 := by
        refine RET.id ?_ (Nat.zero_le _) (Nat.zero_le _)
        rw [hgp]
        refine ⟨rfl, _, _, _, gwt, gwm, nI (n + 1), nI oo, rfl, fun σ' w => ?_⟩
        rw [← Option.some.inj w]
        refine ⟨?_, rfl, rfl, hwo⟩
        simp only [rS.ph, rS.own, rS.W, rS.o, rS.nd, rS.L, rS.Gr, rS.ord, if_true]
        exact u3
      have hps := g_pops gal gps gst grf gmy gkd glf grt gpr gun gow gem ged gse gsz gtx gtl gsp gmd gop gom gwt gwm (nI (n + 1)) (nI oo) gsh gtr gbl gbd gwh gfl gfd gfe 0 (nzW W) (by omega) m2
      rw [u2] at hps
      have hno := g_node gal gps gst grf gmy gkd glf grt gpr gun gow gem ged gse gsz gtx gtl gsp gmd gop (nI (nzW W)) gwt gwm (nI (n + 1)) (nI oo) gsh gtr gbl gbd gwh gfl gfd gfe 0 L.length (nzW W) (nI (mkK k)) (nI (L.length - 1)) (-1) (by omega) (by omega) m1 rfl
      have t2 : ¬ mkK k < 12 := by unfold mkK; rw [if_neg (by omega), if_neg (by omega), if_neg (by omega), if_neg (by omega)]; omega
      have t3 := mk_le hk2
      clear hgp hpr u3
      generalize L.length = ll at *
      generalize mkK k = kk at *
      refine wp_aw (S := fun _ => false) (by decide) 200 _ _ _ _ _ _ ?_
      simp (disch := first | exact rfl | decide | omega) only [u_117_0, u_117_1, u_117_4, u_117_6, u_117_9, u_117_10, u_117_11, u_117_12, u_117_13, u_117_16, u_117_17, u_117_18, u_117_21, u_117_22, u_117_24, u_117_27, u_117_28, u_117_31, u_117_32, u_117_33, u_117_34, u_117_35, u_117_36, u_117_39, u_117_42, u_117_43, u_117_44, u_117_47, u_117_48, u_117_51, u_117_52, u_117_55, u_117_56, u_117_57, u_117_58, u_117_59, u_117_62, u_117_63, u_117_64, u_117_67, u_117_68, wp_stop, lget, lput1, lput2, kil, hget, hset, vget, vset, fget, fgetC, fput, fputC, iget, igetC, jget, jgetC, qget, qgetC, alen, lenC, oI, oJ, oF, oA, oV, oH, oInc, oIld, oJld, oQld, oR, oLen, oIst, oBst, oJst, oQst, ciOf, rcv, oCp, cat1, cond_true, cond_false, Bool.and_self, Bool.and_true, Bool.true_and, Bool.or_true, Bool.true_or, Bool.or_false, Bool.false_or, Bool.not_false, Bool.not_true, ↓reduceIte, Nat.reduceBEq, Nat.reduceEqDiff, beq_self_eq_true, true_and, and_true, eq_self_iff_true, Nat.reduceAdd, Nat.blt, Nat.ble, z_le, z_lt, z_eq, z_cl, z_add, z_sub, z_mul, z_in, z_lt0, z_ofN, z_m1, z_ltm1, z_m1lt, z_eqm1, z_m1eq, z_m1le, z_lem1, z_beq, nI_0_1, nI_m1lt0, nI_0lem1, not_false_eq_true, not_true_eq_false, forall_const, false_implies, true_implies, implies_true, false_and, and_false, mrg, renc, tra, trv, sg, List.map_cons, List.map_nil, Option.map_some, Option.map_none, Option.toList_some, Option.toList_none, List.cons_append, List.nil_append, List.length_cons, List.length_nil, eL, mL_117, gH, gO, t1, t2]
      refine CAL.dir (hps) (by rw [ggd]; omega) (by rw [ggc]; omega) (by rw [ggs]; omega) (Nat.le_of_ble_eq_true rfl) (by rw [ggn]; exact Nat.le_of_ble_eq_true rfl) rfl rfl ?_
      rintro _ _ ⟨rfl, rfl⟩
      simp (disch := first | exact rfl | decide | omega) only [u_117_0, u_117_1, u_117_4, u_117_6, u_117_9, u_117_10, u_117_11, u_117_12, u_117_13, u_117_16, u_117_17, u_117_18, u_117_21, u_117_22, u_117_24, u_117_27, u_117_28, u_117_31, u_117_32, u_117_33, u_117_34, u_117_35, u_117_36, u_117_39, u_117_42, u_117_43, u_117_44, u_117_47, u_117_48, u_117_51, u_117_52, u_117_55, u_117_56, u_117_57, u_117_58, u_117_59, u_117_62, u_117_63, u_117_64, u_117_67, u_117_68, wp_stop, lget, lput1, lput2, kil, hget, hset, vget, vset, fget, fgetC, fput, fputC, iget, igetC, jget, jgetC, qget, qgetC, alen, lenC, oI, oJ, oF, oA, oV, oH, oInc, oIld, oJld, oQld, oR, oLen, oIst, oBst, oJst, oQst, ciOf, rcv, oCp, cat1, cond_true, cond_false, Bool.and_self, Bool.and_true, Bool.true_and, Bool.or_true, Bool.true_or, Bool.or_false, Bool.false_or, Bool.not_false, Bool.not_true, ↓reduceIte, Nat.reduceBEq, Nat.reduceEqDiff, beq_self_eq_true, true_and, and_true, eq_self_iff_true, Nat.reduceAdd, Nat.blt, Nat.ble, z_le, z_lt, z_eq, z_cl, z_add, z_sub, z_mul, z_in, z_lt0, z_ofN, z_m1, z_ltm1, z_m1lt, z_eqm1, z_m1eq, z_m1le, z_lem1, z_beq, nI_0_1, nI_m1lt0, nI_0lem1, not_false_eq_true, not_true_eq_false, forall_const, false_implies, true_implies, implies_true, false_and, and_false, mrg, renc, tra, trv, sg, List.map_cons, List.map_nil, Option.map_some, Option.map_none, Option.toList_some, Option.toList_none, List.cons_append, List.nil_append, List.length_cons, List.length_nil, gH, gO]
      refine CAL.dir (hno) (by rw [ggd]; omega) (by rw [ggc]; omega) (by rw [ggs]; omega) (Nat.le_of_ble_eq_true rfl) (by rw [ggn]; exact Nat.le_of_ble_eq_true rfl) rfl rfl ?_
      rintro _ _ ⟨rfl, rfl⟩
      simp (disch := first | exact rfl | decide | omega) only [u_117_0, u_117_1, u_117_4, u_117_6, u_117_9, u_117_10, u_117_11, u_117_12, u_117_13, u_117_16, u_117_17, u_117_18, u_117_21, u_117_22, u_117_24, u_117_27, u_117_28, u_117_31, u_117_32, u_117_33, u_117_34, u_117_35, u_117_36, u_117_39, u_117_42, u_117_43, u_117_44, u_117_47, u_117_48, u_117_51, u_117_52, u_117_55, u_117_56, u_117_57, u_117_58, u_117_59, u_117_62, u_117_63, u_117_64, u_117_67, u_117_68, wp_stop, lget, lput1, lput2, kil, hget, hset, vget, vset, fget, fgetC, fput, fputC, iget, igetC, jget, jgetC, qget, qgetC, alen, lenC, oI, oJ, oF, oA, oV, oH, oInc, oIld, oJld, oQld, oR, oLen, oIst, oBst, oJst, oQst, ciOf, rcv, oCp, cat1, cond_true, cond_false, Bool.and_self, Bool.and_true, Bool.true_and, Bool.or_true, Bool.true_or, Bool.or_false, Bool.false_or, Bool.not_false, Bool.not_true, ↓reduceIte, Nat.reduceBEq, Nat.reduceEqDiff, beq_self_eq_true, true_and, and_true, eq_self_iff_true, Nat.reduceAdd, Nat.blt, Nat.ble, z_le, z_lt, z_eq, z_cl, z_add, z_sub, z_mul, z_in, z_lt0, z_ofN, z_m1, z_ltm1, z_m1lt, z_eqm1, z_m1eq, z_m1le, z_lem1, z_beq, nI_0_1, nI_m1lt0, nI_0lem1, not_false_eq_true, not_true_eq_false, forall_const, false_implies, true_implies, implies_true, false_and, and_false, mrg, renc, tra, trv, sg, List.map_cons, List.map_nil, Option.map_some, Option.map_none, Option.toList_some, Option.toList_none, List.cons_append, List.nil_append, List.length_cons, List.length_nil, gH, gO]
      exact hf
    · rw [if_neg q13] at hgp
      have hwk : mkK k = wK k := by
        unfold mkK wK
        have : k = 10 ∨ k = 11 ∨ k = 12 := by omega
        rcases this with e | e | e <;> subst e <;> rfl
      have hred := g_reduces gal gps gst grf gmy gkd glf grt gpr gun gow gem ged gse gsz gtx gtl gsp gmd gop gom gwt gwm (nI (n + 1)) (nI oo) gsh gtr gbl gbd gwh gfl gfd gfe 0 k (bdV k) (nI (wK k)) (Or.inr ⟨hk, by omega, rfl, rfl⟩) W L hwo (by omega) (by omega) hpr
      have t2 : mkK k < 12 := by rw [hwk]; unfold wK; split <;> omega
      obtain ⟨pv1, pv2, pv3, pv4⟩ := popW_inv k (by omega) W L
      have pm := (popW_mem k W L).1
      rw [← hwk] at hred
      refine wp_aw (S := fun _ => false) (by decide) 200 _ _ _ _ _ _ ?_
      simp (disch := first | exact rfl | decide | omega) only [u_117_0, u_117_1, u_117_4, u_117_6, u_117_9, u_117_10, u_117_11, u_117_12, u_117_13, u_117_16, u_117_17, u_117_18, u_117_21, u_117_22, u_117_24, u_117_27, u_117_28, u_117_31, u_117_32, u_117_33, u_117_34, u_117_35, u_117_36, u_117_39, u_117_42, u_117_43, u_117_44, u_117_47, u_117_48, u_117_51, u_117_52, u_117_55, u_117_56, u_117_57, u_117_58, u_117_59, u_117_62, u_117_63, u_117_64, u_117_67, u_117_68, wp_stop, lget, lput1, lput2, kil, hget, hset, vget, vset, fget, fgetC, fput, fputC, iget, igetC, jget, jgetC, qget, qgetC, alen, lenC, oI, oJ, oF, oA, oV, oH, oInc, oIld, oJld, oQld, oR, oLen, oIst, oBst, oJst, oQst, ciOf, rcv, oCp, cat1, cond_true, cond_false, Bool.and_self, Bool.and_true, Bool.true_and, Bool.or_true, Bool.true_or, Bool.or_false, Bool.false_or, Bool.not_false, Bool.not_true, ↓reduceIte, Nat.reduceBEq, Nat.reduceEqDiff, beq_self_eq_true, true_and, and_true, eq_self_iff_true, Nat.reduceAdd, Nat.blt, Nat.ble, z_le, z_lt, z_eq, z_cl, z_add, z_sub, z_mul, z_in, z_lt0, z_ofN, z_m1, z_ltm1, z_m1lt, z_eqm1, z_m1eq, z_m1le, z_lem1, z_beq, nI_0_1, nI_m1lt0, nI_0lem1, not_false_eq_true, not_true_eq_false, forall_const, false_implies, true_implies, implies_true, false_and, and_false, mrg, renc, tra, trv, sg, List.map_cons, List.map_nil, Option.map_some, Option.map_none, Option.toList_some, Option.toList_none, List.cons_append, List.nil_append, List.length_cons, List.length_nil, eL, mL_117, gH, gO, t1, t2]
      refine CAL.dir hred (by rw [ggd]; omega) (Nat.zero_le _) (Nat.zero_le _) (Nat.le_of_ble_eq_true rfl) (by rw [ggn]; exact Nat.le_of_ble_eq_true rfl) rfl rfl ?_
      rintro _ _ ⟨rfl, gmd, gop, gom, gwm, rfl, hq⟩
      obtain ⟨-, -, m3', -⟩ := pr_m hq
      have hf : RET G (some (.int (nI 1))) (gH gal gps gst grf gmy gkd glf grt gpr gun gow gem ged gse gsz gtx gtl gsp gmd gop gom (upd gwt (popW k W L).1.length (nI (mkK k))) (nI ((popW k W L).1.length + 1)) (nI (n + 1)) (nI oo) gsh gtr gbl gbd gwh gfl gfd gfe) 0 0 := by
        refine RET.id ?_ (Nat.zero_le _) (Nat.zero_le _)
        rw [hgp]
        refine ⟨rfl, gmd, gop, gom, _, _, nI (n + 1), nI oo, rfl, fun σ' w => ?_⟩
        rw [← Option.some.inj w]
        refine ⟨?_, rfl, rfl, fun y hy => ?_⟩
        · rw [hwk]
          exact pr_bin hq hk
        · rcases List.mem_cons.mp hy with e | e
          · rw [e]; exact Or.inr ⟨hk, by omega⟩
          · exact hwo y (pm y e)
      clear hgp hpr hq hred
      have hwl : (popW k W L).1.length < 40 := by omega
      generalize (popW k W L).1.length = wl at *
      generalize mkK k = kk at *
      simp (disch := first | exact rfl | decide | omega) only [u_117_0, u_117_1, u_117_4, u_117_6, u_117_9, u_117_10, u_117_11, u_117_12, u_117_13, u_117_16, u_117_17, u_117_18, u_117_21, u_117_22, u_117_24, u_117_27, u_117_28, u_117_31, u_117_32, u_117_33, u_117_34, u_117_35, u_117_36, u_117_39, u_117_42, u_117_43, u_117_44, u_117_47, u_117_48, u_117_51, u_117_52, u_117_55, u_117_56, u_117_57, u_117_58, u_117_59, u_117_62, u_117_63, u_117_64, u_117_67, u_117_68, wp_stop, lget, lput1, lput2, kil, hget, hset, vget, vset, fget, fgetC, fput, fputC, iget, igetC, jget, jgetC, qget, qgetC, alen, lenC, oI, oJ, oF, oA, oV, oH, oInc, oIld, oJld, oQld, oR, oLen, oIst, oBst, oJst, oQst, ciOf, rcv, oCp, cat1, cond_true, cond_false, Bool.and_self, Bool.and_true, Bool.true_and, Bool.or_true, Bool.true_or, Bool.or_false, Bool.false_or, Bool.not_false, Bool.not_true, ↓reduceIte, Nat.reduceBEq, Nat.reduceEqDiff, beq_self_eq_true, true_and, and_true, eq_self_iff_true, Nat.reduceAdd, Nat.blt, Nat.ble, z_le, z_lt, z_eq, z_cl, z_add, z_sub, z_mul, z_in, z_lt0, z_ofN, z_m1, z_ltm1, z_m1lt, z_eqm1, z_m1eq, z_m1le, z_lem1, z_beq, nI_0_1, nI_m1lt0, nI_0lem1, not_false_eq_true, not_true_eq_false, forall_const, false_implies, true_implies, implies_true, false_and, and_false, mrg, renc, tra, trv, sg, List.map_cons, List.map_nil, Option.map_some, Option.map_none, Option.toList_some, Option.toList_none, List.cons_append, List.nil_append, List.length_cons, List.length_nil, gH, gO, m3']
      exact hf
  · have hf : RET G (some (.int (nI 0))) (gH gal gps gst grf gmy gkd glf grt gpr gun gow gem ged gse gsz gtx gtl gsp gmd gop gom gwt gwm (nI n) (nI oo) gsh gtr gbl gbd gwh gfl gfd gfe) 0 0 := by
      refine RET.id ?_ (Nat.zero_le _) (Nat.zero_le _)
      rw [if_neg q16, if_neg q16, ite_self] at hgp
      rw [hgp]
      exact ⟨rfl, gmd, gop, gom, gwt, gwm, nI n, nI oo, rfl, fun σ' w => by simp at w⟩
    have t1 : n = 16 := by omega
    subst t1
    clear hgp
    refine wp_aw (S := fun _ => false) (by decide) 200 _ _ _ _ _ _ ?_
    simp (disch := first | exact rfl | decide | omega) only [u_117_0, u_117_1, u_117_4, u_117_6, u_117_9, u_117_10, u_117_11, u_117_12, u_117_13, u_117_16, u_117_17, u_117_18, u_117_21, u_117_22, u_117_24, u_117_27, u_117_28, u_117_31, u_117_32, u_117_33, u_117_34, u_117_35, u_117_36, u_117_39, u_117_42, u_117_43, u_117_44, u_117_47, u_117_48, u_117_51, u_117_52, u_117_55, u_117_56, u_117_57, u_117_58, u_117_59, u_117_62, u_117_63, u_117_64, u_117_67, u_117_68, wp_stop, lget, lput1, lput2, kil, hget, hset, vget, vset, fget, fgetC, fput, fputC, iget, igetC, jget, jgetC, qget, qgetC, alen, lenC, oI, oJ, oF, oA, oV, oH, oInc, oIld, oJld, oQld, oR, oLen, oIst, oBst, oJst, oQst, ciOf, rcv, oCp, cat1, cond_true, cond_false, Bool.and_self, Bool.and_true, Bool.true_and, Bool.or_true, Bool.true_or, Bool.or_false, Bool.false_or, Bool.not_false, Bool.not_true, ↓reduceIte, Nat.reduceBEq, Nat.reduceEqDiff, beq_self_eq_true, true_and, and_true, eq_self_iff_true, Nat.reduceAdd, Nat.blt, Nat.ble, z_le, z_lt, z_eq, z_cl, z_add, z_sub, z_mul, z_in, z_lt0, z_ofN, z_m1, z_ltm1, z_m1lt, z_eqm1, z_m1eq, z_m1le, z_lem1, z_beq, nI_0_1, nI_m1lt0, nI_0lem1, not_false_eq_true, not_true_eq_false, forall_const, false_implies, true_implies, implies_true, false_and, and_false, mrg, renc, tra, trv, sg, List.map_cons, List.map_nil, Option.map_some, Option.map_none, Option.toList_some, Option.toList_none, List.cons_append, List.nil_append, List.length_cons, List.length_nil, eL, mL_117, gH, gO]
    exact hf
end GM
