/-! ResidualJudgeModel: its cells, its small methods -/
abbrev gO (sts my tl sp om wm tn on bl bd fl fd fe : Int32) : aC := .inr (10, [.ref 1, .ref 2, .int sts, .ref 3, .int my, .ref 4, .ref 5, .ref 6, .ref 7, .ref 8, .ref 9, .ref 10, .ref 11, .ref 12, .ref 13, .ref 14, .int tl, .int sp, .ref 15, .ref 16, .int om, .ref 17, .int wm, .int tn, .int on, .ref 18, .ref 19, .int bl, .int bd, .ref 20, .int fl, .int fd, .int fe])
section GM
variable (gal : Nat → Int32) (gps : Nat → Int32) (gst : Int32) (grf : Nat → Int32) (gmy : Int32) (gkd : Nat → Int32) (glf : Nat → Int32) (grt : Nat → Int32) (gpr : Nat → Int32) (gun : Nat → Int32) (gow : Nat → Int32) (gem : Nat → Int32) (ged : Nat → Int32) (gse : Nat → Int32) (gsz : Nat → Int32) (gtx : Nat → Int32) (gtl : Int32) (gsp : Int32) (gmd : Nat → Int32) (gop : Nat → Int32) (gom : Int32) (gwt : Nat → Int32) (gwm : Int32) (gtn : Int32) (gon : Int32) (gsh : Nat → Int32) (gtr : Nat → Int32) (gbl : Int32) (gbd : Int32) (gwh : Nat → Int32) (gfl : Int32) (gfd : Int32) (gfe : Int32)
abbrev gH : aH := [gO gst gmy gtl gsp gom gwm gtn gon gbl gbd gfl gfd gfe, .inl (1, 464, .inl gal), .inl (1, 1856, .inl gps), .inl (1, 3, .inl grf), .inl (1, 16, .inl gkd), .inl (1, 16, .inl glf), .inl (1, 16, .inl grt), .inl (1, 16, .inl gpr), .inl (1, 16, .inl gun), .inl (1, 16, .inl gow), .inl (1, 16, .inl gem), .inl (1, 16, .inl ged), .inl (1, 5376, .inl gse), .inl (1, 21, .inl gsz), .inl (1, 150, .inl gtx), .inl (1, 49, .inl gmd), .inl (1, 20, .inl gop), .inl (1, 40, .inl gwt), .inl (1, 16, .inl gsh), .inl (1, 8, .inl gtr), .inl (1, 10, .inl gwh)]
end GM
theorem lc_lt {a b : Int64} : lg_cmp a b < nI 0 ↔ a < b := lg_cmp_lt a b
theorem lc_gt {a b : Int64} : nI 0 < lg_cmp a b ↔ b < a := lg_cmp_gt a b
theorem lI_lt {c : Int32} {a : Nat} (h : a < 2 ^ 31) : c.toInt64 < lN a ↔ c < nI a := by
  rw [Int64.lt_iff_toInt_lt, Int32.lt_iff_toInt_lt, Int32.toInt_toInt64, nI_toInt h]
  have : (lN a).toInt = (a : Int) := Int64.toInt_ofNat_of_lt (by omega)
  rw [this]
theorem lI_gt {c : Int32} {a : Nat} (h : a < 2 ^ 31) : lN a < c.toInt64 ↔ nI a < c := by
  rw [Int64.lt_iff_toInt_lt, Int32.lt_iff_toInt_lt, Int32.toInt_toInt64, nI_toInt h]
  have : (lN a).toInt = (a : Int) := Int64.toInt_ofNat_of_lt (by omega)
  rw [this]
/-- between two bounds -/
def inB (c : Int32) (a b : Nat) : Bool := !decide (c < nI a) && !decide (nI b < c)
set_option maxRecDepth 100000 in
theorem g_in (d : Nat) (c : Int32) (a b : Nat) (ha : a < 2 ^ 31) (hb : b < 2 ^ 31) (h : aH) : aSp d 104 [.long c.toInt64, .long (lN a), .long (lN b)] h nomv 0 0 (fun r h' => r = some (.int (bN (inB c a b))) ∧ h' = h) := by
  refine sp_of (by decide) (Nat.le_of_ble_eq_true rfl) ?_
  generalize hG : ((d, _, nomv, _, _, _) : aG) = G
  have hret : RET G (some (.int (bN (inB c a b)))) h 0 0 := by
    subst hG
    exact RET.id ⟨rfl, rfl⟩ (Nat.le_refl _) (Nat.le_refl _)
  clear hG
  unfold inB at hret
  by_cases q1 : c < nI a
  · have t1 : lg_cmp c.toInt64 (lN a) < nI 0 := lc_lt.mpr ((lI_lt ha).mpr q1)
    rw [decide_eq_true q1] at hret
    have hret2 : RET G (some (.int (nI 0))) h 0 0 := hret
    refine wp_aw (S := fun _ => false) (by decide) 200 _ _ _ _ _ _ ?_
    simp (disch := first | exact rfl | decide | omega) only [u_104_0, u_104_1, u_104_2, u_104_3, u_104_6, u_104_7, u_104_9, u_104_10, u_104_13, u_104_14, u_104_17, u_104_18, wp_stop, lget, lput1, lput2, kil, hget, hset, vget, vset, fget, fgetC, fput, fputC, iget, igetC, jget, jgetC, qget, qgetC, alen, lenC, oI, oJ, oF, oA, oV, oH, oInc, oIld, oJld, oQld, oR, oLen, oIst, oBst, oJst, oQst, ciOf, rcv, oCp, cat1, cond_true, cond_false, Bool.and_self, Bool.and_true, Bool.true_and, Bool.or_true, Bool.true_or, Bool.or_false, Bool.false_or, Bool.not_false, Bool.not_true, ↓reduceIte, Nat.reduceBEq, Nat.reduceEqDiff, beq_self_eq_true, true_and, and_true, eq_self_iff_true, Nat.reduceAdd, Nat.blt, Nat.ble, z_le, z_lt, z_eq, z_cl, z_add, z_sub, z_mul, z_in, z_lt0, z_ofN, z_m1, z_ltm1, z_m1lt, z_eqm1, z_m1eq, z_m1le, z_lem1, z_beq, nI_0_1, nI_m1lt0, nI_0lem1, not_false_eq_true, not_true_eq_false, forall_const, false_implies, true_implies, implies_true, false_and, and_false, mrg, renc, tra, trv, sg, List.map_cons, List.map_nil, Option.map_some, Option.map_none, Option.toList_some, Option.toList_none, List.cons_append, List.nil_append, List.length_cons, List.length_nil, eL, mL_104, t1]
    exact hret2
  · have t1 : ¬ lg_cmp c.toInt64 (lN a) < nI 0 := fun z => q1 ((lI_lt ha).mp (lc_lt.mp z))
    rw [decide_eq_false q1] at hret
    by_cases q2 : nI b < c
    · have t2 : nI 0 < lg_cmp c.toInt64 (lN b) := lc_gt.mpr ((lI_gt hb).mpr q2)
      rw [decide_eq_true q2] at hret
      have hret2 : RET G (some (.int (nI 0))) h 0 0 := hret
      refine wp_aw (S := fun _ => false) (by decide) 200 _ _ _ _ _ _ ?_
      simp (disch := first | exact rfl | decide | omega) only [u_104_0, u_104_1, u_104_2, u_104_3, u_104_6, u_104_7, u_104_9, u_104_10, u_104_13, u_104_14, u_104_17, u_104_18, wp_stop, lget, lput1, lput2, kil, hget, hset, vget, vset, fget, fgetC, fput, fputC, iget, igetC, jget, jgetC, qget, qgetC, alen, lenC, oI, oJ, oF, oA, oV, oH, oInc, oIld, oJld, oQld, oR, oLen, oIst, oBst, oJst, oQst, ciOf, rcv, oCp, cat1, cond_true, cond_false, Bool.and_self, Bool.and_true, Bool.true_and, Bool.or_true, Bool.true_or, Bool.or_false, Bool.false_or, Bool.not_false, Bool.not_true, ↓reduceIte, Nat.reduceBEq, Nat.reduceEqDiff, beq_self_eq_true, true_and, and_true, eq_self_iff_true, Nat.reduceAdd, Nat.blt, Nat.ble, z_le, z_lt, z_eq, z_cl, z_add, z_sub, z_mul, z_in, z_lt0, z_ofN, z_m1, z_ltm1, z_m1lt, z_eqm1, z_m1eq, z_m1le, z_lem1, z_beq, nI_0_1, nI_m1lt0, nI_0lem1, not_false_eq_true, not_true_eq_false, forall_const, false_implies, true_implies, implies_true, false_and, and_false, mrg, renc, tra, trv, sg, List.map_cons, List.map_nil, Option.map_some, Option.map_none, Option.toList_some, Option.toList_none, List.cons_append, List.nil_append, List.length_cons, List.length_nil, eL, mL_104, t1, t2]
      exact hret2
    · have t2 : ¬ nI 0 < lg_cmp c.toInt64 (lN b) := fun z => q2 ((lI_gt hb).mp (lc_gt.mp z))
      rw [decide_eq_false q2] at hret
      have hret2 : RET G (some (.int (nI 1))) h 0 0 := hret
      refine wp_aw (S := fun _ => false) (by decide) 200 _ _ _ _ _ _ ?_
      simp (disch := first | exact rfl | decide | omega) only [u_104_0, u_104_1, u_104_2, u_104_3, u_104_6, u_104_7, u_104_9, u_104_10, u_104_13, u_104_14, u_104_17, u_104_18, wp_stop, lget, lput1, lput2, kil, hget, hset, vget, vset, fget, fgetC, fput, fputC, iget, igetC, jget, jgetC, qget, qgetC, alen, lenC, oI, oJ, oF, oA, oV, oH, oInc, oIld, oJld, oQld, oR, oLen, oIst, oBst, oJst, oQst, ciOf, rcv, oCp, cat1, cond_true, cond_false, Bool.and_self, Bool.and_true, Bool.true_and, Bool.or_true, Bool.true_or, Bool.or_false, Bool.false_or, Bool.not_false, Bool.not_true, ↓reduceIte, Nat.reduceBEq, Nat.reduceEqDiff, beq_self_eq_true, true_and, and_true, eq_self_iff_true, Nat.reduceAdd, Nat.blt, Nat.ble, z_le, z_lt, z_eq, z_cl, z_add, z_sub, z_mul, z_in, z_lt0, z_ofN, z_m1, z_ltm1, z_m1lt, z_eqm1, z_m1eq, z_m1le, z_lem1, z_beq, nI_0_1, nI_m1lt0, nI_0lem1, not_false_eq_true, not_true_eq_false, forall_const, false_implies, true_implies, implies_true, false_and, and_false, mrg, renc, tra, trv, sg, List.map_cons, List.map_nil, Option.map_some, Option.map_none, Option.toList_some, Option.toList_none, List.cons_append, List.nil_append, List.length_cons, List.length_nil, eL, mL_104, t1, t2]
      exact hret2
theorem inB_n {k a b : Nat} (hk : k < 2 ^ 31) (ha : a < 2 ^ 31) (hb : b < 2 ^ 31) : inB (nI k) a b = (Nat.ble a k && Nat.ble k b) := by
  unfold inB
  rw [Bool.eq_iff_iff]
  simp only [z_lt hk ha, z_lt hb hk, Bool.and_eq_true, Bool.not_eq_true', decide_eq_false_iff_not, Nat.ble_eq]
  omega
section GM
variable (gal : Nat → Int32) (gps : Nat → Int32) (gst : Int32) (grf : Nat → Int32) (gmy : Int32) (gkd : Nat → Int32) (glf : Nat → Int32) (grt : Nat → Int32) (gpr : Nat → Int32) (gun : Nat → Int32) (gow : Nat → Int32) (gem : Nat → Int32) (ged : Nat → Int32) (gse : Nat → Int32) (gsz : Nat → Int32) (gtx : Nat → Int32) (gtl : Int32) (gsp : Int32) (gmd : Nat → Int32) (gop : Nat → Int32) (gom : Int32) (gwt : Nat → Int32) (gwm : Int32) (gtn : Int32) (gon : Int32) (gsh : Nat → Int32) (gtr : Nat → Int32) (gbl : Int32) (gbd : Int32) (gwh : Nat → Int32) (gfl : Int32) (gfd : Int32) (gfe : Int32)
set_option maxRecDepth 100000 in
theorem g_refuses (d k : Nat) (hk : k < 3) (w : Int32) (hw : -2 - w = nI k) : aSp d 105 [.ref 0, .int w] (gH gal gps gst grf gmy gkd glf grt gpr gun gow gem ged gse gsz gtx gtl gsp gmd gop gom gwt gwm gtn gon gsh gtr gbl gbd gwh gfl gfd gfe) nomv 0 0 (fun r h' => r = some (.int w) ∧ h' = (gH gal gps gst (upd grf k (grf k + nI 1)) gmy gkd glf grt gpr gun gow gem ged gse gsz gtx gtl gsp gmd gop gom gwt gwm gtn gon gsh gtr gbl gbd gwh gfl gfd gfe)) := by
  refine sp_of (by decide) (Nat.le_of_ble_eq_true rfl) ?_
  generalize hG : ((d, _, nomv, _, _, _) : aG) = G
  have ggd : gD G = d := by subst hG; rfl
  have ggn : gN G = 21 := by subst hG; rfl
  have ggm : gM G = nomv := by subst hG; rfl
  have ggc : gC G = 0 := by subst hG; rfl
  have ggs : gS G = 0 := by subst hG; rfl
  have hret : RET G (some (.int w)) (gH gal gps gst (upd grf k (grf k + nI 1)) gmy gkd glf grt gpr gun gow gem ged gse gsz gtx gtl gsp gmd gop gom gwt gwm gtn gon gsh gtr gbl gbd gwh gfl gfd gfe) 0 0 := by
    subst hG
    exact RET.id ⟨rfl, rfl⟩ (Nat.le_refl _) (Nat.le_refl _)
  clear hG
  refine wp_aw (S := fun _ => false) (by decide) 200 _ _ _ _ _ _ ?_
  simp (disch := first | exact rfl | decide | omega) only [u_105_0, u_105_1, u_105_4, u_105_6, u_105_7, u_105_8, u_105_9, u_105_10, u_105_11, u_105_12, u_105_13, u_105_14, wp_stop, lget, lput1, lput2, kil, hget, hset, vget, vset, fget, fgetC, fput, fputC, iget, igetC, jget, jgetC, qget, qgetC, alen, lenC, oI, oJ, oF, oA, oV, oH, oInc, oIld, oJld, oQld, oR, oLen, oIst, oBst, oJst, oQst, ciOf, rcv, oCp, cat1, cond_true, cond_false, Bool.and_self, Bool.and_true, Bool.true_and, Bool.or_true, Bool.true_or, Bool.or_false, Bool.false_or, Bool.not_false, Bool.not_true, ↓reduceIte, Nat.reduceBEq, Nat.reduceEqDiff, beq_self_eq_true, true_and, and_true, eq_self_iff_true, Nat.reduceAdd, Nat.blt, Nat.ble, z_le, z_lt, z_eq, z_cl, z_add, z_sub, z_mul, z_in, z_lt0, z_ofN, z_m1, z_ltm1, z_m1lt, z_eqm1, z_m1eq, z_m1le, z_lem1, z_beq, nI_0_1, nI_m1lt0, nI_0lem1, not_false_eq_true, not_true_eq_false, forall_const, false_implies, true_implies, implies_true, false_and, and_false, mrg, renc, tra, trv, sg, List.map_cons, List.map_nil, Option.map_some, Option.map_none, Option.toList_some, Option.toList_none, List.cons_append, List.nil_append, List.length_cons, List.length_nil, eL, mL_105, gH, gO, hw]
  exact hret
set_option maxRecDepth 100000 in
theorem g_rowLong (d : Nat) : aSp d 148 [.ref 0] (gH gal gps gst grf gmy gkd glf grt gpr gun gow gem ged gse gsz gtx gtl gsp gmd gop gom gwt gwm gtn gon gsh gtr gbl gbd gwh gfl gfd gfe) nomv 0 0 (fun r h' => r = some (.int (gal 443)) ∧ h' = (gH gal gps gst grf gmy gkd glf grt gpr gun gow gem ged gse gsz gtx gtl gsp gmd gop gom gwt gwm gtn gon gsh gtr gbl gbd gwh gfl gfd gfe)) := by
  refine sp_of (by decide) (Nat.le_of_ble_eq_true rfl) ?_
  generalize hG : ((d, _, nomv, _, _, _) : aG) = G
  have ggd : gD G = d := by subst hG; rfl
  have ggn : gN G = 21 := by subst hG; rfl
  have ggm : gM G = nomv := by subst hG; rfl
  have ggc : gC G = 0 := by subst hG; rfl
  have ggs : gS G = 0 := by subst hG; rfl
  have hret : RET G (some (.int (gal 443))) (gH gal gps gst grf gmy gkd glf grt gpr gun gow gem ged gse gsz gtx gtl gsp gmd gop gom gwt gwm gtn gon gsh gtr gbl gbd gwh gfl gfd gfe) 0 0 := by
    subst hG
    exact RET.id ⟨rfl, rfl⟩ (Nat.le_refl _) (Nat.le_refl _)
  clear hG
  refine wp_aw (S := fun _ => false) (by decide) 200 _ _ _ _ _ _ ?_
  simp (disch := first | exact rfl | decide | omega) only [u_148_0, u_148_1, u_148_4, u_148_7, u_148_8, wp_stop, lget, lput1, lput2, kil, hget, hset, vget, vset, fget, fgetC, fput, fputC, iget, igetC, jget, jgetC, qget, qgetC, alen, lenC, oI, oJ, oF, oA, oV, oH, oInc, oIld, oJld, oQld, oR, oLen, oIst, oBst, oJst, oQst, ciOf, rcv, oCp, cat1, cond_true, cond_false, Bool.and_self, Bool.and_true, Bool.true_and, Bool.or_true, Bool.true_or, Bool.or_false, Bool.false_or, Bool.not_false, Bool.not_true, ↓reduceIte, Nat.reduceBEq, Nat.reduceEqDiff, beq_self_eq_true, true_and, and_true, eq_self_iff_true, Nat.reduceAdd, Nat.blt, Nat.ble, z_le, z_lt, z_eq, z_cl, z_add, z_sub, z_mul, z_in, z_lt0, z_ofN, z_m1, z_ltm1, z_m1lt, z_eqm1, z_m1eq, z_m1le, z_lem1, z_beq, nI_0_1, nI_m1lt0, nI_0lem1, not_false_eq_true, not_true_eq_false, forall_const, false_implies, true_implies, implies_true, false_and, and_false, mrg, renc, tra, trv, sg, List.map_cons, List.map_nil, Option.map_some, Option.map_none, Option.toList_some, Option.toList_none, List.cons_append, List.nil_append, List.length_cons, List.length_nil, eL, mL_148, gH, gO]
  exact hret
set_option maxRecDepth 100000 in
theorem g_forgets (d : Nat) : aSp d 102 [.ref 0] (gH gal gps gst grf gmy gkd glf grt gpr gun gow gem ged gse gsz gtx gtl gsp gmd gop gom gwt gwm gtn gon gsh gtr gbl gbd gwh gfl gfd gfe) nomv 0 0 (fun r h' => r = none ∧ h' = (gH (upd (upd gal 442 (nI 8)) 443 (nI 0)) gps gst grf gmy gkd glf grt gpr gun gow gem ged gse gsz gtx gtl gsp gmd gop gom gwt gwm gtn gon gsh gtr gbl gbd gwh gfl gfd gfe)) := by
  refine sp_of (by decide) (Nat.le_of_ble_eq_true rfl) ?_
  generalize hG : ((d, _, nomv, _, _, _) : aG) = G
  have ggd : gD G = d := by subst hG; rfl
  have ggn : gN G = 21 := by subst hG; rfl
  have ggm : gM G = nomv := by subst hG; rfl
  have ggc : gC G = 0 := by subst hG; rfl
  have ggs : gS G = 0 := by subst hG; rfl
  have hret : RET G none (gH (upd (upd gal 442 (nI 8)) 443 (nI 0)) gps gst grf gmy gkd glf grt gpr gun gow gem ged gse gsz gtx gtl gsp gmd gop gom gwt gwm gtn gon gsh gtr gbl gbd gwh gfl gfd gfe) 0 0 := by
    subst hG
    exact RET.id ⟨rfl, rfl⟩ (Nat.le_refl _) (Nat.le_refl _)
  clear hG
  refine wp_aw (S := fun _ => false) (by decide) 200 _ _ _ _ _ _ ?_
  simp (disch := first | exact rfl | decide | omega) only [u_102_0, u_102_1, u_102_4, u_102_7, u_102_9, u_102_10, u_102_11, u_102_14, u_102_17, u_102_18, u_102_19, wp_stop, lget, lput1, lput2, kil, hget, hset, vget, vset, fget, fgetC, fput, fputC, iget, igetC, jget, jgetC, qget, qgetC, alen, lenC, oI, oJ, oF, oA, oV, oH, oInc, oIld, oJld, oQld, oR, oLen, oIst, oBst, oJst, oQst, ciOf, rcv, oCp, cat1, cond_true, cond_false, Bool.and_self, Bool.and_true, Bool.true_and, Bool.or_true, Bool.true_or, Bool.or_false, Bool.false_or, Bool.not_false, Bool.not_true, ↓reduceIte, Nat.reduceBEq, Nat.reduceEqDiff, beq_self_eq_true, true_and, and_true, eq_self_iff_true, Nat.reduceAdd, Nat.blt, Nat.ble, z_le, z_lt, z_eq, z_cl, z_add, z_sub, z_mul, z_in, z_lt0, z_ofN, z_m1, z_ltm1, z_m1lt, z_eqm1, z_m1eq, z_m1le, z_lem1, z_beq, nI_0_1, nI_m1lt0, nI_0lem1, not_false_eq_true, not_true_eq_false, forall_const, false_implies, true_implies, implies_true, false_and, and_false, mrg, renc, tra, trv, sg, List.map_cons, List.map_nil, Option.map_some, Option.map_none, Option.toList_some, Option.toList_none, List.cons_append, List.nil_append, List.length_cons, List.length_nil, eL, mL_102, gH, gO]
  exact hret
set_option maxRecDepth 100000 in
theorem g_empties (d x : Nat) (hx : x < 9) : aSp d 101 [.ref 0, .int (nI x)] (gH gal gps gst grf gmy gkd glf grt gpr gun gow gem ged gse gsz gtx gtl gsp gmd gop gom gwt gwm gtn gon gsh gtr gbl gbd gwh gfl gfd gfe) nomv 0 0 (fun r h' => r = none ∧ h' = (gH (upd (upd (upd (upd gal (49 * x) (nI 1)) (49 * x + 1) (nI 0)) (49 * x + 2) (-1)) (49 * x + 3) (-1)) gps gst grf gmy gkd glf grt gpr gun gow gem ged gse gsz gtx gtl gsp gmd gop gom gwt gwm gtn gon gsh gtr gbl gbd gwh gfl gfd gfe)) := by
  refine sp_of (by decide) (Nat.le_of_ble_eq_true rfl) ?_
  generalize hG : ((d, _, nomv, _, _, _) : aG) = G
  have ggd : gD G = d := by subst hG; rfl
  have ggn : gN G = 21 := by subst hG; rfl
  have ggm : gM G = nomv := by subst hG; rfl
  have ggc : gC G = 0 := by subst hG; rfl
  have ggs : gS G = 0 := by subst hG; rfl
  have hret : RET G none (gH (upd (upd (upd (upd gal (49 * x) (nI 1)) (49 * x + 1) (nI 0)) (49 * x + 2) (-1)) (49 * x + 3) (-1)) gps gst grf gmy gkd glf grt gpr gun gow gem ged gse gsz gtx gtl gsp gmd gop gom gwt gwm gtn gon gsh gtr gbl gbd gwh gfl gfd gfe) 0 0 := by
    subst hG
    exact RET.id ⟨rfl, rfl⟩ (Nat.le_refl _) (Nat.le_refl _)
  clear hG
  refine wp_aw (S := fun _ => false) (by decide) 200 _ _ _ _ _ _ ?_
  simp (disch := first | exact rfl | decide | omega) only [u_101_0, u_101_1, u_101_4, u_101_6, u_101_7, u_101_8, u_101_9, u_101_10, u_101_11, u_101_14, u_101_16, u_101_17, u_101_18, u_101_19, u_101_20, u_101_21, u_101_22, u_101_23, u_101_26, u_101_28, u_101_29, u_101_30, u_101_31, u_101_32, u_101_33, u_101_34, u_101_35, u_101_38, u_101_40, u_101_41, u_101_42, u_101_43, u_101_44, u_101_45, u_101_46, wp_stop, lget, lput1, lput2, kil, hget, hset, vget, vset, fget, fgetC, fput, fputC, iget, igetC, jget, jgetC, qget, qgetC, alen, lenC, oI, oJ, oF, oA, oV, oH, oInc, oIld, oJld, oQld, oR, oLen, oIst, oBst, oJst, oQst, ciOf, rcv, oCp, cat1, cond_true, cond_false, Bool.and_self, Bool.and_true, Bool.true_and, Bool.or_true, Bool.true_or, Bool.or_false, Bool.false_or, Bool.not_false, Bool.not_true, ↓reduceIte, Nat.reduceBEq, Nat.reduceEqDiff, beq_self_eq_true, true_and, and_true, eq_self_iff_true, Nat.reduceAdd, Nat.blt, Nat.ble, z_le, z_lt, z_eq, z_cl, z_add, z_sub, z_mul, z_in, z_lt0, z_ofN, z_m1, z_ltm1, z_m1lt, z_eqm1, z_m1eq, z_m1le, z_lem1, z_beq, nI_0_1, nI_m1lt0, nI_0lem1, not_false_eq_true, not_true_eq_false, forall_const, false_implies, true_implies, implies_true, false_and, and_false, mrg, renc, tra, trv, sg, List.map_cons, List.map_nil, Option.map_some, Option.map_none, Option.toList_some, Option.toList_none, List.cons_append, List.nil_append, List.length_cons, List.length_nil, eL, mL_101, gH, gO]
  exact hret
set_option maxRecDepth 100000 in
theorem g_starts (d e : Nat) (he : e < 21) : aSp d 126 [.ref 0, .int (nI e)] (gH gal gps gst grf gmy gkd glf grt gpr gun gow gem ged gse gsz gtx gtl gsp gmd gop gom gwt gwm gtn gon gsh gtr gbl gbd gwh gfl gfd gfe) nomv 0 0 (fun r h' => r = none ∧ h' = (gH gal gps gst grf gmy gkd glf grt gpr gun gow gem ged (upd gse (256 * e) (nI 0)) (upd gsz e (nI 1)) gtx gtl gsp gmd gop gom gwt gwm gtn gon gsh gtr gbl gbd gwh gfl gfd gfe)) := by
  refine sp_of (by decide) (Nat.le_of_ble_eq_true rfl) ?_
  generalize hG : ((d, _, nomv, _, _, _) : aG) = G
  have ggd : gD G = d := by subst hG; rfl
  have ggn : gN G = 21 := by subst hG; rfl
  have ggm : gM G = nomv := by subst hG; rfl
  have ggc : gC G = 0 := by subst hG; rfl
  have ggs : gS G = 0 := by subst hG; rfl
  have hret : RET G none (gH gal gps gst grf gmy gkd glf grt gpr gun gow gem ged (upd gse (256 * e) (nI 0)) (upd gsz e (nI 1)) gtx gtl gsp gmd gop gom gwt gwm gtn gon gsh gtr gbl gbd gwh gfl gfd gfe) 0 0 := by
    subst hG
    exact RET.id ⟨rfl, rfl⟩ (Nat.le_refl _) (Nat.le_refl _)
  clear hG
  refine wp_aw (S := fun _ => false) (by decide) 200 _ _ _ _ _ _ ?_
  simp (disch := first | exact rfl | decide | omega) only [u_126_0, u_126_1, u_126_4, u_126_5, u_126_6, u_126_7, u_126_8, u_126_11, u_126_14, u_126_15, u_126_16, u_126_17, u_126_18, wp_stop, lget, lput1, lput2, kil, hget, hset, vget, vset, fget, fgetC, fput, fputC, iget, igetC, jget, jgetC, qget, qgetC, alen, lenC, oI, oJ, oF, oA, oV, oH, oInc, oIld, oJld, oQld, oR, oLen, oIst, oBst, oJst, oQst, ciOf, rcv, oCp, cat1, cond_true, cond_false, Bool.and_self, Bool.and_true, Bool.true_and, Bool.or_true, Bool.true_or, Bool.or_false, Bool.false_or, Bool.not_false, Bool.not_true, ↓reduceIte, Nat.reduceBEq, Nat.reduceEqDiff, beq_self_eq_true, true_and, and_true, eq_self_iff_true, Nat.reduceAdd, Nat.blt, Nat.ble, z_le, z_lt, z_eq, z_cl, z_add, z_sub, z_mul, z_in, z_lt0, z_ofN, z_m1, z_ltm1, z_m1lt, z_eqm1, z_m1eq, z_m1le, z_lem1, z_beq, nI_0_1, nI_m1lt0, nI_0lem1, not_false_eq_true, not_true_eq_false, forall_const, false_implies, true_implies, implies_true, false_and, and_false, mrg, renc, tra, trv, sg, List.map_cons, List.map_nil, Option.map_some, Option.map_none, Option.toList_some, Option.toList_none, List.cons_append, List.nil_append, List.length_cons, List.length_nil, eL, mL_126, gH, gO]
  exact hret
set_option maxRecDepth 100000 in
theorem g_clear (d : Nat) : aSp d 106 [.ref 0] (gH gal gps gst grf gmy gkd glf grt gpr gun gow gem ged gse gsz gtx gtl gsp gmd gop gom gwt gwm gtn gon gsh gtr gbl gbd gwh gfl gfd gfe) nomv 0 0 (fun r h' => r = some (.int gtl) ∧ h' = (gH gal gps gst grf gmy gkd glf grt gpr gun gow gem ged gse gsz gtx (nI 0) gsp gmd gop gom gwt gwm gtn gon gsh gtr gbl gbd gwh gfl gfd gfe)) := by
  refine sp_of (by decide) (Nat.le_of_ble_eq_true rfl) ?_
  generalize hG : ((d, _, nomv, _, _, _) : aG) = G
  have ggd : gD G = d := by subst hG; rfl
  have ggn : gN G = 21 := by subst hG; rfl
  have ggm : gM G = nomv := by subst hG; rfl
  have ggc : gC G = 0 := by subst hG; rfl
  have ggs : gS G = 0 := by subst hG; rfl
  have hret : RET G (some (.int gtl)) (gH gal gps gst grf gmy gkd glf grt gpr gun gow gem ged gse gsz gtx (nI 0) gsp gmd gop gom gwt gwm gtn gon gsh gtr gbl gbd gwh gfl gfd gfe) 0 0 := by
    subst hG
    exact RET.id ⟨rfl, rfl⟩ (Nat.le_refl _) (Nat.le_refl _)
  clear hG
  refine wp_aw (S := fun _ => false) (by decide) 200 _ _ _ _ _ _ ?_
  simp (disch := first | exact rfl | decide | omega) only [u_106_0, u_106_1, u_106_4, u_106_5, u_106_6, u_106_7, u_106_10, u_106_11, wp_stop, lget, lput1, lput2, kil, hget, hset, vget, vset, fget, fgetC, fput, fputC, iget, igetC, jget, jgetC, qget, qgetC, alen, lenC, oI, oJ, oF, oA, oV, oH, oInc, oIld, oJld, oQld, oR, oLen, oIst, oBst, oJst, oQst, ciOf, rcv, oCp, cat1, cond_true, cond_false, Bool.and_self, Bool.and_true, Bool.true_and, Bool.or_true, Bool.true_or, Bool.or_false, Bool.false_or, Bool.not_false, Bool.not_true, ↓reduceIte, Nat.reduceBEq, Nat.reduceEqDiff, beq_self_eq_true, true_and, and_true, eq_self_iff_true, Nat.reduceAdd, Nat.blt, Nat.ble, z_le, z_lt, z_eq, z_cl, z_add, z_sub, z_mul, z_in, z_lt0, z_ofN, z_m1, z_ltm1, z_m1lt, z_eqm1, z_m1eq, z_m1le, z_lem1, z_beq, nI_0_1, nI_m1lt0, nI_0lem1, not_false_eq_true, not_true_eq_false, forall_const, false_implies, true_implies, implies_true, false_and, and_false, mrg, renc, tra, trv, sg, List.map_cons, List.map_nil, Option.map_some, Option.map_none, Option.toList_some, Option.toList_none, List.cons_append, List.nil_append, List.length_cons, List.length_nil, eL, mL_106, gH, gO]
  exact hret
end GM
