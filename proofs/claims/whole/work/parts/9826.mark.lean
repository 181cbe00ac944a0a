/-! ResidualJudgeModel: judge, mark, whole -/
theorem fa10 {T : List Nat} {ν : Nat → aN} {i : Nat} (h : kbW (kb0 ν) T = some i) (hl : T.length ≤ 150) : ¬ nI i = -1 := fun e => by
  have := kbW_le h
  rw [z_eqm1 (by omega)] at e
  exact e
theorem lcN_le {T : List Nat} {i j : Nat} (h : i ≤ j) : lcN (T.take i) ≤ lcN (T.take j) := by
  unfold lcN
  obtain ⟨k, rfl⟩ : ∃ k, j = i + k := ⟨j - i, by omega⟩
  rw [List.take_add, List.filter_append, List.length_append]
  omega
/-- up to where letters are counted -/
def plQ (q : aQ) (len : Nat) : Nat := match q with
  | none => len
  | some t => t.1
section GM
variable (gal : Nat → Int32) (gps : Nat → Int32) (gst : Int32) (grf : Nat → Int32) (gmy : Int32) (gkd : Nat → Int32) (glf : Nat → Int32) (grt : Nat → Int32) (gpr : Nat → Int32) (gun : Nat → Int32) (gow : Nat → Int32) (gem : Nat → Int32) (ged : Nat → Int32) (gse : Nat → Int32) (gsz : Nat → Int32) (gtx : Nat → Int32) (gtl : Int32) (gsp : Int32) (gmd : Nat → Int32) (gop : Nat → Int32) (gom : Int32) (gwt : Nat → Int32) (gwm : Int32) (gtn : Int32) (gon : Int32) (gsh : Nat → Int32) (gtr : Nat → Int32) (gbl : Int32) (gbd : Int32) (gwh : Nat → Int32) (gfl : Int32) (gfd : Int32) (gfe : Int32)
set_option maxRecDepth 100000 in
theorem g_judgeBad (d : Nat) (c : Int32) (hb : inB c 0 5 = false) : aSp (d + 2) 136 [.ref 0, .int c] (gH gal gps gst grf gmy gkd glf grt gpr gun gow gem ged gse gsz gtx gtl gsp gmd gop gom gwt gwm gtn gon gsh gtr gbl gbd gwh gfl gfd gfe) nomv 0 0 (fun r h' => r = some (.int (-2)) ∧ h' = (gH gal gps gst (rfG grf 0) gmy gkd glf grt gpr gun gow gem ged gse gsz gtx gtl gsp gmd gop gom gwt gwm gtn gon gsh gtr gbl gbd gwh gfl gfd gfe)) := by
  refine sp_of (by decide) (Nat.le_of_ble_eq_true rfl) ?_
  generalize hG : ((d + 2, _, nomv, _, _, _) : aG) = G
  have ggd : gD G = d + 2 := by subst hG; rfl
  have ggn : gN G = 21 := by subst hG; rfl
  have ggm : gM G = nomv := by subst hG; rfl
  have ggc : gC G = 0 := by subst hG; rfl
  have ggs : gS G = 0 := by subst hG; rfl
  have hret : RET G (some (.int (-2))) (gH gal gps gst (rfG grf 0) gmy gkd glf grt gpr gun gow gem ged gse gsz gtx gtl gsp gmd gop gom gwt gwm gtn gon gsh gtr gbl gbd gwh gfl gfd gfe) 0 0 := by
    subst hG
    exact RET.id ⟨rfl, rfl⟩ (Nat.le_refl _) (Nat.le_refl _)
  clear hG
  have hrf := g_refuses gal gps gst grf gmy gkd glf grt gpr gun gow gem ged gse gsz gtx gtl gsp gmd gop gom gwt gwm gtn gon gsh gtr gbl gbd gwh gfl gfd gfe 0 0 (by decide) (-2) (by decide)
  have hin := g_in 0 c 0 5 (by decide) (by decide) (gH gal gps gst grf gmy gkd glf grt gpr gun gow gem ged gse gsz gtx gtl gsp gmd gop gom gwt gwm gtn gon gsh gtr gbl gbd gwh gfl gfd gfe)
  rw [hb] at hin
  refine wp_aw (S := fun _ => false) (by decide) 200 _ _ _ _ _ _ ?_
  simp (disch := first | exact rfl | decide | omega) only [u_136_0, u_136_1, u_136_2, u_136_3, u_136_6, u_136_9, u_136_12, u_136_13, u_136_15, u_136_18, u_136_19, u_136_20, u_136_23, u_136_24, u_136_25, u_136_26, u_136_29, u_136_31, u_136_32, u_136_33, u_136_34, u_136_35, u_136_38, u_136_39, u_136_40, u_136_43, wp_stop, lget, lput1, lput2, kil, hget, hset, vget, vset, fget, fgetC, fput, fputC, iget, igetC, jget, jgetC, qget, qgetC, alen, lenC, oI, oJ, oF, oA, oV, oH, oInc, oIld, oJld, oQld, oR, oLen, oIst, oBst, oJst, oQst, ciOf, rcv, oCp, cat1, cond_true, cond_false, Bool.and_self, Bool.and_true, Bool.true_and, Bool.or_true, Bool.true_or, Bool.or_false, Bool.false_or, Bool.not_false, Bool.not_true, ↓reduceIte, Nat.reduceBEq, Nat.reduceEqDiff, beq_self_eq_true, true_and, and_true, eq_self_iff_true, Nat.reduceAdd, Nat.blt, Nat.ble, z_le, z_lt, z_eq, z_cl, z_add, z_sub, z_mul, z_in, z_lt0, z_ofN, z_m1, z_ltm1, z_m1lt, z_eqm1, z_m1eq, z_m1le, z_lem1, z_beq, nI_0_1, nI_m1lt0, nI_0lem1, not_false_eq_true, not_true_eq_false, forall_const, false_implies, true_implies, implies_true, false_and, and_false, mrg, renc, tra, trv, sg, List.map_cons, List.map_nil, Option.map_some, Option.map_none, Option.toList_some, Option.toList_none, List.cons_append, List.nil_append, List.length_cons, List.length_nil, eL, mL_136, gH, gO]
  refine CAL.dir (hin) (by rw [ggd]; omega) (by rw [ggc]; omega) (by rw [ggs]; omega) (Nat.le_of_ble_eq_true rfl) (by rw [ggn]; exact Nat.le_of_ble_eq_true rfl) rfl rfl ?_
  rintro _ _ ⟨rfl, rfl⟩
  simp (disch := first | exact rfl | decide | omega) only [u_136_0, u_136_1, u_136_2, u_136_3, u_136_6, u_136_9, u_136_12, u_136_13, u_136_15, u_136_18, u_136_19, u_136_20, u_136_23, u_136_24, u_136_25, u_136_26, u_136_29, u_136_31, u_136_32, u_136_33, u_136_34, u_136_35, u_136_38, u_136_39, u_136_40, u_136_43, wp_stop, lget, lput1, lput2, kil, hget, hset, vget, vset, fget, fgetC, fput, fputC, iget, igetC, jget, jgetC, qget, qgetC, alen, lenC, oI, oJ, oF, oA, oV, oH, oInc, oIld, oJld, oQld, oR, oLen, oIst, oBst, oJst, oQst, ciOf, rcv, oCp, cat1, cond_true, cond_false, Bool.and_self, Bool.and_true, Bool.true_and, Bool.or_true, Bool.true_or, Bool.or_false, Bool.false_or, Bool.not_false, Bool.not_true, ↓reduceIte, Nat.reduceBEq, Nat.reduceEqDiff, beq_self_eq_true, true_and, and_true, eq_self_iff_true, Nat.reduceAdd, Nat.blt, Nat.ble, z_le, z_lt, z_eq, z_cl, z_add, z_sub, z_mul, z_in, z_lt0, z_ofN, z_m1, z_ltm1, z_m1lt, z_eqm1, z_m1eq, z_m1le, z_lem1, z_beq, nI_0_1, nI_m1lt0, nI_0lem1, not_false_eq_true, not_true_eq_false, forall_const, false_implies, true_implies, implies_true, false_and, and_false, mrg, renc, tra, trv, sg, List.map_cons, List.map_nil, Option.map_some, Option.map_none, Option.toList_some, Option.toList_none, List.cons_append, List.nil_append, List.length_cons, List.length_nil, gH, gO, bNf]
  refine CAL.dir (hrf) (by rw [ggd]; omega) (by rw [ggc]; omega) (by rw [ggs]; omega) (Nat.le_of_ble_eq_true rfl) (by rw [ggn]; exact Nat.le_of_ble_eq_true rfl) rfl rfl ?_
  rintro _ _ ⟨rfl, rfl⟩
  simp (disch := first | exact rfl | decide | omega) only [u_136_0, u_136_1, u_136_2, u_136_3, u_136_6, u_136_9, u_136_12, u_136_13, u_136_15, u_136_18, u_136_19, u_136_20, u_136_23, u_136_24, u_136_25, u_136_26, u_136_29, u_136_31, u_136_32, u_136_33, u_136_34, u_136_35, u_136_38, u_136_39, u_136_40, u_136_43, wp_stop, lget, lput1, lput2, kil, hget, hset, vget, vset, fget, fgetC, fput, fputC, iget, igetC, jget, jgetC, qget, qgetC, alen, lenC, oI, oJ, oF, oA, oV, oH, oInc, oIld, oJld, oQld, oR, oLen, oIst, oBst, oJst, oQst, ciOf, rcv, oCp, cat1, cond_true, cond_false, Bool.and_self, Bool.and_true, Bool.true_and, Bool.or_true, Bool.true_or, Bool.or_false, Bool.false_or, Bool.not_false, Bool.not_true, ↓reduceIte, Nat.reduceBEq, Nat.reduceEqDiff, beq_self_eq_true, true_and, and_true, eq_self_iff_true, Nat.reduceAdd, Nat.blt, Nat.ble, z_le, z_lt, z_eq, z_cl, z_add, z_sub, z_mul, z_in, z_lt0, z_ofN, z_m1, z_ltm1, z_m1lt, z_eqm1, z_m1eq, z_m1le, z_lem1, z_beq, nI_0_1, nI_m1lt0, nI_0lem1, not_false_eq_true, not_true_eq_false, forall_const, false_implies, true_implies, implies_true, false_and, and_false, mrg, renc, tra, trv, sg, List.map_cons, List.map_nil, Option.map_some, Option.map_none, Option.toList_some, Option.toList_none, List.cons_append, List.nil_append, List.length_cons, List.length_nil, gH, gO]
  exact hret
set_option maxRecDepth 100000 in
set_option maxHeartbeats 8000000 in
theorem g_judge (d w : Nat) (hw : w < 6) (T : List Nat) (hT : txR gtx T) (hl : T.length ≤ 150) (ps : Nat → Int64) (hp : ∀ x, x < 9 → paP gal x (ps x)) (ν : Nat → aN) (hν : ∀ y, y < 9 → (ν y).1 = ps y) :
    aSp (d + 7) 136 [.ref 0, .int (nI w)] (gH gal gps gst grf gmy gkd glf grt gpr gun gow gem ged gse gsz gtx (nI T.length) gsp gmd gop gom gwt gwm gtn gon gsh gtr gbl gbd gwh gfl gfd gfe) nomv 0 0 (fun r h' => r = some (.int (jdA (kbW (kb0 ν) T) (jbA (kbE (kbF (kb0 ν) T 0).2 T.length) (kbF (kb0 ν) T 0).2.2.2.2.1 (kbF (kb0 ν) T 0).2.2.2.2.2.1 w))) ∧ gHx gal gps gst grf gtx (nI T.length) h') := by
  have hqI := (kbE_le ν T).2
  have hqok := qI_OK hqI (show T.length < 2 ^ 20 by omega)
  refine sp_of (by decide) (Nat.le_of_ble_eq_true rfl) ?_
  generalize hG : ((d + 7, _, nomv, _, _, _) : aG) = G
  have ggd : gD G = d + 7 := by subst hG; rfl
  have ggn : gN G = 21 := by subst hG; rfl
  have ggm : gM G = nomv := by subst hG; rfl
  have ggc : gC G = 0 := by subst hG; rfl
  have ggs : gS G = 0 := by subst hG; rfl
  have hret : ∀ h', gHx gal gps gst grf gtx (nI T.length) h' → RET G (some (.int (jdA (kbW (kb0 ν) T) (jbA (kbE (kbF (kb0 ν) T 0).2 T.length) (kbF (kb0 ν) T 0).2.2.2.2.1 (kbF (kb0 ν) T 0).2.2.2.2.2.1 w)))) h' 0 0 := by
    subst hG
    intro h' q
    exact RET.id ⟨rfl, q⟩ (Nat.le_refl _) (Nat.le_refl _)
  clear hG
  have hin := g_in 0 (nI w) 0 5 (by decide) (by decide) (gH gal gps gst grf gmy gkd glf grt gpr gun gow gem ged gse gsz gtx (nI T.length) gsp gmd gop gom gwt gwm gtn gon gsh gtr gbl gbd gwh gfl gfd gfe)
  rw [inB_k (show w ≤ 5 by omega) (by decide)] at hin
  have hbf := g_bookFault gal gps gst grf gmy gkd glf grt gpr gun gow gem ged gse gsz gtx gsp gmd gop gom gwt gwm gtn gon gsh gtr gbl gbd gwh gfl gfd gfe 0 T hT hl ν
  refine wp_aw (S := fun _ => false) (by decide) 200 _ _ _ _ _ _ ?_
  simp (disch := first | exact rfl | decide | omega) only [u_136_0, u_136_1, u_136_2, u_136_3, u_136_6, u_136_9, u_136_12, u_136_13, u_136_15, u_136_18, u_136_19, u_136_20, u_136_23, u_136_24, u_136_25, u_136_26, u_136_29, u_136_31, u_136_32, u_136_33, u_136_34, u_136_35, u_136_38, u_136_39, u_136_40, u_136_43, wp_stop, lget, lput1, lput2, kil, hget, hset, vget, vset, fget, fgetC, fput, fputC, iget, igetC, jget, jgetC, qget, qgetC, alen, lenC, oI, oJ, oF, oA, oV, oH, oInc, oIld, oJld, oQld, oR, oLen, oIst, oBst, oJst, oQst, ciOf, rcv, oCp, cat1, cond_true, cond_false, Bool.and_self, Bool.and_true, Bool.true_and, Bool.or_true, Bool.true_or, Bool.or_false, Bool.false_or, Bool.not_false, Bool.not_true, ↓reduceIte, Nat.reduceBEq, Nat.reduceEqDiff, beq_self_eq_true, true_and, and_true, eq_self_iff_true, Nat.reduceAdd, Nat.blt, Nat.ble, z_le, z_lt, z_eq, z_cl, z_add, z_sub, z_mul, z_in, z_lt0, z_ofN, z_m1, z_ltm1, z_m1lt, z_eqm1, z_m1eq, z_m1le, z_lem1, z_beq, nI_0_1, nI_m1lt0, nI_0lem1, not_false_eq_true, not_true_eq_false, forall_const, false_implies, true_implies, implies_true, false_and, and_false, mrg, renc, tra, trv, sg, List.map_cons, List.map_nil, Option.map_some, Option.map_none, Option.toList_some, Option.toList_none, List.cons_append, List.nil_append, List.length_cons, List.length_nil, eL, mL_136, gH, gO]
  refine CAL.dir (hin) (by rw [ggd]; omega) (by rw [ggc]; omega) (by rw [ggs]; omega) (Nat.le_of_ble_eq_true rfl) (by rw [ggn]; exact Nat.le_of_ble_eq_true rfl) rfl rfl ?_
  rintro _ _ ⟨rfl, rfl⟩
  simp (disch := first | exact rfl | decide | omega) only [u_136_0, u_136_1, u_136_2, u_136_3, u_136_6, u_136_9, u_136_12, u_136_13, u_136_15, u_136_18, u_136_19, u_136_20, u_136_23, u_136_24, u_136_25, u_136_26, u_136_29, u_136_31, u_136_32, u_136_33, u_136_34, u_136_35, u_136_38, u_136_39, u_136_40, u_136_43, wp_stop, lget, lput1, lput2, kil, hget, hset, vget, vset, fget, fgetC, fput, fputC, iget, igetC, jget, jgetC, qget, qgetC, alen, lenC, oI, oJ, oF, oA, oV, oH, oInc, oIld, oJld, oQld, oR, oLen, oIst, oBst, oJst, oQst, ciOf, rcv, oCp, cat1, cond_true, cond_false, Bool.and_self, Bool.and_true, Bool.true_and, Bool.or_true, Bool.true_or, Bool.or_false, Bool.false_or, Bool.not_false, Bool.not_true, ↓reduceIte, Nat.reduceBEq, Nat.reduceEqDiff, beq_self_eq_true, true_and, and_true, eq_self_iff_true, Nat.reduceAdd, Nat.blt, Nat.ble, z_le, z_lt, z_eq, z_cl, z_add, z_sub, z_mul, z_in, z_lt0, z_ofN, z_m1, z_ltm1, z_m1lt, z_eqm1, z_m1eq, z_m1le, z_lem1, z_beq, nI_0_1, nI_m1lt0, nI_0lem1, not_false_eq_true, not_true_eq_false, forall_const, false_implies, true_implies, implies_true, false_and, and_false, mrg, renc, tra, trv, sg, List.map_cons, List.map_nil, Option.map_some, Option.map_none, Option.toList_some, Option.toList_none, List.cons_append, List.nil_append, List.length_cons, List.length_nil, gH, gO, bNt, n10]
  refine CAL.dir hbf (by rw [ggd]; omega) (Nat.zero_le _) (Nat.zero_le _) (Nat.le_of_ble_eq_true rfl) (by rw [ggn]; exact Nat.le_of_ble_eq_true rfl) rfl rfl ?_
  rintro _ _ ⟨rfl, gsp', gbl', gbd', rfl, hq⟩
  cases hk : kbW (kb0 ν) T with
  | some i =>
    have hf := hret _ (gHx_i gal gps gst grf gmy gkd glf grt gpr gun gow gem ged gse gsz gtx (nI T.length) gsp' gmd gop gom gwt gwm gtn gon gsh gtr gbl' gbd' gwh gfl gfd gfe)
    rw [hk] at hf
    have hf2 : RET G (some (.int (-10 - nI i))) (gH gal gps gst grf gmy gkd glf grt gpr gun gow gem ged gse gsz gtx (nI T.length) gsp' gmd gop gom gwt gwm gtn gon gsh gtr gbl' gbd' gwh gfl gfd gfe) 0 0 := hf
    have t1 := fa10 hk hl
    have hfv : faV (some i) = nI i := rfl
    clear hret hf hq hbf
    rw [hfv]
    generalize nI i = v at *
    generalize T.length = len at *
    simp (disch := first | exact rfl | decide | omega) only [u_136_0, u_136_1, u_136_2, u_136_3, u_136_6, u_136_9, u_136_12, u_136_13, u_136_15, u_136_18, u_136_19, u_136_20, u_136_23, u_136_24, u_136_25, u_136_26, u_136_29, u_136_31, u_136_32, u_136_33, u_136_34, u_136_35, u_136_38, u_136_39, u_136_40, u_136_43, wp_stop, lget, lput1, lput2, kil, hget, hset, vget, vset, fget, fgetC, fput, fputC, iget, igetC, jget, jgetC, qget, qgetC, alen, lenC, oI, oJ, oF, oA, oV, oH, oInc, oIld, oJld, oQld, oR, oLen, oIst, oBst, oJst, oQst, ciOf, rcv, oCp, cat1, cond_true, cond_false, Bool.and_self, Bool.and_true, Bool.true_and, Bool.or_true, Bool.true_or, Bool.or_false, Bool.false_or, Bool.not_false, Bool.not_true, ↓reduceIte, Nat.reduceBEq, Nat.reduceEqDiff, beq_self_eq_true, true_and, and_true, eq_self_iff_true, Nat.reduceAdd, Nat.blt, Nat.ble, z_le, z_lt, z_eq, z_cl, z_add, z_sub, z_mul, z_in, z_lt0, z_ofN, z_m1, z_ltm1, z_m1lt, z_eqm1, z_m1eq, z_m1le, z_lem1, z_beq, nI_0_1, nI_m1lt0, nI_0lem1, not_false_eq_true, not_true_eq_false, forall_const, false_implies, true_implies, implies_true, false_and, and_false, mrg, renc, tra, trv, sg, List.map_cons, List.map_nil, Option.map_some, Option.map_none, Option.toList_some, Option.toList_none, List.cons_append, List.nil_append, List.length_cons, List.length_nil, gH, gO, t1]
    exact hf2
  | none =>
    obtain ⟨e1, e2⟩ := hq hk
    have hjd := g_judges gal gps gst grf gmy gkd glf grt gpr gun gow gem ged gse gsz gtx gsp' gmd gop gom gwt gwm gtn gon gsh gtr gbl' gbd' gwh gfl gfd gfe 0 T hT hl ps hp ν hν hk
    have hfv : faV none = -1 := rfl
    rw [hk] at hret
    have hret2 : ∀ h', gHx gal gps gst grf gtx (nI T.length) h' → RET G (some (.int (jbA (kbE (kbF (kb0 ν) T 0).2 T.length) (kbF (kb0 ν) T 0).2.2.2.2.1 (kbF (kb0 ν) T 0).2.2.2.2.2.1 w))) h' 0 0 := hret
    clear hret hq hbf
    rw [hfv]
    simp (disch := first | exact rfl | decide | omega) only [u_136_0, u_136_1, u_136_2, u_136_3, u_136_6, u_136_9, u_136_12, u_136_13, u_136_15, u_136_18, u_136_19, u_136_20, u_136_23, u_136_24, u_136_25, u_136_26, u_136_29, u_136_31, u_136_32, u_136_33, u_136_34, u_136_35, u_136_38, u_136_39, u_136_40, u_136_43, wp_stop, lget, lput1, lput2, kil, hget, hset, vget, vset, fget, fgetC, fput, fputC, iget, igetC, jget, jgetC, qget, qgetC, alen, lenC, oI, oJ, oF, oA, oV, oH, oInc, oIld, oJld, oQld, oR, oLen, oIst, oBst, oJst, oQst, ciOf, rcv, oCp, cat1, cond_true, cond_false, Bool.and_self, Bool.and_true, Bool.true_and, Bool.or_true, Bool.true_or, Bool.or_false, Bool.false_or, Bool.not_false, Bool.not_true, ↓reduceIte, Nat.reduceBEq, Nat.reduceEqDiff, beq_self_eq_true, true_and, and_true, eq_self_iff_true, Nat.reduceAdd, Nat.blt, Nat.ble, z_le, z_lt, z_eq, z_cl, z_add, z_sub, z_mul, z_in, z_lt0, z_ofN, z_m1, z_ltm1, z_m1lt, z_eqm1, z_m1eq, z_m1le, z_lem1, z_beq, nI_0_1, nI_m1lt0, nI_0lem1, not_false_eq_true, not_true_eq_false, forall_const, false_implies, true_implies, implies_true, false_and, and_false, mrg, renc, tra, trv, sg, List.map_cons, List.map_nil, Option.map_some, Option.map_none, Option.toList_some, Option.toList_none, List.cons_append, List.nil_append, List.length_cons, List.length_nil, gH, gO]
    refine CAL.dir hjd (by rw [ggd]; omega) (Nat.zero_le _) (Nat.zero_le _) (Nat.le_of_ble_eq_true rfl) (by rw [ggn]; exact Nat.le_of_ble_eq_true rfl) rfl rfl ?_
    rintro _ _ ⟨rfl, gmy, gkd, glf, grt, gpr, gun, gow, gem, ged, gse, gsz, gsp, gwh, gfl, gfd, gfe, rfl, h1⟩
    have hjg := g_judged gal gps gst grf gmy gkd glf grt gpr gun gow gem ged gse gsz gtx (nI T.length) gsp gmd gop gom gwt gwm gtn gon gsh gtr gbl' gbd' gwh gfl gfd gfe 0 w _ _ hw _ hqok h1 e1 e2
    have hf := hret2 _ (gHx_i gal gps gst grf gmy gkd glf grt gpr gun gow gem ged gse gsz gtx (nI T.length) gsp gmd gop gom gwt gwm gtn gon gsh gtr gbl' gbd' gwh gfl gfd gfe)
    clear hret2
    generalize jbA (kbE (kbF (kb0 ν) T 0).2 T.length) (kbF (kb0 ν) T 0).2.2.2.2.1 (kbF (kb0 ν) T 0).2.2.2.2.2.1 w = v at *
    simp (disch := first | exact rfl | decide | omega) only [u_136_0, u_136_1, u_136_2, u_136_3, u_136_6, u_136_9, u_136_12, u_136_13, u_136_15, u_136_18, u_136_19, u_136_20, u_136_23, u_136_24, u_136_25, u_136_26, u_136_29, u_136_31, u_136_32, u_136_33, u_136_34, u_136_35, u_136_38, u_136_39, u_136_40, u_136_43, wp_stop, lget, lput1, lput2, kil, hget, hset, vget, vset, fget, fgetC, fput, fputC, iget, igetC, jget, jgetC, qget, qgetC, alen, lenC, oI, oJ, oF, oA, oV, oH, oInc, oIld, oJld, oQld, oR, oLen, oIst, oBst, oJst, oQst, ciOf, rcv, oCp, cat1, cond_true, cond_false, Bool.and_self, Bool.and_true, Bool.true_and, Bool.or_true, Bool.true_or, Bool.or_false, Bool.false_or, Bool.not_false, Bool.not_true, ↓reduceIte, Nat.reduceBEq, Nat.reduceEqDiff, beq_self_eq_true, true_and, and_true, eq_self_iff_true, Nat.reduceAdd, Nat.blt, Nat.ble, z_le, z_lt, z_eq, z_cl, z_add, z_sub, z_mul, z_in, z_lt0, z_ofN, z_m1, z_ltm1, z_m1lt, z_eqm1, z_m1eq, z_m1le, z_lem1, z_beq, nI_0_1, nI_m1lt0, nI_0lem1, not_false_eq_true, not_true_eq_false, forall_const, false_implies, true_implies, implies_true, false_and, and_false, mrg, renc, tra, trv, sg, List.map_cons, List.map_nil, Option.map_some, Option.map_none, Option.toList_some, Option.toList_none, List.cons_append, List.nil_append, List.length_cons, List.length_nil, gH, gO]
    refine CAL.dir (hjg) (by rw [ggd]; omega) (by rw [ggc]; omega) (by rw [ggs]; omega) (Nat.le_of_ble_eq_true rfl) (by rw [ggn]; exact Nat.le_of_ble_eq_true rfl) rfl rfl ?_
    rintro _ _ ⟨rfl, rfl⟩
    simp (disch := first | exact rfl | decide | omega) only [u_136_0, u_136_1, u_136_2, u_136_3, u_136_6, u_136_9, u_136_12, u_136_13, u_136_15, u_136_18, u_136_19, u_136_20, u_136_23, u_136_24, u_136_25, u_136_26, u_136_29, u_136_31, u_136_32, u_136_33, u_136_34, u_136_35, u_136_38, u_136_39, u_136_40, u_136_43, wp_stop, lget, lput1, lput2, kil, hget, hset, vget, vset, fget, fgetC, fput, fputC, iget, igetC, jget, jgetC, qget, qgetC, alen, lenC, oI, oJ, oF, oA, oV, oH, oInc, oIld, oJld, oQld, oR, oLen, oIst, oBst, oJst, oQst, ciOf, rcv, oCp, cat1, cond_true, cond_false, Bool.and_self, Bool.and_true, Bool.true_and, Bool.or_true, Bool.true_or, Bool.or_false, Bool.false_or, Bool.not_false, Bool.not_true, ↓reduceIte, Nat.reduceBEq, Nat.reduceEqDiff, beq_self_eq_true, true_and, and_true, eq_self_iff_true, Nat.reduceAdd, Nat.blt, Nat.ble, z_le, z_lt, z_eq, z_cl, z_add, z_sub, z_mul, z_in, z_lt0, z_ofN, z_m1, z_ltm1, z_m1lt, z_eqm1, z_m1eq, z_m1le, z_lem1, z_beq, nI_0_1, nI_m1lt0, nI_0lem1, not_false_eq_true, not_true_eq_false, forall_const, false_implies, true_implies, implies_true, false_and, and_false, mrg, renc, tra, trv, sg, List.map_cons, List.map_nil, Option.map_some, Option.map_none, Option.toList_some, Option.toList_none, List.cons_append, List.nil_append, List.length_cons, List.length_nil, gH, gO]
    exact hf
set_option maxRecDepth 100000 in
set_option maxHeartbeats 8000000 in
theorem l_mark {G : aG} (T : List Nat) (hT : txR gtx T) (hl : T.length ≤ 150) (q : aQ) (hq : ∀ t, q = some t → t.1 ≤ T.length) (hfl : gfl = (fv q).1) (hd : 1 ≤ gD G) (ggn : gN G = 21) (b1 : Int32)
    (hnext : ∀ i, AW 143 G 104 [some (.ref 0), some (.int b1), some (.int (nI (lcN (T.take (plQ q T.length))))), some (.int i)] [] (gH gal gps gst grf gmy gkd glf grt gpr gun gow gem ged gse gsz gtx (nI T.length) gsp gmd gop gom gwt gwm gtn gon gsh gtr gbl gbd gwh gfl gfd gfe) 0 0) :
    ∀ (m i : Nat), i + m = (plQ q T.length) →
    AW 143 G 47 [some (.ref 0), some (.int b1), some (.int (nI (lcN (T.take i)))), some (.int (nI i))] [] (gH gal gps gst grf gmy gkd glf grt gpr gun gow gem ged gse gsz gtx (nI T.length) gsp gmd gop gom gwt gwm gtn gon gsh gtr gbl gbd gwh gfl gfd gfe) 0 0 := by
  intro m
  induction m with
  | zero =>
    intro i hi
    rw [Nat.add_zero] at hi
    subst hi
    have hgo := fun i => hnext i
    clear hnext
    cases q with
    | none =>
      have t1 : T.length ≤ T.length := Nat.le_refl _
      have hgo2 := hgo (nI T.length)
      clear hgo
      have ep : plQ none T.length = T.length := rfl
      rw [ep] at hgo2 ⊢
      generalize lcN (T.take T.length) = v at *
      generalize T.length = len at *
      refine wq_aw (S := fun x => x == 47 || x == 104) (by decide) (f := 200) ?_
      simp (disch := first | exact rfl | decide | omega) only [v_143_47, u_143_0, u_143_1, u_143_4, u_143_5, u_143_6, u_143_7, u_143_10, u_143_12, u_143_13, u_143_14, u_143_15, u_143_16, u_143_19, u_143_20, u_143_23, u_143_26, u_143_27, u_143_30, u_143_31, u_143_34, u_143_35, u_143_38, u_143_39, u_143_42, u_143_43, u_143_44, u_143_45, u_143_46, u_143_47, u_143_48, u_143_49, u_143_52, u_143_55, u_143_56, u_143_59, u_143_60, u_143_63, u_143_64, u_143_65, u_143_68, u_143_71, u_143_72, u_143_73, u_143_76, u_143_77, u_143_78, u_143_79, u_143_82, u_143_85, u_143_88, u_143_91, u_143_92, u_143_95, u_143_96, u_143_97, u_143_98, u_143_101, u_143_104, u_143_105, u_143_106, u_143_107, u_143_110, u_143_111, u_143_112, u_143_115, wp_stop, lget, lput1, lput2, kil, hget, hset, vget, vset, fget, fgetC, fput, fputC, iget, igetC, jget, jgetC, qget, qgetC, alen, lenC, oI, oJ, oF, oA, oV, oH, oInc, oIld, oJld, oQld, oR, oLen, oIst, oBst, oJst, oQst, ciOf, rcv, oCp, cat1, cond_true, cond_false, Bool.and_self, Bool.and_true, Bool.true_and, Bool.or_true, Bool.true_or, Bool.or_false, Bool.false_or, Bool.not_false, Bool.not_true, ↓reduceIte, Nat.reduceBEq, Nat.reduceEqDiff, beq_self_eq_true, true_and, and_true, eq_self_iff_true, Nat.reduceAdd, Nat.blt, Nat.ble, z_le, z_lt, z_eq, z_cl, z_add, z_sub, z_mul, z_in, z_lt0, z_ofN, z_m1, z_ltm1, z_m1lt, z_eqm1, z_m1eq, z_m1le, z_lem1, z_beq, nI_0_1, nI_m1lt0, nI_0lem1, not_false_eq_true, not_true_eq_false, forall_const, false_implies, true_implies, implies_true, false_and, and_false, mrg, renc, tra, trv, sg, List.map_cons, List.map_nil, Option.map_some, Option.map_none, Option.toList_some, Option.toList_none, List.cons_append, List.nil_append, List.length_cons, List.length_nil, gH, gO, t1]
      exact hgo2
    | some t =>
      have hfl2 : gfl = nI t.1 := hfl
      have htl := hq t rfl
      have hgo2 := hgo (nI t.1)
      clear hgo
      have ep : plQ (some t) T.length = t.1 := rfl
      rw [ep] at hgo2 ⊢
      generalize t.1 = pl at *
      generalize lcN (T.take pl) = v at *
      by_cases t1 : T.length ≤ pl
      · generalize T.length = len at *
        refine wq_aw (S := fun x => x == 47 || x == 104) (by decide) (f := 200) ?_
        simp (disch := first | exact rfl | decide | omega) only [v_143_47, u_143_0, u_143_1, u_143_4, u_143_5, u_143_6, u_143_7, u_143_10, u_143_12, u_143_13, u_143_14, u_143_15, u_143_16, u_143_19, u_143_20, u_143_23, u_143_26, u_143_27, u_143_30, u_143_31, u_143_34, u_143_35, u_143_38, u_143_39, u_143_42, u_143_43, u_143_44, u_143_45, u_143_46, u_143_47, u_143_48, u_143_49, u_143_52, u_143_55, u_143_56, u_143_59, u_143_60, u_143_63, u_143_64, u_143_65, u_143_68, u_143_71, u_143_72, u_143_73, u_143_76, u_143_77, u_143_78, u_143_79, u_143_82, u_143_85, u_143_88, u_143_91, u_143_92, u_143_95, u_143_96, u_143_97, u_143_98, u_143_101, u_143_104, u_143_105, u_143_106, u_143_107, u_143_110, u_143_111, u_143_112, u_143_115, wp_stop, lget, lput1, lput2, kil, hget, hset, vget, vset, fget, fgetC, fput, fputC, iget, igetC, jget, jgetC, qget, qgetC, alen, lenC, oI, oJ, oF, oA, oV, oH, oInc, oIld, oJld, oQld, oR, oLen, oIst, oBst, oJst, oQst, ciOf, rcv, oCp, cat1, cond_true, cond_false, Bool.and_self, Bool.and_true, Bool.true_and, Bool.or_true, Bool.true_or, Bool.or_false, Bool.false_or, Bool.not_false, Bool.not_true, ↓reduceIte, Nat.reduceBEq, Nat.reduceEqDiff, beq_self_eq_true, true_and, and_true, eq_self_iff_true, Nat.reduceAdd, Nat.blt, Nat.ble, z_le, z_lt, z_eq, z_cl, z_add, z_sub, z_mul, z_in, z_lt0, z_ofN, z_m1, z_ltm1, z_m1lt, z_eqm1, z_m1eq, z_m1le, z_lem1, z_beq, nI_0_1, nI_m1lt0, nI_0lem1, not_false_eq_true, not_true_eq_false, forall_const, false_implies, true_implies, implies_true, false_and, and_false, mrg, renc, tra, trv, sg, List.map_cons, List.map_nil, Option.map_some, Option.map_none, Option.toList_some, Option.toList_none, List.cons_append, List.nil_append, List.length_cons, List.length_nil, gH, gO, t1]
        exact hgo2
      · have t2 : pl ≤ pl := Nat.le_refl _
        have hpl : pl < 2 ^ 20 := by omega
        generalize T.length = len at *
        refine wq_aw (S := fun x => x == 47 || x == 104) (by decide) (f := 200) ?_
        simp (disch := first | exact rfl | decide | omega) only [v_143_47, u_143_0, u_143_1, u_143_4, u_143_5, u_143_6, u_143_7, u_143_10, u_143_12, u_143_13, u_143_14, u_143_15, u_143_16, u_143_19, u_143_20, u_143_23, u_143_26, u_143_27, u_143_30, u_143_31, u_143_34, u_143_35, u_143_38, u_143_39, u_143_42, u_143_43, u_143_44, u_143_45, u_143_46, u_143_47, u_143_48, u_143_49, u_143_52, u_143_55, u_143_56, u_143_59, u_143_60, u_143_63, u_143_64, u_143_65, u_143_68, u_143_71, u_143_72, u_143_73, u_143_76, u_143_77, u_143_78, u_143_79, u_143_82, u_143_85, u_143_88, u_143_91, u_143_92, u_143_95, u_143_96, u_143_97, u_143_98, u_143_101, u_143_104, u_143_105, u_143_106, u_143_107, u_143_110, u_143_111, u_143_112, u_143_115, wp_stop, lget, lput1, lput2, kil, hget, hset, vget, vset, fget, fgetC, fput, fputC, iget, igetC, jget, jgetC, qget, qgetC, alen, lenC, oI, oJ, oF, oA, oV, oH, oInc, oIld, oJld, oQld, oR, oLen, oIst, oBst, oJst, oQst, ciOf, rcv, oCp, cat1, cond_true, cond_false, Bool.and_self, Bool.and_true, Bool.true_and, Bool.or_true, Bool.true_or, Bool.or_false, Bool.false_or, Bool.not_false, Bool.not_true, ↓reduceIte, Nat.reduceBEq, Nat.reduceEqDiff, beq_self_eq_true, true_and, and_true, eq_self_iff_true, Nat.reduceAdd, Nat.blt, Nat.ble, z_le, z_lt, z_eq, z_cl, z_add, z_sub, z_mul, z_in, z_lt0, z_ofN, z_m1, z_ltm1, z_m1lt, z_eqm1, z_m1eq, z_m1le, z_lem1, z_beq, nI_0_1, nI_m1lt0, nI_0lem1, not_false_eq_true, not_true_eq_false, forall_const, false_implies, true_implies, implies_true, false_and, and_false, mrg, renc, tra, trv, sg, List.map_cons, List.map_nil, Option.map_some, Option.map_none, Option.toList_some, Option.toList_none, List.cons_append, List.nil_append, List.length_cons, List.length_nil, gH, gO, t1, hfl2, t2]
        rw [hfl2] at hgo2
        exact hgo2
  | succ m ih =>
    intro i hi
    have hgo := ih (i + 1) (by omega)
    clear ih hnext
    have hiT : i < T.length := by
      cases q with
      | none => have ep : plQ none T.length = T.length := rfl; omega
      | some t => have ep : plQ (some t) T.length = t.1 := rfl; have := hq t rfl; omega
    have hc := List.getElem?_eq_getElem hiT
    obtain ⟨x1, x2⟩ := hT i _ hc
    rw [lcN_s hc] at hgo
    generalize T[i] = c at *
    have hin := g_in 0 (nI c) 97 104 (by decide) (by decide) (gH gal gps gst grf gmy gkd glf grt gpr gun gow gem ged gse gsz gtx (nI T.length) gsp gmd gop gom gwt gwm gtn gon gsh gtr gbl gbd gwh gfl gfd gfe)
    rw [inB_n (by omega) (by decide) (by decide)] at hin
    have t1 : ¬ T.length ≤ i := by omega
    have hpre : AW 143 G 71 [some (.ref 0), some (.int b1), some (.int (nI (lcN (T.take i)))), some (.int (nI i))] [] (gH gal gps gst grf gmy gkd glf grt gpr gun gow gem ged gse gsz gtx (nI T.length) gsp gmd gop gom gwt gwm gtn gon gsh gtr gbl gbd gwh gfl gfd gfe) 0 0 := by
      generalize lcN (T.take i) = v at *
      clear hc hi
      cases hz : (Nat.ble 97 c && Nat.ble c 104)
      · rw [hz] at hin hgo
        have hgo2 : AW 143 G 47 [some (.ref 0), some (.int b1), some (.int (nI v)), some (.int (nI (i + 1)))] [] (gH gal gps gst grf gmy gkd glf grt gpr gun gow gem ged gse gsz gtx (nI T.length) gsp gmd gop gom gwt gwm gtn gon gsh gtr gbl gbd gwh gfl gfd gfe) 0 0 := hgo
        clear hgo
        generalize T.length = len at *
        refine wp_aw (S := fun x => x == 47) (by decide) 200 _ _ _ _ _ _ ?_
        simp (disch := first | exact rfl | decide | omega) only [u_143_0, u_143_1, u_143_4, u_143_5, u_143_6, u_143_7, u_143_10, u_143_12, u_143_13, u_143_14, u_143_15, u_143_16, u_143_19, u_143_20, u_143_23, u_143_26, u_143_27, u_143_30, u_143_31, u_143_34, u_143_35, u_143_38, u_143_39, u_143_42, u_143_43, u_143_44, u_143_45, u_143_46, u_143_47, u_143_48, u_143_49, u_143_52, u_143_55, u_143_56, u_143_59, u_143_60, u_143_63, u_143_64, u_143_65, u_143_68, u_143_71, u_143_72, u_143_73, u_143_76, u_143_77, u_143_78, u_143_79, u_143_82, u_143_85, u_143_88, u_143_91, u_143_92, u_143_95, u_143_96, u_143_97, u_143_98, u_143_101, u_143_104, u_143_105, u_143_106, u_143_107, u_143_110, u_143_111, u_143_112, u_143_115, wp_stop, lget, lput1, lput2, kil, hget, hset, vget, vset, fget, fgetC, fput, fputC, iget, igetC, jget, jgetC, qget, qgetC, alen, lenC, oI, oJ, oF, oA, oV, oH, oInc, oIld, oJld, oQld, oR, oLen, oIst, oBst, oJst, oQst, ciOf, rcv, oCp, cat1, cond_true, cond_false, Bool.and_self, Bool.and_true, Bool.true_and, Bool.or_true, Bool.true_or, Bool.or_false, Bool.false_or, Bool.not_false, Bool.not_true, ↓reduceIte, Nat.reduceBEq, Nat.reduceEqDiff, beq_self_eq_true, true_and, and_true, eq_self_iff_true, Nat.reduceAdd, Nat.blt, Nat.ble, z_le, z_lt, z_eq, z_cl, z_add, z_sub, z_mul, z_in, z_lt0, z_ofN, z_m1, z_ltm1, z_m1lt, z_eqm1, z_m1eq, z_m1le, z_lem1, z_beq, nI_0_1, nI_m1lt0, nI_0lem1, not_false_eq_true, not_true_eq_false, forall_const, false_implies, true_implies, implies_true, false_and, and_false, mrg, renc, tra, trv, sg, List.map_cons, List.map_nil, Option.map_some, Option.map_none, Option.toList_some, Option.toList_none, List.cons_append, List.nil_append, List.length_cons, List.length_nil, gH, gO, x1]
        refine CAL.dir hin (by omega) (Nat.zero_le _) (Nat.zero_le _) (Nat.le_of_ble_eq_true rfl) (by rw [ggn]; exact Nat.le_of_ble_eq_true rfl) rfl rfl ?_
        rintro _ _ ⟨rfl, rfl⟩
        simp (disch := first | exact rfl | decide | omega) only [u_143_0, u_143_1, u_143_4, u_143_5, u_143_6, u_143_7, u_143_10, u_143_12, u_143_13, u_143_14, u_143_15, u_143_16, u_143_19, u_143_20, u_143_23, u_143_26, u_143_27, u_143_30, u_143_31, u_143_34, u_143_35, u_143_38, u_143_39, u_143_42, u_143_43, u_143_44, u_143_45, u_143_46, u_143_47, u_143_48, u_143_49, u_143_52, u_143_55, u_143_56, u_143_59, u_143_60, u_143_63, u_143_64, u_143_65, u_143_68, u_143_71, u_143_72, u_143_73, u_143_76, u_143_77, u_143_78, u_143_79, u_143_82, u_143_85, u_143_88, u_143_91, u_143_92, u_143_95, u_143_96, u_143_97, u_143_98, u_143_101, u_143_104, u_143_105, u_143_106, u_143_107, u_143_110, u_143_111, u_143_112, u_143_115, wp_stop, lget, lput1, lput2, kil, hget, hset, vget, vset, fget, fgetC, fput, fputC, iget, igetC, jget, jgetC, qget, qgetC, alen, lenC, oI, oJ, oF, oA, oV, oH, oInc, oIld, oJld, oQld, oR, oLen, oIst, oBst, oJst, oQst, ciOf, rcv, oCp, cat1, cond_true, cond_false, Bool.and_self, Bool.and_true, Bool.true_and, Bool.or_true, Bool.true_or, Bool.or_false, Bool.false_or, Bool.not_false, Bool.not_true, ↓reduceIte, Nat.reduceBEq, Nat.reduceEqDiff, beq_self_eq_true, true_and, and_true, eq_self_iff_true, Nat.reduceAdd, Nat.blt, Nat.ble, z_le, z_lt, z_eq, z_cl, z_add, z_sub, z_mul, z_in, z_lt0, z_ofN, z_m1, z_ltm1, z_m1lt, z_eqm1, z_m1eq, z_m1le, z_lem1, z_beq, nI_0_1, nI_m1lt0, nI_0lem1, not_false_eq_true, not_true_eq_false, forall_const, false_implies, true_implies, implies_true, false_and, and_false, mrg, renc, tra, trv, sg, List.map_cons, List.map_nil, Option.map_some, Option.map_none, Option.toList_some, Option.toList_none, List.cons_append, List.nil_append, List.length_cons, List.length_nil, gH, gO, bNf, Nat.add_zero]
        exact hgo2
      · rw [hz] at hin hgo
        have hgo2 : AW 143 G 47 [some (.ref 0), some (.int b1), some (.int (nI (v + 1))), some (.int (nI (i + 1)))] [] (gH gal gps gst grf gmy gkd glf grt gpr gun gow gem ged gse gsz gtx (nI T.length) gsp gmd gop gom gwt gwm gtn gon gsh gtr gbl gbd gwh gfl gfd gfe) 0 0 := hgo
        clear hgo
        generalize T.length = len at *
        refine wp_aw (S := fun x => x == 47) (by decide) 200 _ _ _ _ _ _ ?_
        simp (disch := first | exact rfl | decide | omega) only [u_143_0, u_143_1, u_143_4, u_143_5, u_143_6, u_143_7, u_143_10, u_143_12, u_143_13, u_143_14, u_143_15, u_143_16, u_143_19, u_143_20, u_143_23, u_143_26, u_143_27, u_143_30, u_143_31, u_143_34, u_143_35, u_143_38, u_143_39, u_143_42, u_143_43, u_143_44, u_143_45, u_143_46, u_143_47, u_143_48, u_143_49, u_143_52, u_143_55, u_143_56, u_143_59, u_143_60, u_143_63, u_143_64, u_143_65, u_143_68, u_143_71, u_143_72, u_143_73, u_143_76, u_143_77, u_143_78, u_143_79, u_143_82, u_143_85, u_143_88, u_143_91, u_143_92, u_143_95, u_143_96, u_143_97, u_143_98, u_143_101, u_143_104, u_143_105, u_143_106, u_143_107, u_143_110, u_143_111, u_143_112, u_143_115, wp_stop, lget, lput1, lput2, kil, hget, hset, vget, vset, fget, fgetC, fput, fputC, iget, igetC, jget, jgetC, qget, qgetC, alen, lenC, oI, oJ, oF, oA, oV, oH, oInc, oIld, oJld, oQld, oR, oLen, oIst, oBst, oJst, oQst, ciOf, rcv, oCp, cat1, cond_true, cond_false, Bool.and_self, Bool.and_true, Bool.true_and, Bool.or_true, Bool.true_or, Bool.or_false, Bool.false_or, Bool.not_false, Bool.not_true, ↓reduceIte, Nat.reduceBEq, Nat.reduceEqDiff, beq_self_eq_true, true_and, and_true, eq_self_iff_true, Nat.reduceAdd, Nat.blt, Nat.ble, z_le, z_lt, z_eq, z_cl, z_add, z_sub, z_mul, z_in, z_lt0, z_ofN, z_m1, z_ltm1, z_m1lt, z_eqm1, z_m1eq, z_m1le, z_lem1, z_beq, nI_0_1, nI_m1lt0, nI_0lem1, not_false_eq_true, not_true_eq_false, forall_const, false_implies, true_implies, implies_true, false_and, and_false, mrg, renc, tra, trv, sg, List.map_cons, List.map_nil, Option.map_some, Option.map_none, Option.toList_some, Option.toList_none, List.cons_append, List.nil_append, List.length_cons, List.length_nil, gH, gO, x1]
        refine CAL.dir hin (by omega) (Nat.zero_le _) (Nat.zero_le _) (Nat.le_of_ble_eq_true rfl) (by rw [ggn]; exact Nat.le_of_ble_eq_true rfl) rfl rfl ?_
        rintro _ _ ⟨rfl, rfl⟩
        simp (disch := first | exact rfl | decide | omega) only [u_143_0, u_143_1, u_143_4, u_143_5, u_143_6, u_143_7, u_143_10, u_143_12, u_143_13, u_143_14, u_143_15, u_143_16, u_143_19, u_143_20, u_143_23, u_143_26, u_143_27, u_143_30, u_143_31, u_143_34, u_143_35, u_143_38, u_143_39, u_143_42, u_143_43, u_143_44, u_143_45, u_143_46, u_143_47, u_143_48, u_143_49, u_143_52, u_143_55, u_143_56, u_143_59, u_143_60, u_143_63, u_143_64, u_143_65, u_143_68, u_143_71, u_143_72, u_143_73, u_143_76, u_143_77, u_143_78, u_143_79, u_143_82, u_143_85, u_143_88, u_143_91, u_143_92, u_143_95, u_143_96, u_143_97, u_143_98, u_143_101, u_143_104, u_143_105, u_143_106, u_143_107, u_143_110, u_143_111, u_143_112, u_143_115, wp_stop, lget, lput1, lput2, kil, hget, hset, vget, vset, fget, fgetC, fput, fputC, iget, igetC, jget, jgetC, qget, qgetC, alen, lenC, oI, oJ, oF, oA, oV, oH, oInc, oIld, oJld, oQld, oR, oLen, oIst, oBst, oJst, oQst, ciOf, rcv, oCp, cat1, cond_true, cond_false, Bool.and_self, Bool.and_true, Bool.true_and, Bool.or_true, Bool.true_or, Bool.or_false, Bool.false_or, Bool.not_false, Bool.not_true, ↓reduceIte, Nat.reduceBEq, Nat.reduceEqDiff, beq_self_eq_true, true_and, and_true, eq_self_iff_true, Nat.reduceAdd, Nat.blt, Nat.ble, z_le, z_lt, z_eq, z_cl, z_add, z_sub, z_mul, z_in, z_lt0, z_ofN, z_m1, z_ltm1, z_m1lt, z_eqm1, z_m1eq, z_m1le, z_lem1, z_beq, nI_0_1, nI_m1lt0, nI_0lem1, not_false_eq_true, not_true_eq_false, forall_const, false_implies, true_implies, implies_true, false_and, and_false, mrg, renc, tra, trv, sg, List.map_cons, List.map_nil, Option.map_some, Option.map_none, Option.toList_some, Option.toList_none, List.cons_append, List.nil_append, List.length_cons, List.length_nil, gH, gO, bNt, n10]
        exact hgo2
    clear hgo hin
    cases q with
    | none =>
      have hfl2 : gfl = -1 := hfl
      generalize lcN (T.take i) = v at *
      clear hc hi
      generalize T.length = len at *
      refine wq_aw (S := fun x => x == 47 || x == 71) (by decide) (f := 200) ?_
      simp (disch := first | exact rfl | decide | omega) only [v_143_47, u_143_0, u_143_1, u_143_4, u_143_5, u_143_6, u_143_7, u_143_10, u_143_12, u_143_13, u_143_14, u_143_15, u_143_16, u_143_19, u_143_20, u_143_23, u_143_26, u_143_27, u_143_30, u_143_31, u_143_34, u_143_35, u_143_38, u_143_39, u_143_42, u_143_43, u_143_44, u_143_45, u_143_46, u_143_47, u_143_48, u_143_49, u_143_52, u_143_55, u_143_56, u_143_59, u_143_60, u_143_63, u_143_64, u_143_65, u_143_68, u_143_71, u_143_72, u_143_73, u_143_76, u_143_77, u_143_78, u_143_79, u_143_82, u_143_85, u_143_88, u_143_91, u_143_92, u_143_95, u_143_96, u_143_97, u_143_98, u_143_101, u_143_104, u_143_105, u_143_106, u_143_107, u_143_110, u_143_111, u_143_112, u_143_115, wp_stop, lget, lput1, lput2, kil, hget, hset, vget, vset, fget, fgetC, fput, fputC, iget, igetC, jget, jgetC, qget, qgetC, alen, lenC, oI, oJ, oF, oA, oV, oH, oInc, oIld, oJld, oQld, oR, oLen, oIst, oBst, oJst, oQst, ciOf, rcv, oCp, cat1, cond_true, cond_false, Bool.and_self, Bool.and_true, Bool.true_and, Bool.or_true, Bool.true_or, Bool.or_false, Bool.false_or, Bool.not_false, Bool.not_true, ↓reduceIte, Nat.reduceBEq, Nat.reduceEqDiff, beq_self_eq_true, true_and, and_true, eq_self_iff_true, Nat.reduceAdd, Nat.blt, Nat.ble, z_le, z_lt, z_eq, z_cl, z_add, z_sub, z_mul, z_in, z_lt0, z_ofN, z_m1, z_ltm1, z_m1lt, z_eqm1, z_m1eq, z_m1le, z_lem1, z_beq, nI_0_1, nI_m1lt0, nI_0lem1, not_false_eq_true, not_true_eq_false, forall_const, false_implies, true_implies, implies_true, false_and, and_false, mrg, renc, tra, trv, sg, List.map_cons, List.map_nil, Option.map_some, Option.map_none, Option.toList_some, Option.toList_none, List.cons_append, List.nil_append, List.length_cons, List.length_nil, gH, gO, t1, hfl2]
      rw [hfl2] at hpre
      exact hpre
    | some t =>
      have hfl2 : gfl = nI t.1 := hfl
      have htl := hq t rfl
      have ep : plQ (some t) T.length = t.1 := rfl
      have t2 : ¬ t.1 ≤ i := by omega
      have hpl : t.1 < 2 ^ 20 := by omega
      generalize lcN (T.take i) = v at *
      generalize t.1 = pl at *
      clear hc
      generalize T.length = len at *
      refine wq_aw (S := fun x => x == 47 || x == 71) (by decide) (f := 200) ?_
      simp (disch := first | exact rfl | decide | omega) only [v_143_47, u_143_0, u_143_1, u_143_4, u_143_5, u_143_6, u_143_7, u_143_10, u_143_12, u_143_13, u_143_14, u_143_15, u_143_16, u_143_19, u_143_20, u_143_23, u_143_26, u_143_27, u_143_30, u_143_31, u_143_34, u_143_35, u_143_38, u_143_39, u_143_42, u_143_43, u_143_44, u_143_45, u_143_46, u_143_47, u_143_48, u_143_49, u_143_52, u_143_55, u_143_56, u_143_59, u_143_60, u_143_63, u_143_64, u_143_65, u_143_68, u_143_71, u_143_72, u_143_73, u_143_76, u_143_77, u_143_78, u_143_79, u_143_82, u_143_85, u_143_88, u_143_91, u_143_92, u_143_95, u_143_96, u_143_97, u_143_98, u_143_101, u_143_104, u_143_105, u_143_106, u_143_107, u_143_110, u_143_111, u_143_112, u_143_115, wp_stop, lget, lput1, lput2, kil, hget, hset, vget, vset, fget, fgetC, fput, fputC, iget, igetC, jget, jgetC, qget, qgetC, alen, lenC, oI, oJ, oF, oA, oV, oH, oInc, oIld, oJld, oQld, oR, oLen, oIst, oBst, oJst, oQst, ciOf, rcv, oCp, cat1, cond_true, cond_false, Bool.and_self, Bool.and_true, Bool.true_and, Bool.or_true, Bool.true_or, Bool.or_false, Bool.false_or, Bool.not_false, Bool.not_true, ↓reduceIte, Nat.reduceBEq, Nat.reduceEqDiff, beq_self_eq_true, true_and, and_true, eq_self_iff_true, Nat.reduceAdd, Nat.blt, Nat.ble, z_le, z_lt, z_eq, z_cl, z_add, z_sub, z_mul, z_in, z_lt0, z_ofN, z_m1, z_ltm1, z_m1lt, z_eqm1, z_m1eq, z_m1le, z_lem1, z_beq, nI_0_1, nI_m1lt0, nI_0lem1, not_false_eq_true, not_true_eq_false, forall_const, false_implies, true_implies, implies_true, false_and, and_false, mrg, renc, tra, trv, sg, List.map_cons, List.map_nil, Option.map_some, Option.map_none, Option.toList_some, Option.toList_none, List.cons_append, List.nil_append, List.length_cons, List.length_nil, gH, gO, t1, hfl2, t2]
      rw [hfl2] at hpre
      exact hpre
set_option maxRecDepth 100000 in
set_option maxHeartbeats 8000000 in
theorem g_mark (d : Nat) (T : List Nat) (hT : txR gtx T) (hl : T.length ≤ 150) (ps : Nat → Int64) (hp : ∀ x, x < 9 → paP gal x (ps x)) (ν : Nat → aN) (hν : ∀ y, y < 9 → (ν y).1 = ps y) :
    aSp (d + 7) 143 [.ref 0] (gH gal gps gst grf gmy gkd glf grt gpr gun gow gem ged gse gsz gtx (nI T.length) gsp gmd gop gom gwt gwm gtn gon gsh gtr gbl gbd gwh gfl gfd gfe) nomv 0 0 (fun r h' => r = some (.int (jdA (kbW (kb0 ν) T) (nI (shF (kbE (kbF (kb0 ν) T 0).2 T.length) (kbF (kb0 ν) T 0).2.2.2.2.1).toNat))) ∧ gHx gal gps gst grf gtx (nI T.length) h') := by
  obtain ⟨hle, hqI⟩ := kbE_le ν T
  have hshR := shF_R (q := kbE (kbF (kb0 ν) T 0).2 T.length) (by omega) hqI
  have hshn := shR_n hshR
  refine sp_of (by decide) (Nat.le_of_ble_eq_true rfl) ?_
  generalize hG : ((d + 7, _, nomv, _, _, _) : aG) = G
  have ggd : gD G = d + 7 := by subst hG; rfl
  have ggn : gN G = 21 := by subst hG; rfl
  have ggm : gM G = nomv := by subst hG; rfl
  have ggc : gC G = 0 := by subst hG; rfl
  have ggs : gS G = 0 := by subst hG; rfl
  have hret : ∀ h', gHx gal gps gst grf gtx (nI T.length) h' → RET G (some (.int (jdA (kbW (kb0 ν) T) (nI (shF (kbE (kbF (kb0 ν) T 0).2 T.length) (kbF (kb0 ν) T 0).2.2.2.2.1).toNat)))) h' 0 0 := by
    subst hG
    intro h' q
    exact RET.id ⟨rfl, q⟩ (Nat.le_refl _) (Nat.le_refl _)
  clear hG
  have hbf := g_bookFault gal gps gst grf gmy gkd glf grt gpr gun gow gem ged gse gsz gtx gsp gmd gop gom gwt gwm gtn gon gsh gtr gbl gbd gwh gfl gfd gfe 0 T hT hl ν
  refine wp_aw (S := fun x => x == 47 || x == 104) (by decide) 200 _ _ _ _ _ _ ?_
  simp (disch := first | exact rfl | decide | omega) only [u_143_0, u_143_1, u_143_4, u_143_5, u_143_6, u_143_7, u_143_10, u_143_12, u_143_13, u_143_14, u_143_15, u_143_16, u_143_19, u_143_20, u_143_23, u_143_26, u_143_27, u_143_30, u_143_31, u_143_34, u_143_35, u_143_38, u_143_39, u_143_42, u_143_43, u_143_44, u_143_45, u_143_46, u_143_47, u_143_48, u_143_49, u_143_52, u_143_55, u_143_56, u_143_59, u_143_60, u_143_63, u_143_64, u_143_65, u_143_68, u_143_71, u_143_72, u_143_73, u_143_76, u_143_77, u_143_78, u_143_79, u_143_82, u_143_85, u_143_88, u_143_91, u_143_92, u_143_95, u_143_96, u_143_97, u_143_98, u_143_101, u_143_104, u_143_105, u_143_106, u_143_107, u_143_110, u_143_111, u_143_112, u_143_115, wp_stop, lget, lput1, lput2, kil, hget, hset, vget, vset, fget, fgetC, fput, fputC, iget, igetC, jget, jgetC, qget, qgetC, alen, lenC, oI, oJ, oF, oA, oV, oH, oInc, oIld, oJld, oQld, oR, oLen, oIst, oBst, oJst, oQst, ciOf, rcv, oCp, cat1, cond_true, cond_false, Bool.and_self, Bool.and_true, Bool.true_and, Bool.or_true, Bool.true_or, Bool.or_false, Bool.false_or, Bool.not_false, Bool.not_true, ↓reduceIte, Nat.reduceBEq, Nat.reduceEqDiff, beq_self_eq_true, true_and, and_true, eq_self_iff_true, Nat.reduceAdd, Nat.blt, Nat.ble, z_le, z_lt, z_eq, z_cl, z_add, z_sub, z_mul, z_in, z_lt0, z_ofN, z_m1, z_ltm1, z_m1lt, z_eqm1, z_m1eq, z_m1le, z_lem1, z_beq, nI_0_1, nI_m1lt0, nI_0lem1, not_false_eq_true, not_true_eq_false, forall_const, false_implies, true_implies, implies_true, false_and, and_false, mrg, renc, tra, trv, sg, List.map_cons, List.map_nil, Option.map_some, Option.map_none, Option.toList_some, Option.toList_none, List.cons_append, List.nil_append, List.length_cons, List.length_nil, eL, mL_143, gH, gO]
  refine CAL.dir hbf (by rw [ggd]; omega) (Nat.zero_le _) (Nat.zero_le _) (Nat.le_of_ble_eq_true rfl) (by rw [ggn]; exact Nat.le_of_ble_eq_true rfl) rfl rfl ?_
  rintro _ _ ⟨rfl, gsp', gbl', gbd', rfl, hq⟩
  cases hk : kbW (kb0 ν) T with
  | some i =>
    have hf := hret _ (gHx_i gal gps gst grf gmy gkd glf grt gpr gun gow gem ged gse gsz gtx (nI T.length) gsp' gmd gop gom gwt gwm gtn gon gsh gtr gbl' gbd' gwh gfl gfd gfe)
    rw [hk] at hf
    have hf2 : RET G (some (.int (-10 - nI i))) (gH gal gps gst grf gmy gkd glf grt gpr gun gow gem ged gse gsz gtx (nI T.length) gsp' gmd gop gom gwt gwm gtn gon gsh gtr gbl' gbd' gwh gfl gfd gfe) 0 0 := hf
    have t1 := fa10 hk hl
    have hfv : faV (some i) = nI i := rfl
    clear hret hf hq hbf
    rw [hfv]
    generalize nI i = v at *
    generalize T.length = len at *
    simp (disch := first | exact rfl | decide | omega) only [u_143_0, u_143_1, u_143_4, u_143_5, u_143_6, u_143_7, u_143_10, u_143_12, u_143_13, u_143_14, u_143_15, u_143_16, u_143_19, u_143_20, u_143_23, u_143_26, u_143_27, u_143_30, u_143_31, u_143_34, u_143_35, u_143_38, u_143_39, u_143_42, u_143_43, u_143_44, u_143_45, u_143_46, u_143_47, u_143_48, u_143_49, u_143_52, u_143_55, u_143_56, u_143_59, u_143_60, u_143_63, u_143_64, u_143_65, u_143_68, u_143_71, u_143_72, u_143_73, u_143_76, u_143_77, u_143_78, u_143_79, u_143_82, u_143_85, u_143_88, u_143_91, u_143_92, u_143_95, u_143_96, u_143_97, u_143_98, u_143_101, u_143_104, u_143_105, u_143_106, u_143_107, u_143_110, u_143_111, u_143_112, u_143_115, wp_stop, lget, lput1, lput2, kil, hget, hset, vget, vset, fget, fgetC, fput, fputC, iget, igetC, jget, jgetC, qget, qgetC, alen, lenC, oI, oJ, oF, oA, oV, oH, oInc, oIld, oJld, oQld, oR, oLen, oIst, oBst, oJst, oQst, ciOf, rcv, oCp, cat1, cond_true, cond_false, Bool.and_self, Bool.and_true, Bool.true_and, Bool.or_true, Bool.true_or, Bool.or_false, Bool.false_or, Bool.not_false, Bool.not_true, ↓reduceIte, Nat.reduceBEq, Nat.reduceEqDiff, beq_self_eq_true, true_and, and_true, eq_self_iff_true, Nat.reduceAdd, Nat.blt, Nat.ble, z_le, z_lt, z_eq, z_cl, z_add, z_sub, z_mul, z_in, z_lt0, z_ofN, z_m1, z_ltm1, z_m1lt, z_eqm1, z_m1eq, z_m1le, z_lem1, z_beq, nI_0_1, nI_m1lt0, nI_0lem1, not_false_eq_true, not_true_eq_false, forall_const, false_implies, true_implies, implies_true, false_and, and_false, mrg, renc, tra, trv, sg, List.map_cons, List.map_nil, Option.map_some, Option.map_none, Option.toList_some, Option.toList_none, List.cons_append, List.nil_append, List.length_cons, List.length_nil, gH, gO, t1]
    exact hf2
  | none =>
    obtain ⟨e1, e2⟩ := hq hk
    have hjd := g_judges gal gps gst grf gmy gkd glf grt gpr gun gow gem ged gse gsz gtx gsp' gmd gop gom gwt gwm gtn gon gsh gtr gbl' gbd' gwh gfl gfd gfe 0 T hT hl ps hp ν hν hk
    have hfv : faV none = -1 := rfl
    rw [hk] at hret
    have hret2 : ∀ h', gHx gal gps gst grf gtx (nI T.length) h' → RET G (some (.int (nI (shF (kbE (kbF (kb0 ν) T 0).2 T.length) (kbF (kb0 ν) T 0).2.2.2.2.1).toNat))) h' 0 0 := hret
    obtain ⟨w1, w2⟩ := kbW_n hk
    obtain ⟨lq, ll⟩ := kbF_lc (T := T) T 0 (κ := kb0 ν) rfl (Nat.zero_le _) (Nat.le_refl _) (show 1 ≤ 9 by decide) (fun t ht => by have : (none : aQ) = some t := ht; simp at this) rfl w1
    have lqE := kbE_lc (pl := T.length) lq (by rw [List.take_length]; exact ll)
    have hpl : ∀ t, kbE (kbF (kb0 ν) T 0).2 T.length = some t → t.1 ≤ T.length := fun t ht => (hqI t ht).1
    clear hret hq hbf
    rw [hfv]
    simp (disch := first | exact rfl | decide | omega) only [u_143_0, u_143_1, u_143_4, u_143_5, u_143_6, u_143_7, u_143_10, u_143_12, u_143_13, u_143_14, u_143_15, u_143_16, u_143_19, u_143_20, u_143_23, u_143_26, u_143_27, u_143_30, u_143_31, u_143_34, u_143_35, u_143_38, u_143_39, u_143_42, u_143_43, u_143_44, u_143_45, u_143_46, u_143_47, u_143_48, u_143_49, u_143_52, u_143_55, u_143_56, u_143_59, u_143_60, u_143_63, u_143_64, u_143_65, u_143_68, u_143_71, u_143_72, u_143_73, u_143_76, u_143_77, u_143_78, u_143_79, u_143_82, u_143_85, u_143_88, u_143_91, u_143_92, u_143_95, u_143_96, u_143_97, u_143_98, u_143_101, u_143_104, u_143_105, u_143_106, u_143_107, u_143_110, u_143_111, u_143_112, u_143_115, wp_stop, lget, lput1, lput2, kil, hget, hset, vget, vset, fget, fgetC, fput, fputC, iget, igetC, jget, jgetC, qget, qgetC, alen, lenC, oI, oJ, oF, oA, oV, oH, oInc, oIld, oJld, oQld, oR, oLen, oIst, oBst, oJst, oQst, ciOf, rcv, oCp, cat1, cond_true, cond_false, Bool.and_self, Bool.and_true, Bool.true_and, Bool.or_true, Bool.true_or, Bool.or_false, Bool.false_or, Bool.not_false, Bool.not_true, ↓reduceIte, Nat.reduceBEq, Nat.reduceEqDiff, beq_self_eq_true, true_and, and_true, eq_self_iff_true, Nat.reduceAdd, Nat.blt, Nat.ble, z_le, z_lt, z_eq, z_cl, z_add, z_sub, z_mul, z_in, z_lt0, z_ofN, z_m1, z_ltm1, z_m1lt, z_eqm1, z_m1eq, z_m1le, z_lem1, z_beq, nI_0_1, nI_m1lt0, nI_0lem1, not_false_eq_true, not_true_eq_false, forall_const, false_implies, true_implies, implies_true, false_and, and_false, mrg, renc, tra, trv, sg, List.map_cons, List.map_nil, Option.map_some, Option.map_none, Option.toList_some, Option.toList_none, List.cons_append, List.nil_append, List.length_cons, List.length_nil, gH, gO]
    refine CAL.dir hjd (by rw [ggd]; omega) (Nat.zero_le _) (Nat.zero_le _) (Nat.le_of_ble_eq_true rfl) (by rw [ggn]; exact Nat.le_of_ble_eq_true rfl) rfl rfl ?_
    rintro _ _ ⟨rfl, gmy, gkd, glf, grt, gpr, gun, gow, gem, ged, gse, gsz, gsp, gwh, gfl, gfd, gfe, rfl, h1⟩
    have hf := hret2 _ (gHx_i gal gps gst grf gmy gkd glf grt gpr gun gow gem ged gse gsz gtx (nI T.length) gsp gmd gop gom gwt gwm gtn gon gsh gtr gbl' gbd' gwh gfl gfd gfe)
    have hfb := fun (h : aH) => g_fbits 0 (shF (kbE (kbF (kb0 ν) T 0).2 T.length) (kbF (kb0 ν) T 0).2.2.2.2.1) hshR h
    clear hret2 hjd
    generalize hqe : kbE (kbF (kb0 ν) T 0).2 T.length = q at *
    generalize hle2 : (kbF (kb0 ν) T 0).2.2.2.2.1 = le at *
    have hfl1 := h1.1
    by_cases z : le = 0
    · subst z
      cases q with
      | none =>
        have e : shF none 0 = FP.fconst1 := rfl
        rw [e] at hfb hf
        have hfl2 : gfl = -1 := hfl1
        clear hqI lqE hpl
        rw [hfl2] at hf
        generalize T.length = len at *
        simp (disch := first | exact rfl | decide | omega) only [u_143_0, u_143_1, u_143_4, u_143_5, u_143_6, u_143_7, u_143_10, u_143_12, u_143_13, u_143_14, u_143_15, u_143_16, u_143_19, u_143_20, u_143_23, u_143_26, u_143_27, u_143_30, u_143_31, u_143_34, u_143_35, u_143_38, u_143_39, u_143_42, u_143_43, u_143_44, u_143_45, u_143_46, u_143_47, u_143_48, u_143_49, u_143_52, u_143_55, u_143_56, u_143_59, u_143_60, u_143_63, u_143_64, u_143_65, u_143_68, u_143_71, u_143_72, u_143_73, u_143_76, u_143_77, u_143_78, u_143_79, u_143_82, u_143_85, u_143_88, u_143_91, u_143_92, u_143_95, u_143_96, u_143_97, u_143_98, u_143_101, u_143_104, u_143_105, u_143_106, u_143_107, u_143_110, u_143_111, u_143_112, u_143_115, wp_stop, lget, lput1, lput2, kil, hget, hset, vget, vset, fget, fgetC, fput, fputC, iget, igetC, jget, jgetC, qget, qgetC, alen, lenC, oI, oJ, oF, oA, oV, oH, oInc, oIld, oJld, oQld, oR, oLen, oIst, oBst, oJst, oQst, ciOf, rcv, oCp, cat1, cond_true, cond_false, Bool.and_self, Bool.and_true, Bool.true_and, Bool.or_true, Bool.true_or, Bool.or_false, Bool.false_or, Bool.not_false, Bool.not_true, ↓reduceIte, Nat.reduceBEq, Nat.reduceEqDiff, beq_self_eq_true, true_and, and_true, eq_self_iff_true, Nat.reduceAdd, Nat.blt, Nat.ble, z_le, z_lt, z_eq, z_cl, z_add, z_sub, z_mul, z_in, z_lt0, z_ofN, z_m1, z_ltm1, z_m1lt, z_eqm1, z_m1eq, z_m1le, z_lem1, z_beq, nI_0_1, nI_m1lt0, nI_0lem1, not_false_eq_true, not_true_eq_false, forall_const, false_implies, true_implies, implies_true, false_and, and_false, mrg, renc, tra, trv, sg, List.map_cons, List.map_nil, Option.map_some, Option.map_none, Option.toList_some, Option.toList_none, List.cons_append, List.nil_append, List.length_cons, List.length_nil, gH, gO, e1, hfl2]
        rw [e1] at hf
        refine CAL.dir (hfb _) (by rw [ggd]; omega) (Nat.zero_le _) (Nat.zero_le _) (Nat.le_of_ble_eq_true rfl) (by rw [ggn]; exact Nat.le_of_ble_eq_true rfl) rfl rfl ?_
        rintro _ _ ⟨rfl, rfl⟩
        generalize nI (FP.fconst1).toNat = v at *
        simp (disch := first | exact rfl | decide | omega) only [u_143_0, u_143_1, u_143_4, u_143_5, u_143_6, u_143_7, u_143_10, u_143_12, u_143_13, u_143_14, u_143_15, u_143_16, u_143_19, u_143_20, u_143_23, u_143_26, u_143_27, u_143_30, u_143_31, u_143_34, u_143_35, u_143_38, u_143_39, u_143_42, u_143_43, u_143_44, u_143_45, u_143_46, u_143_47, u_143_48, u_143_49, u_143_52, u_143_55, u_143_56, u_143_59, u_143_60, u_143_63, u_143_64, u_143_65, u_143_68, u_143_71, u_143_72, u_143_73, u_143_76, u_143_77, u_143_78, u_143_79, u_143_82, u_143_85, u_143_88, u_143_91, u_143_92, u_143_95, u_143_96, u_143_97, u_143_98, u_143_101, u_143_104, u_143_105, u_143_106, u_143_107, u_143_110, u_143_111, u_143_112, u_143_115, wp_stop, lget, lput1, lput2, kil, hget, hset, vget, vset, fget, fgetC, fput, fputC, iget, igetC, jget, jgetC, qget, qgetC, alen, lenC, oI, oJ, oF, oA, oV, oH, oInc, oIld, oJld, oQld, oR, oLen, oIst, oBst, oJst, oQst, ciOf, rcv, oCp, cat1, cond_true, cond_false, Bool.and_self, Bool.and_true, Bool.true_and, Bool.or_true, Bool.true_or, Bool.or_false, Bool.false_or, Bool.not_false, Bool.not_true, ↓reduceIte, Nat.reduceBEq, Nat.reduceEqDiff, beq_self_eq_true, true_and, and_true, eq_self_iff_true, Nat.reduceAdd, Nat.blt, Nat.ble, z_le, z_lt, z_eq, z_cl, z_add, z_sub, z_mul, z_in, z_lt0, z_ofN, z_m1, z_ltm1, z_m1lt, z_eqm1, z_m1eq, z_m1le, z_lem1, z_beq, nI_0_1, nI_m1lt0, nI_0lem1, not_false_eq_true, not_true_eq_false, forall_const, false_implies, true_implies, implies_true, false_and, and_false, mrg, renc, tra, trv, sg, List.map_cons, List.map_nil, Option.map_some, Option.map_none, Option.toList_some, Option.toList_none, List.cons_append, List.nil_append, List.length_cons, List.length_nil, gH, gO]
        exact hf
      | some t =>
        have e : shF (some t) 0 = FP.fconst0 := rfl
        rw [e] at hfb hf
        have hfl2 : gfl = nI t.1 := hfl1
        have htl := hpl t rfl
        have t1 : ¬ nI t.1 = -1 := fun w => by
          rw [z_eqm1 (by omega)] at w
          exact w
        clear hqI lqE hpl
        rw [hfl2] at hf
        generalize nI t.1 = tv at *
        generalize T.length = len at *
        simp (disch := first | exact rfl | decide | omega) only [u_143_0, u_143_1, u_143_4, u_143_5, u_143_6, u_143_7, u_143_10, u_143_12, u_143_13, u_143_14, u_143_15, u_143_16, u_143_19, u_143_20, u_143_23, u_143_26, u_143_27, u_143_30, u_143_31, u_143_34, u_143_35, u_143_38, u_143_39, u_143_42, u_143_43, u_143_44, u_143_45, u_143_46, u_143_47, u_143_48, u_143_49, u_143_52, u_143_55, u_143_56, u_143_59, u_143_60, u_143_63, u_143_64, u_143_65, u_143_68, u_143_71, u_143_72, u_143_73, u_143_76, u_143_77, u_143_78, u_143_79, u_143_82, u_143_85, u_143_88, u_143_91, u_143_92, u_143_95, u_143_96, u_143_97, u_143_98, u_143_101, u_143_104, u_143_105, u_143_106, u_143_107, u_143_110, u_143_111, u_143_112, u_143_115, wp_stop, lget, lput1, lput2, kil, hget, hset, vget, vset, fget, fgetC, fput, fputC, iget, igetC, jget, jgetC, qget, qgetC, alen, lenC, oI, oJ, oF, oA, oV, oH, oInc, oIld, oJld, oQld, oR, oLen, oIst, oBst, oJst, oQst, ciOf, rcv, oCp, cat1, cond_true, cond_false, Bool.and_self, Bool.and_true, Bool.true_and, Bool.or_true, Bool.true_or, Bool.or_false, Bool.false_or, Bool.not_false, Bool.not_true, ↓reduceIte, Nat.reduceBEq, Nat.reduceEqDiff, beq_self_eq_true, true_and, and_true, eq_self_iff_true, Nat.reduceAdd, Nat.blt, Nat.ble, z_le, z_lt, z_eq, z_cl, z_add, z_sub, z_mul, z_in, z_lt0, z_ofN, z_m1, z_ltm1, z_m1lt, z_eqm1, z_m1eq, z_m1le, z_lem1, z_beq, nI_0_1, nI_m1lt0, nI_0lem1, not_false_eq_true, not_true_eq_false, forall_const, false_implies, true_implies, implies_true, false_and, and_false, mrg, renc, tra, trv, sg, List.map_cons, List.map_nil, Option.map_some, Option.map_none, Option.toList_some, Option.toList_none, List.cons_append, List.nil_append, List.length_cons, List.length_nil, gH, gO, e1, hfl2, t1]
        rw [e1] at hf
        refine CAL.dir (hfb _) (by rw [ggd]; omega) (Nat.zero_le _) (Nat.zero_le _) (Nat.le_of_ble_eq_true rfl) (by rw [ggn]; exact Nat.le_of_ble_eq_true rfl) rfl rfl ?_
        rintro _ _ ⟨rfl, rfl⟩
        generalize nI (FP.fconst0).toNat = v at *
        simp (disch := first | exact rfl | decide | omega) only [u_143_0, u_143_1, u_143_4, u_143_5, u_143_6, u_143_7, u_143_10, u_143_12, u_143_13, u_143_14, u_143_15, u_143_16, u_143_19, u_143_20, u_143_23, u_143_26, u_143_27, u_143_30, u_143_31, u_143_34, u_143_35, u_143_38, u_143_39, u_143_42, u_143_43, u_143_44, u_143_45, u_143_46, u_143_47, u_143_48, u_143_49, u_143_52, u_143_55, u_143_56, u_143_59, u_143_60, u_143_63, u_143_64, u_143_65, u_143_68, u_143_71, u_143_72, u_143_73, u_143_76, u_143_77, u_143_78, u_143_79, u_143_82, u_143_85, u_143_88, u_143_91, u_143_92, u_143_95, u_143_96, u_143_97, u_143_98, u_143_101, u_143_104, u_143_105, u_143_106, u_143_107, u_143_110, u_143_111, u_143_112, u_143_115, wp_stop, lget, lput1, lput2, kil, hget, hset, vget, vset, fget, fgetC, fput, fputC, iget, igetC, jget, jgetC, qget, qgetC, alen, lenC, oI, oJ, oF, oA, oV, oH, oInc, oIld, oJld, oQld, oR, oLen, oIst, oBst, oJst, oQst, ciOf, rcv, oCp, cat1, cond_true, cond_false, Bool.and_self, Bool.and_true, Bool.true_and, Bool.or_true, Bool.true_or, Bool.or_false, Bool.false_or, Bool.not_false, Bool.not_true, ↓reduceIte, Nat.reduceBEq, Nat.reduceEqDiff, beq_self_eq_true, true_and, and_true, eq_self_iff_true, Nat.reduceAdd, Nat.blt, Nat.ble, z_le, z_lt, z_eq, z_cl, z_add, z_sub, z_mul, z_in, z_lt0, z_ofN, z_m1, z_ltm1, z_m1lt, z_eqm1, z_m1eq, z_m1le, z_lem1, z_beq, nI_0_1, nI_m1lt0, nI_0lem1, not_false_eq_true, not_true_eq_false, forall_const, false_implies, true_implies, implies_true, false_and, and_false, mrg, renc, tra, trv, sg, List.map_cons, List.map_nil, Option.map_some, Option.map_none, Option.toList_some, Option.toList_none, List.cons_append, List.nil_append, List.length_cons, List.length_nil, gH, gO]
        exact hf
    · have hle150 : le ≤ 150 := by omega
      have hah : shF q le = FP.fdiv (FP.i2f (nI (lcN (T.take (plQ q T.length))))) (FP.i2f (nI le)) := by
        unfold shF
        rw [if_neg z]
        cases q with
        | none =>
          dsimp only [plQ]
          rw [List.take_length]
          have : le = lcN T := ll
          rw [← this]
        | some t =>
          dsimp only [plQ]
          rw [← lqE t rfl]
      rw [hah] at hfb hshn hf
      have hgo := l_mark gal gps gst grf gmy gkd glf grt gpr gun gow gem ged gse gsz gtx gsp gmd gop gom gwt gwm gtn gon gsh gtr gbl' gbd' gwh gfl gfd gfe (G := G) T hT hl q hpl hfl1 (by rw [ggd]; omega) ggn (-1) ?_ (plQ q T.length) 0 (Nat.zero_add _)
      · have e0 : lcN (T.take 0) = 0 := rfl
        rw [e0] at hgo
        clear hqI lqE hpl hf hfb
        generalize T.length = len at *
        simp (disch := first | exact rfl | decide | omega) only [u_143_0, u_143_1, u_143_4, u_143_5, u_143_6, u_143_7, u_143_10, u_143_12, u_143_13, u_143_14, u_143_15, u_143_16, u_143_19, u_143_20, u_143_23, u_143_26, u_143_27, u_143_30, u_143_31, u_143_34, u_143_35, u_143_38, u_143_39, u_143_42, u_143_43, u_143_44, u_143_45, u_143_46, u_143_47, u_143_48, u_143_49, u_143_52, u_143_55, u_143_56, u_143_59, u_143_60, u_143_63, u_143_64, u_143_65, u_143_68, u_143_71, u_143_72, u_143_73, u_143_76, u_143_77, u_143_78, u_143_79, u_143_82, u_143_85, u_143_88, u_143_91, u_143_92, u_143_95, u_143_96, u_143_97, u_143_98, u_143_101, u_143_104, u_143_105, u_143_106, u_143_107, u_143_110, u_143_111, u_143_112, u_143_115, wp_stop, lget, lput1, lput2, kil, hget, hset, vget, vset, fget, fgetC, fput, fputC, iget, igetC, jget, jgetC, qget, qgetC, alen, lenC, oI, oJ, oF, oA, oV, oH, oInc, oIld, oJld, oQld, oR, oLen, oIst, oBst, oJst, oQst, ciOf, rcv, oCp, cat1, cond_true, cond_false, Bool.and_self, Bool.and_true, Bool.true_and, Bool.or_true, Bool.true_or, Bool.or_false, Bool.false_or, Bool.not_false, Bool.not_true, ↓reduceIte, Nat.reduceBEq, Nat.reduceEqDiff, beq_self_eq_true, true_and, and_true, eq_self_iff_true, Nat.reduceAdd, Nat.blt, Nat.ble, z_le, z_lt, z_eq, z_cl, z_add, z_sub, z_mul, z_in, z_lt0, z_ofN, z_m1, z_ltm1, z_m1lt, z_eqm1, z_m1eq, z_m1le, z_lem1, z_beq, nI_0_1, nI_m1lt0, nI_0lem1, not_false_eq_true, not_true_eq_false, forall_const, false_implies, true_implies, implies_true, false_and, and_false, mrg, renc, tra, trv, sg, List.map_cons, List.map_nil, Option.map_some, Option.map_none, Option.toList_some, Option.toList_none, List.cons_append, List.nil_append, List.length_cons, List.length_nil, gH, gO, e1, z]
        rw [e1] at hgo
        exact hgo
      · intro i
        clear hqI lqE hpl ll lq hah
        generalize lcN (T.take (plQ q T.length)) = ah at *
        generalize T.length = len at *
        refine wp_aw (S := fun x => x == 47) (by decide) 200 _ _ _ _ _ _ ?_
        simp (disch := first | exact rfl | decide | omega) only [u_143_0, u_143_1, u_143_4, u_143_5, u_143_6, u_143_7, u_143_10, u_143_12, u_143_13, u_143_14, u_143_15, u_143_16, u_143_19, u_143_20, u_143_23, u_143_26, u_143_27, u_143_30, u_143_31, u_143_34, u_143_35, u_143_38, u_143_39, u_143_42, u_143_43, u_143_44, u_143_45, u_143_46, u_143_47, u_143_48, u_143_49, u_143_52, u_143_55, u_143_56, u_143_59, u_143_60, u_143_63, u_143_64, u_143_65, u_143_68, u_143_71, u_143_72, u_143_73, u_143_76, u_143_77, u_143_78, u_143_79, u_143_82, u_143_85, u_143_88, u_143_91, u_143_92, u_143_95, u_143_96, u_143_97, u_143_98, u_143_101, u_143_104, u_143_105, u_143_106, u_143_107, u_143_110, u_143_111, u_143_112, u_143_115, wp_stop, lget, lput1, lput2, kil, hget, hset, vget, vset, fget, fgetC, fput, fputC, iget, igetC, jget, jgetC, qget, qgetC, alen, lenC, oI, oJ, oF, oA, oV, oH, oInc, oIld, oJld, oQld, oR, oLen, oIst, oBst, oJst, oQst, ciOf, rcv, oCp, cat1, cond_true, cond_false, Bool.and_self, Bool.and_true, Bool.true_and, Bool.or_true, Bool.true_or, Bool.or_false, Bool.false_or, Bool.not_false, Bool.not_true, ↓reduceIte, Nat.reduceBEq, Nat.reduceEqDiff, beq_self_eq_true, true_and, and_true, eq_self_iff_true, Nat.reduceAdd, Nat.blt, Nat.ble, z_le, z_lt, z_eq, z_cl, z_add, z_sub, z_mul, z_in, z_lt0, z_ofN, z_m1, z_ltm1, z_m1lt, z_eqm1, z_m1eq, z_m1le, z_lem1, z_beq, nI_0_1, nI_m1lt0, nI_0lem1, not_false_eq_true, not_true_eq_false, forall_const, false_implies, true_implies, implies_true, false_and, and_false, mrg, renc, tra, trv, sg, List.map_cons, List.map_nil, Option.map_some, Option.map_none, Option.toList_some, Option.toList_none, List.cons_append, List.nil_append, List.length_cons, List.length_nil, gH, gO, e1, hshn]
        rw [e1] at hf
        refine CAL.dir (hfb _) (by rw [ggd]; omega) (Nat.zero_le _) (Nat.zero_le _) (Nat.le_of_ble_eq_true rfl) (by rw [ggn]; exact Nat.le_of_ble_eq_true rfl) rfl rfl ?_
        rintro _ _ ⟨rfl, rfl⟩
        generalize (FP.fdiv (FP.i2f (nI ah)) (FP.i2f (nI le))).toNat = v at *
        simp (disch := first | exact rfl | decide | omega) only [u_143_0, u_143_1, u_143_4, u_143_5, u_143_6, u_143_7, u_143_10, u_143_12, u_143_13, u_143_14, u_143_15, u_143_16, u_143_19, u_143_20, u_143_23, u_143_26, u_143_27, u_143_30, u_143_31, u_143_34, u_143_35, u_143_38, u_143_39, u_143_42, u_143_43, u_143_44, u_143_45, u_143_46, u_143_47, u_143_48, u_143_49, u_143_52, u_143_55, u_143_56, u_143_59, u_143_60, u_143_63, u_143_64, u_143_65, u_143_68, u_143_71, u_143_72, u_143_73, u_143_76, u_143_77, u_143_78, u_143_79, u_143_82, u_143_85, u_143_88, u_143_91, u_143_92, u_143_95, u_143_96, u_143_97, u_143_98, u_143_101, u_143_104, u_143_105, u_143_106, u_143_107, u_143_110, u_143_111, u_143_112, u_143_115, wp_stop, lget, lput1, lput2, kil, hget, hset, vget, vset, fget, fgetC, fput, fputC, iget, igetC, jget, jgetC, qget, qgetC, alen, lenC, oI, oJ, oF, oA, oV, oH, oInc, oIld, oJld, oQld, oR, oLen, oIst, oBst, oJst, oQst, ciOf, rcv, oCp, cat1, cond_true, cond_false, Bool.and_self, Bool.and_true, Bool.true_and, Bool.or_true, Bool.true_or, Bool.or_false, Bool.false_or, Bool.not_false, Bool.not_true, ↓reduceIte, Nat.reduceBEq, Nat.reduceEqDiff, beq_self_eq_true, true_and, and_true, eq_self_iff_true, Nat.reduceAdd, Nat.blt, Nat.ble, z_le, z_lt, z_eq, z_cl, z_add, z_sub, z_mul, z_in, z_lt0, z_ofN, z_m1, z_ltm1, z_m1lt, z_eqm1, z_m1eq, z_m1le, z_lem1, z_beq, nI_0_1, nI_m1lt0, nI_0lem1, not_false_eq_true, not_true_eq_false, forall_const, false_implies, true_implies, implies_true, false_and, and_false, mrg, renc, tra, trv, sg, List.map_cons, List.map_nil, Option.map_some, Option.map_none, Option.toList_some, Option.toList_none, List.cons_append, List.nil_append, List.length_cons, List.length_nil, gH, gO]
        exact hf
end GM
