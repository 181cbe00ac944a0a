/-! ResidualJudgeModel.isFirst, adds -/
noncomputable def frB (K lf : Nat → Nat) (j top : Nat) : Bool := @decide (frO K lf j top) (Classical.propDecidable _)
theorem frB_t {K lf : Nat → Nat} {j top : Nat} : frB K lf j top = true ↔ frO K lf j top := @decide_eq_true_iff _ (Classical.propDecidable _)
theorem frB_f {K lf : Nat → Nat} {j top : Nat} : frB K lf j top = false ↔ ¬ frO K lf j top := @decide_eq_false_iff_not _ (Classical.propDecidable _)
theorem mk_9 {k : Nat} (h2 : k ≤ 15) : mkK k = 9 ↔ k = 12 := by
  unfold mkK
  split
  · omega
  · split
    · omega
    · split
      · omega
      · split <;> omega
theorem mk_le {k : Nat} (h2 : k ≤ 15) : mkK k ≤ 14 := by
  unfold mkK
  split
  · omega
  · split
    · omega
    · split
      · omega
      · split <;> omega
section GM
variable (gal : Nat → Int32) (gps : Nat → Int32) (gst : Int32) (grf : Nat → Int32) (gmy : Int32) (gkd : Nat → Int32) (glf : Nat → Int32) (grt : Nat → Int32) (gpr : Nat → Int32) (gun : Nat → Int32) (gow : Nat → Int32) (gem : Nat → Int32) (ged : Nat → Int32) (gse : Nat → Int32) (gsz : Nat → Int32) (gtx : Nat → Int32) (gtl : Int32) (gsp : Int32) (gmd : Nat → Int32) (gop : Nat → Int32) (gom : Int32) (gwt : Nat → Int32) (gwm : Int32) (gtn : Int32) (gon : Int32) (gsh : Nat → Int32) (gtr : Nat → Int32) (gbl : Int32) (gbd : Int32) (gwh : Nat → Int32) (gfl : Int32) (gfd : Int32) (gfe : Int32)
set_option maxRecDepth 100000 in
set_option maxHeartbeats 8000000 in
theorem l_first {G : aG} (n j top : Nat) (K lf : Nat → Nat) (hw : wfP K lf n) (hN : ldN K lf n gkd glf grt gun gow gem) (hP : pPr K lf n gpr) (ht : top < n) (hpt : pst K lf top ≤ j)
    (hret : RET G (some (.int (bN (frB K lf j top)))) (gH gal gps gst grf gmy gkd glf grt gpr gun gow gem ged gse gsz gtx gtl gsp gmd gop gom gwt gwm gtn gon gsh gtr gbl gbd gwh gfl gfd gfe) 0 0) :
    ∀ (m a : Nat) (l5 : Option Value), top - a ≤ m → a ≤ top → pst K lf a ≤ j → j ≤ a →
    AW 131 G 5 [some (.ref 0), some (.int (nI j)), some (.int (nI top)), some (.int (bN (frB K lf j a))), some (.int (nI a)), l5] [] (gH gal gps gst grf gmy gkd glf grt gpr gun gow gem ged gse gsz gtx gtl gsp gmd gop gom gwt gwm gtn gon gsh gtr gbl gbd gwh gfl gfd gfe) 0 0 := by
  have h16 := hw.2.1
  have h01 : ¬ (0 : Nat) = 1 := by decide
  intro m
  induction m with
  | zero =>
    intro a l5 hm h1 h2 h3
    have e : a = top := by omega
    subst e
    refine wq_aw (S := fun x => x == 5) (by decide) (f := 200) ?_
    simp (disch := first | exact rfl | decide | omega) only [v_131_5, u_131_0, u_131_1, u_131_2, u_131_3, u_131_5, u_131_7, u_131_8, u_131_11, u_131_12, u_131_15, u_131_17, u_131_18, u_131_20, u_131_21, u_131_24, u_131_25, u_131_28, u_131_30, u_131_31, u_131_33, u_131_36, u_131_37, u_131_40, u_131_42, u_131_43, u_131_45, u_131_48, u_131_49, u_131_52, u_131_53, u_131_56, u_131_58, u_131_59, u_131_60, u_131_61, u_131_64, u_131_65, u_131_68, u_131_69, u_131_70, u_131_71, u_131_74, u_131_76, u_131_77, u_131_79, u_131_82, u_131_83, wp_stop, lget, lput1, lput2, kil, hget, hset, vget, vset, fget, fgetC, fput, fputC, iget, igetC, jget, jgetC, qget, qgetC, alen, lenC, oI, oJ, oF, oA, oV, oH, oInc, oIld, oJld, oQld, oR, oLen, oIst, oBst, oJst, oQst, ciOf, rcv, oCp, cat1, cond_true, cond_false, Bool.and_self, Bool.and_true, Bool.true_and, Bool.or_true, Bool.true_or, Bool.or_false, Bool.false_or, Bool.not_false, Bool.not_true, ↓reduceIte, Nat.reduceBEq, Nat.reduceEqDiff, beq_self_eq_true, true_and, and_true, eq_self_iff_true, Nat.reduceAdd, Nat.blt, Nat.ble, z_le, z_lt, z_eq, z_cl, z_add, z_sub, z_mul, z_in, z_lt0, z_ofN, z_m1, z_ltm1, z_m1lt, z_eqm1, z_m1eq, z_m1le, z_lem1, z_beq, nI_0_1, nI_m1lt0, nI_0lem1, not_false_eq_true, not_true_eq_false, forall_const, false_implies, true_implies, implies_true, false_and, and_false, mrg, renc, tra, trv, sg, List.map_cons, List.map_nil, Option.map_some, Option.map_none, Option.toList_some, Option.toList_none, List.cons_append, List.nil_append, List.length_cons, List.length_nil, gH, gO, bNb]
    exact hret
  | succ m ih =>
    intro a l5 hm h1 h2 h3
    by_cases e : a = top
    · subst e
      clear ih
      refine wq_aw (S := fun x => x == 5) (by decide) (f := 200) ?_
      simp (disch := first | exact rfl | decide | omega) only [v_131_5, u_131_0, u_131_1, u_131_2, u_131_3, u_131_5, u_131_7, u_131_8, u_131_11, u_131_12, u_131_15, u_131_17, u_131_18, u_131_20, u_131_21, u_131_24, u_131_25, u_131_28, u_131_30, u_131_31, u_131_33, u_131_36, u_131_37, u_131_40, u_131_42, u_131_43, u_131_45, u_131_48, u_131_49, u_131_52, u_131_53, u_131_56, u_131_58, u_131_59, u_131_60, u_131_61, u_131_64, u_131_65, u_131_68, u_131_69, u_131_70, u_131_71, u_131_74, u_131_76, u_131_77, u_131_79, u_131_82, u_131_83, wp_stop, lget, lput1, lput2, kil, hget, hset, vget, vset, fget, fgetC, fput, fputC, iget, igetC, jget, jgetC, qget, qgetC, alen, lenC, oI, oJ, oF, oA, oV, oH, oInc, oIld, oJld, oQld, oR, oLen, oIst, oBst, oJst, oQst, ciOf, rcv, oCp, cat1, cond_true, cond_false, Bool.and_self, Bool.and_true, Bool.true_and, Bool.or_true, Bool.true_or, Bool.or_false, Bool.false_or, Bool.not_false, Bool.not_true, ↓reduceIte, Nat.reduceBEq, Nat.reduceEqDiff, beq_self_eq_true, true_and, and_true, eq_self_iff_true, Nat.reduceAdd, Nat.blt, Nat.ble, z_le, z_lt, z_eq, z_cl, z_add, z_sub, z_mul, z_in, z_lt0, z_ofN, z_m1, z_ltm1, z_m1lt, z_eqm1, z_m1eq, z_m1le, z_lem1, z_beq, nI_0_1, nI_m1lt0, nI_0lem1, not_false_eq_true, not_true_eq_false, forall_const, false_implies, true_implies, implies_true, false_and, and_false, mrg, renc, tra, trv, sg, List.map_cons, List.map_nil, Option.map_some, Option.map_none, Option.toList_some, Option.toList_none, List.cons_append, List.nil_append, List.length_cons, List.length_nil, gH, gO, bNb]
      exact hret
    · have hat : pst K lf top ≤ a := by omega
      obtain ⟨u, u1, u2⟩ := ch_ex hw top ht a hat (by omega)
      have hau := ch_lt hw (show u < n by omega) u2
      have hpu := ch_pst hw (show u < n by omega) u2
      have hpr : gpr a = nI u := (hP a (by omega)).1 u (by omega) u2
      have ha16 : a < 16 := by omega
      have hu16 : u < 16 := by omega
      have hgo := fun l5 => ih u l5 (by omega) u1 (by omega) (by omega)
      clear ih hret
      obtain ⟨p1, p2, p3, p4, -, p6⟩ := hN u (by omega)
      have hk15 := (hw.2.2.1 u (by omega)).2.1
      have hml := mk_le hk15
      have hstep : frO K lf j u → frO K lf j a := fun hf v hv => hf v (by omega)
      cases hz : frB K lf j a
      · have hz2 : frB K lf j u = false := frB_f.mpr (fun w => frB_f.mp hz (hstep w))
        rw [hz2] at hgo
        have hgo2 := hgo (some (.int (nI u)))
        clear hgo
        refine wq_aw (S := fun x => x == 5) (by decide) (f := 200) ?_
        simp (disch := first | exact rfl | decide | omega) only [v_131_5, u_131_0, u_131_1, u_131_2, u_131_3, u_131_5, u_131_7, u_131_8, u_131_11, u_131_12, u_131_15, u_131_17, u_131_18, u_131_20, u_131_21, u_131_24, u_131_25, u_131_28, u_131_30, u_131_31, u_131_33, u_131_36, u_131_37, u_131_40, u_131_42, u_131_43, u_131_45, u_131_48, u_131_49, u_131_52, u_131_53, u_131_56, u_131_58, u_131_59, u_131_60, u_131_61, u_131_64, u_131_65, u_131_68, u_131_69, u_131_70, u_131_71, u_131_74, u_131_76, u_131_77, u_131_79, u_131_82, u_131_83, wp_stop, lget, lput1, lput2, kil, hget, hset, vget, vset, fget, fgetC, fput, fputC, iget, igetC, jget, jgetC, qget, qgetC, alen, lenC, oI, oJ, oF, oA, oV, oH, oInc, oIld, oJld, oQld, oR, oLen, oIst, oBst, oJst, oQst, ciOf, rcv, oCp, cat1, cond_true, cond_false, Bool.and_self, Bool.and_true, Bool.true_and, Bool.or_true, Bool.true_or, Bool.or_false, Bool.false_or, Bool.not_false, Bool.not_true, ↓reduceIte, Nat.reduceBEq, Nat.reduceEqDiff, beq_self_eq_true, true_and, and_true, eq_self_iff_true, Nat.reduceAdd, Nat.blt, Nat.ble, z_le, z_lt, z_eq, z_cl, z_add, z_sub, z_mul, z_in, z_lt0, z_ofN, z_m1, z_ltm1, z_m1lt, z_eqm1, z_m1eq, z_m1le, z_lem1, z_beq, nI_0_1, nI_m1lt0, nI_0lem1, not_false_eq_true, not_true_eq_false, forall_const, false_implies, true_implies, implies_true, false_and, and_false, mrg, renc, tra, trv, sg, List.map_cons, List.map_nil, Option.map_some, Option.map_none, Option.toList_some, Option.toList_none, List.cons_append, List.nil_append, List.length_cons, List.length_nil, gH, gO, e, hpr, bNf]
        exact hgo2
      · have hz1 := frB_t.mp hz
        by_cases k12 : K u = 12
        · have p1' : gkd u = nI 9 := by rw [p1, (mk_9 hk15).mpr k12]
          obtain ⟨b1, b2, b3⟩ := wf_lf hw (show u < n by omega) (show 10 ≤ K u by omega) (by omega)
          have ea : lfV K lf u = nI (lf u) := by unfold lfV; rw [if_neg (by omega), if_neg (by omega)]
          have eb : rtV K u = nI (u - 1) := if_pos ⟨by omega, by omega⟩
          rw [ea] at p2
          rw [eb] at p3
          have hl16 : lf u < 16 := by omega
          have x1 := (hN (lf u) (by omega)).2.2.2.2.2
          by_cases qa : u - 1 = a
          · have hfr := fr_r (K := K) (lf := lf) (i := u) (j := j) (by omega) (by omega) (by omega)
            rw [qa] at hfr
            have hlj : lf u < j := by rw [qa] at b2; omega
            cases hy : (psh K lf (lf u) == 0)
            · have hz2 : frB K lf j u = false := frB_f.mpr (fun w => by
                have := (hfr.mp w).2 k12 hlj
                rw [this] at hy
                exact absurd hy (by decide))
              rw [hy] at x1
              have x2 : gem (lf u) = nI 0 := x1
              rw [hz2] at hgo
              have hgo2 := hgo (some (.int (nI u)))
              clear hgo
              refine wq_aw (S := fun x => x == 5) (by decide) (f := 200) ?_
              simp (disch := first | exact rfl | decide | omega) only [v_131_5, u_131_0, u_131_1, u_131_2, u_131_3, u_131_5, u_131_7, u_131_8, u_131_11, u_131_12, u_131_15, u_131_17, u_131_18, u_131_20, u_131_21, u_131_24, u_131_25, u_131_28, u_131_30, u_131_31, u_131_33, u_131_36, u_131_37, u_131_40, u_131_42, u_131_43, u_131_45, u_131_48, u_131_49, u_131_52, u_131_53, u_131_56, u_131_58, u_131_59, u_131_60, u_131_61, u_131_64, u_131_65, u_131_68, u_131_69, u_131_70, u_131_71, u_131_74, u_131_76, u_131_77, u_131_79, u_131_82, u_131_83, wp_stop, lget, lput1, lput2, kil, hget, hset, vget, vset, fget, fgetC, fput, fputC, iget, igetC, jget, jgetC, qget, qgetC, alen, lenC, oI, oJ, oF, oA, oV, oH, oInc, oIld, oJld, oQld, oR, oLen, oIst, oBst, oJst, oQst, ciOf, rcv, oCp, cat1, cond_true, cond_false, Bool.and_self, Bool.and_true, Bool.true_and, Bool.or_true, Bool.true_or, Bool.or_false, Bool.false_or, Bool.not_false, Bool.not_true, ↓reduceIte, Nat.reduceBEq, Nat.reduceEqDiff, beq_self_eq_true, true_and, and_true, eq_self_iff_true, Nat.reduceAdd, Nat.blt, Nat.ble, z_le, z_lt, z_eq, z_cl, z_add, z_sub, z_mul, z_in, z_lt0, z_ofN, z_m1, z_ltm1, z_m1lt, z_eqm1, z_m1eq, z_m1le, z_lem1, z_beq, nI_0_1, nI_m1lt0, nI_0lem1, not_false_eq_true, not_true_eq_false, forall_const, false_implies, true_implies, implies_true, false_and, and_false, mrg, renc, tra, trv, sg, List.map_cons, List.map_nil, Option.map_some, Option.map_none, Option.toList_some, Option.toList_none, List.cons_append, List.nil_append, List.length_cons, List.length_nil, gH, gO, e, hpr, bNt, n10, p1', p2, p3, qa, x2, h01]
              exact hgo2
            · have hz2 : frB K lf j u = true := frB_t.mpr (hfr.mpr ⟨hz1, fun _ _ => beq_iff_eq.mp hy⟩)
              rw [hy] at x1
              have x2 : gem (lf u) = nI 1 := x1
              rw [hz2] at hgo
              have hgo2 := hgo (some (.int (nI u)))
              clear hgo
              refine wq_aw (S := fun x => x == 5) (by decide) (f := 200) ?_
              simp (disch := first | exact rfl | decide | omega) only [v_131_5, u_131_0, u_131_1, u_131_2, u_131_3, u_131_5, u_131_7, u_131_8, u_131_11, u_131_12, u_131_15, u_131_17, u_131_18, u_131_20, u_131_21, u_131_24, u_131_25, u_131_28, u_131_30, u_131_31, u_131_33, u_131_36, u_131_37, u_131_40, u_131_42, u_131_43, u_131_45, u_131_48, u_131_49, u_131_52, u_131_53, u_131_56, u_131_58, u_131_59, u_131_60, u_131_61, u_131_64, u_131_65, u_131_68, u_131_69, u_131_70, u_131_71, u_131_74, u_131_76, u_131_77, u_131_79, u_131_82, u_131_83, wp_stop, lget, lput1, lput2, kil, hget, hset, vget, vset, fget, fgetC, fput, fputC, iget, igetC, jget, jgetC, qget, qgetC, alen, lenC, oI, oJ, oF, oA, oV, oH, oInc, oIld, oJld, oQld, oR, oLen, oIst, oBst, oJst, oQst, ciOf, rcv, oCp, cat1, cond_true, cond_false, Bool.and_self, Bool.and_true, Bool.true_and, Bool.or_true, Bool.true_or, Bool.or_false, Bool.false_or, Bool.not_false, Bool.not_true, ↓reduceIte, Nat.reduceBEq, Nat.reduceEqDiff, beq_self_eq_true, true_and, and_true, eq_self_iff_true, Nat.reduceAdd, Nat.blt, Nat.ble, z_le, z_lt, z_eq, z_cl, z_add, z_sub, z_mul, z_in, z_lt0, z_ofN, z_m1, z_ltm1, z_m1lt, z_eqm1, z_m1eq, z_m1le, z_lem1, z_beq, nI_0_1, nI_m1lt0, nI_0lem1, not_false_eq_true, not_true_eq_false, forall_const, false_implies, true_implies, implies_true, false_and, and_false, mrg, renc, tra, trv, sg, List.map_cons, List.map_nil, Option.map_some, Option.map_none, Option.toList_some, Option.toList_none, List.cons_append, List.nil_append, List.length_cons, List.length_nil, gH, gO, e, hpr, bNt, n10, p1', p2, p3, qa, x2, h01]
              exact hgo2
          · have hal : lf u = a := by
              rcases u2.2 with c | c
              · omega
              · exact c.2
            have hz2 : frB K lf j u = true := frB_t.mpr ((fr_l hw (show u < n by omega) (by omega) (by omega) (by omega)).mpr (by rw [hal]; exact hz1))
            rw [hz2] at hgo
            have hgo2 := hgo (some (.int (nI u)))
            clear hgo
            refine wq_aw (S := fun x => x == 5) (by decide) (f := 200) ?_
            simp (disch := first | exact rfl | decide | omega) only [v_131_5, u_131_0, u_131_1, u_131_2, u_131_3, u_131_5, u_131_7, u_131_8, u_131_11, u_131_12, u_131_15, u_131_17, u_131_18, u_131_20, u_131_21, u_131_24, u_131_25, u_131_28, u_131_30, u_131_31, u_131_33, u_131_36, u_131_37, u_131_40, u_131_42, u_131_43, u_131_45, u_131_48, u_131_49, u_131_52, u_131_53, u_131_56, u_131_58, u_131_59, u_131_60, u_131_61, u_131_64, u_131_65, u_131_68, u_131_69, u_131_70, u_131_71, u_131_74, u_131_76, u_131_77, u_131_79, u_131_82, u_131_83, wp_stop, lget, lput1, lput2, kil, hget, hset, vget, vset, fget, fgetC, fput, fputC, iget, igetC, jget, jgetC, qget, qgetC, alen, lenC, oI, oJ, oF, oA, oV, oH, oInc, oIld, oJld, oQld, oR, oLen, oIst, oBst, oJst, oQst, ciOf, rcv, oCp, cat1, cond_true, cond_false, Bool.and_self, Bool.and_true, Bool.true_and, Bool.or_true, Bool.true_or, Bool.or_false, Bool.false_or, Bool.not_false, Bool.not_true, ↓reduceIte, Nat.reduceBEq, Nat.reduceEqDiff, beq_self_eq_true, true_and, and_true, eq_self_iff_true, Nat.reduceAdd, Nat.blt, Nat.ble, z_le, z_lt, z_eq, z_cl, z_add, z_sub, z_mul, z_in, z_lt0, z_ofN, z_m1, z_ltm1, z_m1lt, z_eqm1, z_m1eq, z_m1le, z_lem1, z_beq, nI_0_1, nI_m1lt0, nI_0lem1, not_false_eq_true, not_true_eq_false, forall_const, false_implies, true_implies, implies_true, false_and, and_false, mrg, renc, tra, trv, sg, List.map_cons, List.map_nil, Option.map_some, Option.map_none, Option.toList_some, Option.toList_none, List.cons_append, List.nil_append, List.length_cons, List.length_nil, gH, gO, e, hpr, bNt, n10, p1', p3, qa]
            exact hgo2
        · have t9 : ¬ mkK (K u) = 9 := fun w => k12 ((mk_9 hk15).mp w)
          have hz2 : frB K lf j u = true := frB_t.mpr (fun v hv q1 q2 q3 q4 => by
            by_cases evu : v = u
            · subst evu
              exact absurd q3 k12
            · rcases u2.2 with c | c
              · exact hz1 v (by omega) q1 q2 q3 q4
              · refine hz1 v ?_ q1 q2 q3 q4
                have := pth hw (show u < n by omega) u2.1 c.1 (show v < u by omega) q1 (by omega)
                omega)
          rw [hz2] at hgo
          have hgo2 := hgo (some (.int (nI u)))
          clear hgo
          generalize mkK (K u) = kk at *
          refine wq_aw (S := fun x => x == 5) (by decide) (f := 200) ?_
          simp (disch := first | exact rfl | decide | omega) only [v_131_5, u_131_0, u_131_1, u_131_2, u_131_3, u_131_5, u_131_7, u_131_8, u_131_11, u_131_12, u_131_15, u_131_17, u_131_18, u_131_20, u_131_21, u_131_24, u_131_25, u_131_28, u_131_30, u_131_31, u_131_33, u_131_36, u_131_37, u_131_40, u_131_42, u_131_43, u_131_45, u_131_48, u_131_49, u_131_52, u_131_53, u_131_56, u_131_58, u_131_59, u_131_60, u_131_61, u_131_64, u_131_65, u_131_68, u_131_69, u_131_70, u_131_71, u_131_74, u_131_76, u_131_77, u_131_79, u_131_82, u_131_83, wp_stop, lget, lput1, lput2, kil, hget, hset, vget, vset, fget, fgetC, fput, fputC, iget, igetC, jget, jgetC, qget, qgetC, alen, lenC, oI, oJ, oF, oA, oV, oH, oInc, oIld, oJld, oQld, oR, oLen, oIst, oBst, oJst, oQst, ciOf, rcv, oCp, cat1, cond_true, cond_false, Bool.and_self, Bool.and_true, Bool.true_and, Bool.or_true, Bool.true_or, Bool.or_false, Bool.false_or, Bool.not_false, Bool.not_true, ↓reduceIte, Nat.reduceBEq, Nat.reduceEqDiff, beq_self_eq_true, true_and, and_true, eq_self_iff_true, Nat.reduceAdd, Nat.blt, Nat.ble, z_le, z_lt, z_eq, z_cl, z_add, z_sub, z_mul, z_in, z_lt0, z_ofN, z_m1, z_ltm1, z_m1lt, z_eqm1, z_m1eq, z_m1le, z_lem1, z_beq, nI_0_1, nI_m1lt0, nI_0lem1, not_false_eq_true, not_true_eq_false, forall_const, false_implies, true_implies, implies_true, false_and, and_false, mrg, renc, tra, trv, sg, List.map_cons, List.map_nil, Option.map_some, Option.map_none, Option.toList_some, Option.toList_none, List.cons_append, List.nil_append, List.length_cons, List.length_nil, gH, gO, e, hpr, bNt, n10, p1, t9]
          exact hgo2
set_option maxRecDepth 100000 in
theorem g_isFirst (d n j top : Nat) (K lf : Nat → Nat) (hw : wfP K lf n) (hL : pLd K lf n gmy gkd glf grt gpr gun gow gem) (ht : top < n) (hpt : pst K lf top ≤ j) (hj : j ≤ top) (hk : K j ≤ 8) : aSp d 131 [.ref 0, .int (nI j), .int (nI top)] (gH gal gps gst grf gmy gkd glf grt gpr gun gow gem ged gse gsz gtx gtl gsp gmd gop gom gwt gwm gtn gon gsh gtr gbl gbd gwh gfl gfd gfe) nomv 0 0 (fun r h' => r = some (.int (bN (frB K lf j top))) ∧ h' = (gH gal gps gst grf gmy gkd glf grt gpr gun gow gem ged gse gsz gtx gtl gsp gmd gop gom gwt gwm gtn gon gsh gtr gbl gbd gwh gfl gfd gfe)) := by
  obtain ⟨-, hN, hP⟩ := hL
  refine sp_of (by decide) (Nat.le_of_ble_eq_true rfl) ?_
  generalize hG : ((d, _, nomv, _, _, _) : aG) = G
  have ggd : gD G = d := by subst hG; rfl
  have ggn : gN G = 21 := by subst hG; rfl
  have ggm : gM G = nomv := by subst hG; rfl
  have ggc : gC G = 0 := by subst hG; rfl
  have ggs : gS G = 0 := by subst hG; rfl
  have hret : RET G (some (.int (bN (frB K lf j top)))) (gH gal gps gst grf gmy gkd glf grt gpr gun gow gem ged gse gsz gtx gtl gsp gmd gop gom gwt gwm gtn gon gsh gtr gbl gbd gwh gfl gfd gfe) 0 0 := by
    subst hG
    exact RET.id ⟨rfl, rfl⟩ (Nat.le_refl _) (Nat.le_refl _)
  clear hG
  have hz : frB K lf j j = true := frB_t.mpr (fun u hu _ hu2 => by omega)
  have hgo := fun l5 => l_first gal gps gst grf gmy gkd glf grt gpr gun gow gem ged gse gsz gtx gtl gsp gmd gop gom gwt gwm gtn gon gsh gtr gbl gbd gwh gfl gfd gfe n j top K lf hw hN hP ht hpt hret (top - j) j l5 (Nat.le_refl _) hj (pst_le K lf j) (Nat.le_refl _)
  rw [hz] at hgo
  refine wp_aw (S := fun x => x == 5) (by decide) 200 _ _ _ _ _ _ ?_
  simp (disch := first | exact rfl | decide | omega) only [u_131_0, u_131_1, u_131_2, u_131_3, u_131_5, u_131_7, u_131_8, u_131_11, u_131_12, u_131_15, u_131_17, u_131_18, u_131_20, u_131_21, u_131_24, u_131_25, u_131_28, u_131_30, u_131_31, u_131_33, u_131_36, u_131_37, u_131_40, u_131_42, u_131_43, u_131_45, u_131_48, u_131_49, u_131_52, u_131_53, u_131_56, u_131_58, u_131_59, u_131_60, u_131_61, u_131_64, u_131_65, u_131_68, u_131_69, u_131_70, u_131_71, u_131_74, u_131_76, u_131_77, u_131_79, u_131_82, u_131_83, wp_stop, lget, lput1, lput2, kil, hget, hset, vget, vset, fget, fgetC, fput, fputC, iget, igetC, jget, jgetC, qget, qgetC, alen, lenC, oI, oJ, oF, oA, oV, oH, oInc, oIld, oJld, oQld, oR, oLen, oIst, oBst, oJst, oQst, ciOf, rcv, oCp, cat1, cond_true, cond_false, Bool.and_self, Bool.and_true, Bool.true_and, Bool.or_true, Bool.true_or, Bool.or_false, Bool.false_or, Bool.not_false, Bool.not_true, ↓reduceIte, Nat.reduceBEq, Nat.reduceEqDiff, beq_self_eq_true, true_and, and_true, eq_self_iff_true, Nat.reduceAdd, Nat.blt, Nat.ble, z_le, z_lt, z_eq, z_cl, z_add, z_sub, z_mul, z_in, z_lt0, z_ofN, z_m1, z_ltm1, z_m1lt, z_eqm1, z_m1eq, z_m1le, z_lem1, z_beq, nI_0_1, nI_m1lt0, nI_0lem1, not_false_eq_true, not_true_eq_false, forall_const, false_implies, true_implies, implies_true, false_and, and_false, mrg, renc, tra, trv, sg, List.map_cons, List.map_nil, Option.map_some, Option.map_none, Option.toList_some, Option.toList_none, List.cons_append, List.nil_append, List.length_cons, List.length_nil, eL, mL_131, gH, gO]
  exact hgo _
end GM
/-- the sets that lie at a depth -/
def rpS (gse gsz : Nat → Int32) (d : Nat) (L : List Nat) : Prop := gsz d = nI L.length ∧ L.Nodup ∧ (∀ x ∈ L, x < 256) ∧ ∀ k x, L[k]? = some x → gse (256 * d + k) = nI x
/-- nothing is changed but at a depth -/
def frE (gse gsz gse' gsz' : Nat → Int32) (d : Nat) : Prop := ∀ f, f ≠ d → gsz' f = gsz f ∧ ∀ k, k < 256 → gse' (256 * f + k) = gse (256 * f + k)
theorem frE_rf (gse gsz : Nat → Int32) (d : Nat) : frE gse gsz gse gsz d := fun _ _ => ⟨rfl, fun _ _ => rfl⟩
theorem frE_tr {a b a' b' a2 b2 : Nat → Int32} {d : Nat} (h : frE a b a' b' d) (h2 : frE a' b' a2 b2 d) : frE a b a2 b2 d := fun f hf => ⟨(h2 f hf).1.trans (h f hf).1, fun k hk => ((h2 f hf).2 k hk).trans ((h f hf).2 k hk)⟩
theorem nd_le : ∀ (N : Nat) {L : List Nat}, L.Nodup → (∀ x ∈ L, x < N) → L.length ≤ N
  | 0, [], _, _ => Nat.le_refl _
  | 0, x :: L, _, h => absurd (h x (List.mem_cons_self ..)) (Nat.not_lt_zero _)
  | N + 1, L, hn, h => by
    have h1 := nd_le N (L := L.erase N) (List.Nodup.erase N hn) (fun x hx => by
      obtain ⟨a, b⟩ := (List.Nodup.mem_erase_iff hn).mp hx
      have := h x b
      omega)
    by_cases q : N ∈ L
    · rw [List.length_erase_of_mem q] at h1
      omega
    · rw [List.erase_of_not_mem q] at h1
      omega
theorem rpS_len {gse gsz : Nat → Int32} {d : Nat} {L : List Nat} (h : rpS gse gsz d L) : L.length ≤ 256 := nd_le 256 h.2.1 h.2.2.1
theorem rpS_fr {a b a' b' : Nat → Int32} {d f : Nat} {L : List Nat} (h : rpS a b f L) (hf : frE a b a' b' d) (hne : f ≠ d) : rpS a' b' f L := by
  refine ⟨(hf f hne).1.trans h.1, h.2.1, h.2.2.1, fun k x hx => ?_⟩
  have hl := rpS_len h
  have hk := gget_lt hx
  rw [(hf f hne).2 k (by omega)]
  exact h.2.2.2 k x hx
def adX (X : Nat) (L : List Nat) : List Nat := if X ∈ L then L else L ++ [X]
theorem mem_adX {X Y : Nat} {L : List Nat} : Y ∈ adX X L ↔ Y ∈ L ∨ Y = X := by
  unfold adX
  split
  next q => exact ⟨Or.inl, fun h => h.elim id (fun e => e ▸ q)⟩
  next q => simp
section GM
variable (gal : Nat → Int32) (gps : Nat → Int32) (gst : Int32) (grf : Nat → Int32) (gmy : Int32) (gkd : Nat → Int32) (glf : Nat → Int32) (grt : Nat → Int32) (gpr : Nat → Int32) (gun : Nat → Int32) (gow : Nat → Int32) (gem : Nat → Int32) (ged : Nat → Int32) (gse : Nat → Int32) (gsz : Nat → Int32) (gtx : Nat → Int32) (gtl : Int32) (gsp : Int32) (gmd : Nat → Int32) (gop : Nat → Int32) (gom : Int32) (gwt : Nat → Int32) (gwm : Int32) (gtn : Int32) (gon : Int32) (gsh : Nat → Int32) (gtr : Nat → Int32) (gbl : Int32) (gbd : Int32) (gwh : Nat → Int32) (gfl : Int32) (gfd : Int32) (gfe : Int32)
set_option maxRecDepth 100000 in
set_option maxHeartbeats 8000000 in
theorem l_adds {G : aG} (e X : Nat) (L : List Nat) (he : e < 21) (hX : X < 256) (hR : rpS gse gsz e L)
    (hret : ∀ gse' gsz', rpS gse' gsz' e (adX X L) → frE gse gsz gse' gsz' e → RET G none (gH gal gps gst grf gmy gkd glf grt gpr gun gow gem ged gse' gsz' gtx gtl gsp gmd gop gom gwt gwm gtn gon gsh gtr gbl gbd gwh gfl gfd gfe) 0 0) :
    ∀ (m i : Nat), i + m = L.length → (∀ k x, k < i → L[k]? = some x → x ≠ X) →
    AW 132 G 2 [some (.ref 0), some (.int (nI e)), some (.int (nI X)), some (.int (nI i))] [] (gH gal gps gst grf gmy gkd glf grt gpr gun gow gem ged gse gsz gtx gtl gsp gmd gop gom gwt gwm gtn gon gsh gtr gbl gbd gwh gfl gfd gfe) 0 0 := by
  have hl := rpS_len hR
  obtain ⟨r1, r2, r3, r4⟩ := hR
  intro m
  induction m with
  | zero =>
    intro i hm hno
    have hi : i = L.length := by omega
    have hnot : X ∉ L := fun hx => by
      obtain ⟨k, hk, hk2⟩ := List.mem_iff_getElem.mp hx
      exact hno k X (by omega) (by rw [List.getElem?_eq_getElem hk, hk2]) rfl
    have hlt : L.length < 256 := by
      have := nd_le 256 (L := X :: L) (List.nodup_cons.mpr ⟨hnot, r2⟩) (fun x hx => by
        rcases List.mem_cons.mp hx with q | q
        · rw [q]; exact hX
        · exact r3 x q)
      rw [List.length_cons] at this
      omega
    have hA : adX X L = L ++ [X] := if_neg hnot
    have hf := hret (upd gse (256 * e + L.length) (nI X)) (upd gsz e (nI (L.length + 1))) (by
      rw [hA]
      refine ⟨by rw [upd_s, List.length_append]; rfl, ?_, ?_, ?_⟩
      · rw [List.nodup_append]
        refine ⟨r2, by simp, fun a ha b hb => ?_⟩
        rw [List.mem_singleton] at hb
        subst hb
        exact fun z => hnot (z ▸ ha)
      · intro x hx
        rcases List.mem_append.mp hx with q | q
        · exact r3 x q
        · rw [List.mem_singleton] at q
          rw [q]; exact hX
      · intro k x hx
        by_cases q : k = L.length
        · subst q
          rw [List.getElem?_append_right (Nat.le_refl _), Nat.sub_self] at hx
          have : X = x := Option.some.inj hx
          rw [upd_s, this]
        · have hk := gget_lt hx
          rw [List.length_append, List.length_singleton] at hk
          rw [List.getElem?_append_left (by omega)] at hx
          rw [upd_n (by omega)]
          exact r4 k x hx) (fun f hf => ⟨upd_n hf, fun k hk => upd_n (by omega)⟩)
    clear hret
    subst hi
    have t1 : L.length ≤ L.length := Nat.le_refl _
    generalize L.length = len at *
    refine wq_aw (S := fun x => x == 2) (by decide) (f := 200) ?_
    simp (disch := first | exact rfl | decide | omega) only [v_132_2, u_132_0, u_132_1, u_132_2, u_132_3, u_132_4, u_132_7, u_132_8, u_132_9, u_132_12, u_132_13, u_132_16, u_132_19, u_132_20, u_132_21, u_132_22, u_132_23, u_132_24, u_132_25, u_132_28, u_132_29, u_132_32, u_132_35, u_132_36, u_132_39, u_132_42, u_132_43, u_132_44, u_132_45, u_132_48, u_132_49, u_132_50, u_132_51, u_132_52, u_132_53, u_132_54, u_132_57, u_132_58, u_132_59, u_132_60, u_132_61, u_132_62, u_132_63, wp_stop, lget, lput1, lput2, kil, hget, hset, vget, vset, fget, fgetC, fput, fputC, iget, igetC, jget, jgetC, qget, qgetC, alen, lenC, oI, oJ, oF, oA, oV, oH, oInc, oIld, oJld, oQld, oR, oLen, oIst, oBst, oJst, oQst, ciOf, rcv, oCp, cat1, cond_true, cond_false, Bool.and_self, Bool.and_true, Bool.true_and, Bool.or_true, Bool.true_or, Bool.or_false, Bool.false_or, Bool.not_false, Bool.not_true, ↓reduceIte, Nat.reduceBEq, Nat.reduceEqDiff, beq_self_eq_true, true_and, and_true, eq_self_iff_true, Nat.reduceAdd, Nat.blt, Nat.ble, z_le, z_lt, z_eq, z_cl, z_add, z_sub, z_mul, z_in, z_lt0, z_ofN, z_m1, z_ltm1, z_m1lt, z_eqm1, z_m1eq, z_m1le, z_lem1, z_beq, nI_0_1, nI_m1lt0, nI_0lem1, not_false_eq_true, not_true_eq_false, forall_const, false_implies, true_implies, implies_true, false_and, and_false, mrg, renc, tra, trv, sg, List.map_cons, List.map_nil, Option.map_some, Option.map_none, Option.toList_some, Option.toList_none, List.cons_append, List.nil_append, List.length_cons, List.length_nil, gH, gO, r1, t1]
    exact hf
  | succ m ih =>
    intro i hm hno
    have hi : i < L.length := by omega
    have hx := List.getElem?_eq_getElem hi
    have hg := r4 i _ hx
    have hxl := r3 _ (List.getElem_mem hi)
    have t1 : ¬ L.length ≤ i := by omega
    by_cases q : L[i] = X
    · have hin : X ∈ L := q ▸ List.getElem_mem hi
      have hf := hret gse gsz (by
        rw [show adX X L = L from if_pos hin]
        exact ⟨r1, r2, r3, r4⟩) (frE_rf _ _ _)
      clear hret ih
      generalize L[i] = y at *
      generalize L.length = len at *
      refine wq_aw (S := fun x => x == 2) (by decide) (f := 200) ?_
      simp (disch := first | exact rfl | decide | omega) only [v_132_2, u_132_0, u_132_1, u_132_2, u_132_3, u_132_4, u_132_7, u_132_8, u_132_9, u_132_12, u_132_13, u_132_16, u_132_19, u_132_20, u_132_21, u_132_22, u_132_23, u_132_24, u_132_25, u_132_28, u_132_29, u_132_32, u_132_35, u_132_36, u_132_39, u_132_42, u_132_43, u_132_44, u_132_45, u_132_48, u_132_49, u_132_50, u_132_51, u_132_52, u_132_53, u_132_54, u_132_57, u_132_58, u_132_59, u_132_60, u_132_61, u_132_62, u_132_63, wp_stop, lget, lput1, lput2, kil, hget, hset, vget, vset, fget, fgetC, fput, fputC, iget, igetC, jget, jgetC, qget, qgetC, alen, lenC, oI, oJ, oF, oA, oV, oH, oInc, oIld, oJld, oQld, oR, oLen, oIst, oBst, oJst, oQst, ciOf, rcv, oCp, cat1, cond_true, cond_false, Bool.and_self, Bool.and_true, Bool.true_and, Bool.or_true, Bool.true_or, Bool.or_false, Bool.false_or, Bool.not_false, Bool.not_true, ↓reduceIte, Nat.reduceBEq, Nat.reduceEqDiff, beq_self_eq_true, true_and, and_true, eq_self_iff_true, Nat.reduceAdd, Nat.blt, Nat.ble, z_le, z_lt, z_eq, z_cl, z_add, z_sub, z_mul, z_in, z_lt0, z_ofN, z_m1, z_ltm1, z_m1lt, z_eqm1, z_m1eq, z_m1le, z_lem1, z_beq, nI_0_1, nI_m1lt0, nI_0lem1, not_false_eq_true, not_true_eq_false, forall_const, false_implies, true_implies, implies_true, false_and, and_false, mrg, renc, tra, trv, sg, List.map_cons, List.map_nil, Option.map_some, Option.map_none, Option.toList_some, Option.toList_none, List.cons_append, List.nil_append, List.length_cons, List.length_nil, gH, gO, r1, t1, hg, q]
      exact hf
    · have hgo := ih (i + 1) (by omega) (fun k x hk hkx => by
        by_cases ek : k = i
        · subst ek
          rw [hx] at hkx
          rw [← Option.some.inj hkx]
          exact q
        · exact hno k x (by omega) hkx)
      clear hret ih
      generalize L[i] = y at *
      generalize L.length = len at *
      refine wq_aw (S := fun x => x == 2) (by decide) (f := 200) ?_
      simp (disch := first | exact rfl | decide | omega) only [v_132_2, u_132_0, u_132_1, u_132_2, u_132_3, u_132_4, u_132_7, u_132_8, u_132_9, u_132_12, u_132_13, u_132_16, u_132_19, u_132_20, u_132_21, u_132_22, u_132_23, u_132_24, u_132_25, u_132_28, u_132_29, u_132_32, u_132_35, u_132_36, u_132_39, u_132_42, u_132_43, u_132_44, u_132_45, u_132_48, u_132_49, u_132_50, u_132_51, u_132_52, u_132_53, u_132_54, u_132_57, u_132_58, u_132_59, u_132_60, u_132_61, u_132_62, u_132_63, wp_stop, lget, lput1, lput2, kil, hget, hset, vget, vset, fget, fgetC, fput, fputC, iget, igetC, jget, jgetC, qget, qgetC, alen, lenC, oI, oJ, oF, oA, oV, oH, oInc, oIld, oJld, oQld, oR, oLen, oIst, oBst, oJst, oQst, ciOf, rcv, oCp, cat1, cond_true, cond_false, Bool.and_self, Bool.and_true, Bool.true_and, Bool.or_true, Bool.true_or, Bool.or_false, Bool.false_or, Bool.not_false, Bool.not_true, ↓reduceIte, Nat.reduceBEq, Nat.reduceEqDiff, beq_self_eq_true, true_and, and_true, eq_self_iff_true, Nat.reduceAdd, Nat.blt, Nat.ble, z_le, z_lt, z_eq, z_cl, z_add, z_sub, z_mul, z_in, z_lt0, z_ofN, z_m1, z_ltm1, z_m1lt, z_eqm1, z_m1eq, z_m1le, z_lem1, z_beq, nI_0_1, nI_m1lt0, nI_0lem1, not_false_eq_true, not_true_eq_false, forall_const, false_implies, true_implies, implies_true, false_and, and_false, mrg, renc, tra, trv, sg, List.map_cons, List.map_nil, Option.map_some, Option.map_none, Option.toList_some, Option.toList_none, List.cons_append, List.nil_append, List.length_cons, List.length_nil, gH, gO, r1, t1, hg, q]
      exact hgo
set_option maxRecDepth 100000 in
theorem g_adds (d e X : Nat) (L : List Nat) (he : e < 21) (hX : X < 256) (hR : rpS gse gsz e L) : aSp d 132 [.ref 0, .int (nI e), .int (nI X)] (gH gal gps gst grf gmy gkd glf grt gpr gun gow gem ged gse gsz gtx gtl gsp gmd gop gom gwt gwm gtn gon gsh gtr gbl gbd gwh gfl gfd gfe) nomv 0 0 (fun r h' => r = none ∧ ∃ gse' gsz', h' = (gH gal gps gst grf gmy gkd glf grt gpr gun gow gem ged gse' gsz' gtx gtl gsp gmd gop gom gwt gwm gtn gon gsh gtr gbl gbd gwh gfl gfd gfe) ∧ rpS gse' gsz' e (adX X L) ∧ frE gse gsz gse' gsz' e) := by
  refine sp_of (by decide) (Nat.le_of_ble_eq_true rfl) ?_
  generalize hG : ((d, _, nomv, _, _, _) : aG) = G
  have ggd : gD G = d := by subst hG; rfl
  have ggn : gN G = 21 := by subst hG; rfl
  have ggm : gM G = nomv := by subst hG; rfl
  have ggc : gC G = 0 := by subst hG; rfl
  have ggs : gS G = 0 := by subst hG; rfl
  have hret : ∀ gse' gsz', rpS gse' gsz' e (adX X L) → frE gse gsz gse' gsz' e → RET G none (gH gal gps gst grf gmy gkd glf grt gpr gun gow gem ged gse' gsz' gtx gtl gsp gmd gop gom gwt gwm gtn gon gsh gtr gbl gbd gwh gfl gfd gfe) 0 0 := by
    subst hG
    intro gse' gsz' q1 q2
    exact RET.id ⟨rfl, gse', gsz', rfl, q1, q2⟩ (Nat.le_refl _) (Nat.le_refl _)
  clear hG
  have hgo := l_adds gal gps gst grf gmy gkd glf grt gpr gun gow gem ged gse gsz gtx gtl gsp gmd gop gom gwt gwm gtn gon gsh gtr gbl gbd gwh gfl gfd gfe e X L he hX hR hret L.length 0 (by omega) (fun k x hk => absurd hk (Nat.not_lt_zero k))
  refine wp_aw (S := fun x => x == 2) (by decide) 200 _ _ _ _ _ _ ?_
  simp (disch := first | exact rfl | decide | omega) only [u_132_0, u_132_1, u_132_2, u_132_3, u_132_4, u_132_7, u_132_8, u_132_9, u_132_12, u_132_13, u_132_16, u_132_19, u_132_20, u_132_21, u_132_22, u_132_23, u_132_24, u_132_25, u_132_28, u_132_29, u_132_32, u_132_35, u_132_36, u_132_39, u_132_42, u_132_43, u_132_44, u_132_45, u_132_48, u_132_49, u_132_50, u_132_51, u_132_52, u_132_53, u_132_54, u_132_57, u_132_58, u_132_59, u_132_60, u_132_61, u_132_62, u_132_63, wp_stop, lget, lput1, lput2, kil, hget, hset, vget, vset, fget, fgetC, fput, fputC, iget, igetC, jget, jgetC, qget, qgetC, alen, lenC, oI, oJ, oF, oA, oV, oH, oInc, oIld, oJld, oQld, oR, oLen, oIst, oBst, oJst, oQst, ciOf, rcv, oCp, cat1, cond_true, cond_false, Bool.and_self, Bool.and_true, Bool.true_and, Bool.or_true, Bool.true_or, Bool.or_false, Bool.false_or, Bool.not_false, Bool.not_true, ↓reduceIte, Nat.reduceBEq, Nat.reduceEqDiff, beq_self_eq_true, true_and, and_true, eq_self_iff_true, Nat.reduceAdd, Nat.blt, Nat.ble, z_le, z_lt, z_eq, z_cl, z_add, z_sub, z_mul, z_in, z_lt0, z_ofN, z_m1, z_ltm1, z_m1lt, z_eqm1, z_m1eq, z_m1le, z_lem1, z_beq, nI_0_1, nI_m1lt0, nI_0lem1, not_false_eq_true, not_true_eq_false, forall_const, false_implies, true_implies, implies_true, false_and, and_false, mrg, renc, tra, trv, sg, List.map_cons, List.map_nil, Option.map_some, Option.map_none, Option.toList_some, Option.toList_none, List.cons_append, List.nil_append, List.length_cons, List.length_nil, eL, mL_132, gH, gO]
  exact hgo
end GM
