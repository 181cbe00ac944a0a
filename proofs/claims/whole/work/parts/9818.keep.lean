/-! ResidualJudgeModel: keep, back; type, told, clears, of, rows, now -/
/-- how many states there are behind one more -/
def c1N (c : Nat) : Nat := if c = 4 then 4 else c + 1
/-- the states behind one more: g the newest -/
def kpR (gps gps' g : Nat → Int32) (c : Nat) : Prop := (∀ k, k < 464 → gps' (464 * (c1N c - 1) + k) = g k) ∧ ∀ i, i + 1 < c1N c → ∀ k, k < 464 → gps' (464 * i + k) = gps (464 * (i + (if c = 4 then 1 else 0)) + k)
section GM
variable (gal : Nat → Int32) (gps : Nat → Int32) (gst : Int32) (grf : Nat → Int32) (gmy : Int32) (gkd : Nat → Int32) (glf : Nat → Int32) (grt : Nat → Int32) (gpr : Nat → Int32) (gun : Nat → Int32) (gow : Nat → Int32) (gem : Nat → Int32) (ged : Nat → Int32) (gse : Nat → Int32) (gsz : Nat → Int32) (gtx : Nat → Int32) (gtl : Int32) (gsp : Int32) (gmd : Nat → Int32) (gop : Nat → Int32) (gom : Int32) (gwt : Nat → Int32) (gwm : Int32) (gtn : Int32) (gon : Int32) (gsh : Nat → Int32) (gtr : Nat → Int32) (gbl : Int32) (gbd : Int32) (gwh : Nat → Int32) (gfl : Int32) (gfd : Int32) (gfe : Int32)
set_option maxRecDepth 100000 in
set_option maxHeartbeats 8000000 in
theorem l_keep2 {G : aG} (c : Nat) (hc : c < 4) (gps0 : Nat → Int32)
    (hret : ∀ gps, (∀ k, k < 464 → gps (464 * c + k) = gal k) → (∀ i, i < 464 * c → gps i = gps0 i) → RET G none (gH gal gps (nI (c + 1)) grf gmy gkd glf grt gpr gun gow gem ged gse gsz gtx gtl gsp gmd gop gom gwt gwm gtn gon gsh gtr gbl gbd gwh gfl gfd gfe) 0 0) :
    ∀ (m j : Nat) (gps : Nat → Int32), j + m = 464 → (∀ k, k < j → gps (464 * c + k) = gal k) → (∀ i, i < 464 * c → gps i = gps0 i) →
    AW 118 G 51 [some (.ref 0), some (.int (nI j))] [] (gH gal gps (nI c) grf gmy gkd glf grt gpr gun gow gem ged gse gsz gtx gtl gsp gmd gop gom gwt gwm gtn gon gsh gtr gbl gbd gwh gfl gfd gfe) 0 0 := by
  intro m
  induction m with
  | zero =>
    intro j gps hm h1 h2
    have e : j = 464 := by omega
    subst e
    have hf := hret gps h1 h2
    clear hret
    refine wq_aw (S := fun x => x == 51) (by decide) (f := 200) ?_
    simp (disch := first | exact rfl | decide | omega) only [v_118_10, v_118_51, u_118_0, u_118_1, u_118_4, u_118_5, u_118_8, u_118_9, u_118_10, u_118_11, u_118_14, u_118_17, u_118_18, u_118_21, u_118_22, u_118_23, u_118_26, u_118_27, u_118_30, u_118_31, u_118_32, u_118_33, u_118_36, u_118_39, u_118_40, u_118_41, u_118_44, u_118_45, u_118_46, u_118_49, u_118_50, u_118_51, u_118_52, u_118_55, u_118_58, u_118_59, u_118_62, u_118_65, u_118_66, u_118_69, u_118_70, u_118_71, u_118_72, u_118_73, u_118_76, u_118_77, u_118_78, u_118_79, u_118_82, u_118_85, u_118_86, u_118_87, u_118_90, u_118_91, u_118_92, u_118_95, wp_stop, lget, lput1, lput2, kil, hget, hset, vget, vset, fget, fgetC, fput, fputC, iget, igetC, jget, jgetC, qget, qgetC, alen, lenC, oI, oJ, oF, oA, oV, oH, oInc, oIld, oJld, oQld, oR, oLen, oIst, oBst, oJst, oQst, ciOf, rcv, oCp, cat1, cond_true, cond_false, Bool.and_self, Bool.and_true, Bool.true_and, Bool.or_true, Bool.true_or, Bool.or_false, Bool.false_or, Bool.not_false, Bool.not_true, ↓reduceIte, Nat.reduceBEq, Nat.reduceEqDiff, beq_self_eq_true, true_and, and_true, eq_self_iff_true, Nat.reduceAdd, Nat.blt, Nat.ble, z_le, z_lt, z_eq, z_cl, z_add, z_sub, z_mul, z_in, z_lt0, z_ofN, z_m1, z_ltm1, z_m1lt, z_eqm1, z_m1eq, z_m1le, z_lem1, z_beq, nI_0_1, nI_m1lt0, nI_0lem1, not_false_eq_true, not_true_eq_false, forall_const, false_implies, true_implies, implies_true, false_and, and_false, mrg, renc, tra, trv, sg, List.map_cons, List.map_nil, Option.map_some, Option.map_none, Option.toList_some, Option.toList_none, List.cons_append, List.nil_append, List.length_cons, List.length_nil, gH, gO, show (464 : Nat) ≤ 464 by decide]
    exact hf
  | succ m ih =>
    intro j gps hm h1 h2
    have hgo := ih (j + 1) (upd gps (464 * c + j) (gal j)) (by omega) (fun k hk => by
      by_cases q : k = j
      · rw [q, upd_s]
      · rw [upd_n (by omega)]
        exact h1 k (by omega)) (fun i hi => by
      rw [upd_n (by omega)]
      exact h2 i hi)
    clear ih hret
    have t1 : ¬ 464 ≤ j := by omega
    refine wq_aw (S := fun x => x == 51) (by decide) (f := 200) ?_
    simp (disch := first | exact rfl | decide | omega) only [v_118_10, v_118_51, u_118_0, u_118_1, u_118_4, u_118_5, u_118_8, u_118_9, u_118_10, u_118_11, u_118_14, u_118_17, u_118_18, u_118_21, u_118_22, u_118_23, u_118_26, u_118_27, u_118_30, u_118_31, u_118_32, u_118_33, u_118_36, u_118_39, u_118_40, u_118_41, u_118_44, u_118_45, u_118_46, u_118_49, u_118_50, u_118_51, u_118_52, u_118_55, u_118_58, u_118_59, u_118_62, u_118_65, u_118_66, u_118_69, u_118_70, u_118_71, u_118_72, u_118_73, u_118_76, u_118_77, u_118_78, u_118_79, u_118_82, u_118_85, u_118_86, u_118_87, u_118_90, u_118_91, u_118_92, u_118_95, wp_stop, lget, lput1, lput2, kil, hget, hset, vget, vset, fget, fgetC, fput, fputC, iget, igetC, jget, jgetC, qget, qgetC, alen, lenC, oI, oJ, oF, oA, oV, oH, oInc, oIld, oJld, oQld, oR, oLen, oIst, oBst, oJst, oQst, ciOf, rcv, oCp, cat1, cond_true, cond_false, Bool.and_self, Bool.and_true, Bool.true_and, Bool.or_true, Bool.true_or, Bool.or_false, Bool.false_or, Bool.not_false, Bool.not_true, ↓reduceIte, Nat.reduceBEq, Nat.reduceEqDiff, beq_self_eq_true, true_and, and_true, eq_self_iff_true, Nat.reduceAdd, Nat.blt, Nat.ble, z_le, z_lt, z_eq, z_cl, z_add, z_sub, z_mul, z_in, z_lt0, z_ofN, z_m1, z_ltm1, z_m1lt, z_eqm1, z_m1eq, z_m1le, z_lem1, z_beq, nI_0_1, nI_m1lt0, nI_0lem1, not_false_eq_true, not_true_eq_false, forall_const, false_implies, true_implies, implies_true, false_and, and_false, mrg, renc, tra, trv, sg, List.map_cons, List.map_nil, Option.map_some, Option.map_none, Option.toList_some, Option.toList_none, List.cons_append, List.nil_append, List.length_cons, List.length_nil, gH, gO, t1]
    exact hgo
set_option maxRecDepth 100000 in
set_option maxHeartbeats 8000000 in
theorem l_keep1 {G : aG} (gps0 : Nat → Int32)
    (hnext : ∀ gps, (∀ k, k < 1392 → gps k = gps0 (k + 464)) → AW 118 G 51 [some (.ref 0), some (.int (nI 0))] [] (gH gal gps (nI 3) grf gmy gkd glf grt gpr gun gow gem ged gse gsz gtx gtl gsp gmd gop gom gwt gwm gtn gon gsh gtr gbl gbd gwh gfl gfd gfe) 0 0) :
    ∀ (m j : Nat) (gps : Nat → Int32), j + m = 1392 → (∀ k, k < j → gps k = gps0 (k + 464)) → (∀ i, j ≤ i → gps i = gps0 i) →
    AW 118 G 10 [some (.ref 0), some (.int (nI j))] [] (gH gal gps (nI 4) grf gmy gkd glf grt gpr gun gow gem ged gse gsz gtx gtl gsp gmd gop gom gwt gwm gtn gon gsh gtr gbl gbd gwh gfl gfd gfe) 0 0 := by
  intro m
  induction m with
  | zero =>
    intro j gps hm h1 h2
    have e : j = 1392 := by omega
    subst e
    have hf := hnext gps h1
    clear hnext
    refine wq_aw (S := fun x => x == 10 || x == 51) (by decide) (f := 200) ?_
    simp (disch := first | exact rfl | decide | omega) only [v_118_10, v_118_51, u_118_0, u_118_1, u_118_4, u_118_5, u_118_8, u_118_9, u_118_10, u_118_11, u_118_14, u_118_17, u_118_18, u_118_21, u_118_22, u_118_23, u_118_26, u_118_27, u_118_30, u_118_31, u_118_32, u_118_33, u_118_36, u_118_39, u_118_40, u_118_41, u_118_44, u_118_45, u_118_46, u_118_49, u_118_50, u_118_51, u_118_52, u_118_55, u_118_58, u_118_59, u_118_62, u_118_65, u_118_66, u_118_69, u_118_70, u_118_71, u_118_72, u_118_73, u_118_76, u_118_77, u_118_78, u_118_79, u_118_82, u_118_85, u_118_86, u_118_87, u_118_90, u_118_91, u_118_92, u_118_95, wp_stop, lget, lput1, lput2, kil, hget, hset, vget, vset, fget, fgetC, fput, fputC, iget, igetC, jget, jgetC, qget, qgetC, alen, lenC, oI, oJ, oF, oA, oV, oH, oInc, oIld, oJld, oQld, oR, oLen, oIst, oBst, oJst, oQst, ciOf, rcv, oCp, cat1, cond_true, cond_false, Bool.and_self, Bool.and_true, Bool.true_and, Bool.or_true, Bool.true_or, Bool.or_false, Bool.false_or, Bool.not_false, Bool.not_true, ↓reduceIte, Nat.reduceBEq, Nat.reduceEqDiff, beq_self_eq_true, true_and, and_true, eq_self_iff_true, Nat.reduceAdd, Nat.blt, Nat.ble, z_le, z_lt, z_eq, z_cl, z_add, z_sub, z_mul, z_in, z_lt0, z_ofN, z_m1, z_ltm1, z_m1lt, z_eqm1, z_m1eq, z_m1le, z_lem1, z_beq, nI_0_1, nI_m1lt0, nI_0lem1, not_false_eq_true, not_true_eq_false, forall_const, false_implies, true_implies, implies_true, false_and, and_false, mrg, renc, tra, trv, sg, List.map_cons, List.map_nil, Option.map_some, Option.map_none, Option.toList_some, Option.toList_none, List.cons_append, List.nil_append, List.length_cons, List.length_nil, gH, gO, show (1392 : Nat) ≤ 1392 by decide]
    exact hf
  | succ m ih =>
    intro j gps hm h1 h2
    have hgo := ih (j + 1) (upd gps j (gps (j + 464))) (by omega) (fun k hk => by
      by_cases q : k = j
      · rw [q, upd_s]
        exact h2 _ (by omega)
      · rw [upd_n (by omega)]
        exact h1 k (by omega)) (fun i hi => by
      rw [upd_n (by omega)]
      exact h2 i (by omega))
    clear ih hnext
    have t1 : ¬ 1392 ≤ j := by omega
    refine wq_aw (S := fun x => x == 10 || x == 51) (by decide) (f := 200) ?_
    simp (disch := first | exact rfl | decide | omega) only [v_118_10, v_118_51, u_118_0, u_118_1, u_118_4, u_118_5, u_118_8, u_118_9, u_118_10, u_118_11, u_118_14, u_118_17, u_118_18, u_118_21, u_118_22, u_118_23, u_118_26, u_118_27, u_118_30, u_118_31, u_118_32, u_118_33, u_118_36, u_118_39, u_118_40, u_118_41, u_118_44, u_118_45, u_118_46, u_118_49, u_118_50, u_118_51, u_118_52, u_118_55, u_118_58, u_118_59, u_118_62, u_118_65, u_118_66, u_118_69, u_118_70, u_118_71, u_118_72, u_118_73, u_118_76, u_118_77, u_118_78, u_118_79, u_118_82, u_118_85, u_118_86, u_118_87, u_118_90, u_118_91, u_118_92, u_118_95, wp_stop, lget, lput1, lput2, kil, hget, hset, vget, vset, fget, fgetC, fput, fputC, iget, igetC, jget, jgetC, qget, qgetC, alen, lenC, oI, oJ, oF, oA, oV, oH, oInc, oIld, oJld, oQld, oR, oLen, oIst, oBst, oJst, oQst, ciOf, rcv, oCp, cat1, cond_true, cond_false, Bool.and_self, Bool.and_true, Bool.true_and, Bool.or_true, Bool.true_or, Bool.or_false, Bool.false_or, Bool.not_false, Bool.not_true, ↓reduceIte, Nat.reduceBEq, Nat.reduceEqDiff, beq_self_eq_true, true_and, and_true, eq_self_iff_true, Nat.reduceAdd, Nat.blt, Nat.ble, z_le, z_lt, z_eq, z_cl, z_add, z_sub, z_mul, z_in, z_lt0, z_ofN, z_m1, z_ltm1, z_m1lt, z_eqm1, z_m1eq, z_m1le, z_lem1, z_beq, nI_0_1, nI_m1lt0, nI_0lem1, not_false_eq_true, not_true_eq_false, forall_const, false_implies, true_implies, implies_true, false_and, and_false, mrg, renc, tra, trv, sg, List.map_cons, List.map_nil, Option.map_some, Option.map_none, Option.toList_some, Option.toList_none, List.cons_append, List.nil_append, List.length_cons, List.length_nil, gH, gO, t1]
    exact hgo
set_option maxRecDepth 100000 in
theorem g_keep (d c : Nat) (hc : c ≤ 4) (hst : gst = nI c) : aSp d 118 [.ref 0] (gH gal gps gst grf gmy gkd glf grt gpr gun gow gem ged gse gsz gtx gtl gsp gmd gop gom gwt gwm gtn gon gsh gtr gbl gbd gwh gfl gfd gfe) nomv 0 0 (fun r h' => r = none ∧ ∃ gps', h' = (gH gal gps' (nI (c1N c)) grf gmy gkd glf grt gpr gun gow gem ged gse gsz gtx gtl gsp gmd gop gom gwt gwm gtn gon gsh gtr gbl gbd gwh gfl gfd gfe) ∧ kpR gps gps' gal c) := by
  subst hst
  refine sp_of (by decide) (Nat.le_of_ble_eq_true rfl) ?_
  generalize hG : ((d, _, nomv, _, _, _) : aG) = G
  have ggd : gD G = d := by subst hG; rfl
  have ggn : gN G = 21 := by subst hG; rfl
  have ggm : gM G = nomv := by subst hG; rfl
  have ggc : gC G = 0 := by subst hG; rfl
  have ggs : gS G = 0 := by subst hG; rfl
  have hret : ∀ gps', kpR gps gps' gal c → RET G none (gH gal gps' (nI (c1N c)) grf gmy gkd glf grt gpr gun gow gem ged gse gsz gtx gtl gsp gmd gop gom gwt gwm gtn gon gsh gtr gbl gbd gwh gfl gfd gfe) 0 0 := by
    subst hG
    intro gps' q
    exact RET.id ⟨rfl, gps', rfl, q⟩ (Nat.le_refl _) (Nat.le_refl _)
  clear hG
  by_cases e : c = 4
  · subst e
    have hgo := l_keep1 gal grf gmy gkd glf grt gpr gun gow gem ged gse gsz gtx gtl gsp gmd gop gom gwt gwm gtn gon gsh gtr gbl gbd gwh gfl gfd gfe gps (fun gps1 h1 => l_keep2 gal grf gmy gkd glf grt gpr gun gow gem ged gse gsz gtx gtl gsp gmd gop gom gwt gwm gtn gon gsh gtr gbl gbd gwh gfl gfd gfe 3 (by decide) gps1 (fun gps2 q1 q2 => hret gps2 ⟨q1, fun i hi k hk => by
      have hi3 : i + 1 < 4 := hi
      rw [q2 _ (by omega), h1 _ (by omega)]
      congr 1
      show 464 * i + k + 464 = 464 * (i + 1) + k
      omega⟩) 464 0 gps1 (by omega) (fun k hk => absurd hk (Nat.not_lt_zero k)) (fun i _ => rfl)) 1392 0 gps (by omega) (fun k hk => absurd hk (Nat.not_lt_zero k)) (fun i _ => rfl)
    clear hret
    refine wp_aw (S := fun x => x == 10 || x == 51) (by decide) 200 _ _ _ _ _ _ ?_
    simp (disch := first | exact rfl | decide | omega) only [u_118_0, u_118_1, u_118_4, u_118_5, u_118_8, u_118_9, u_118_10, u_118_11, u_118_14, u_118_17, u_118_18, u_118_21, u_118_22, u_118_23, u_118_26, u_118_27, u_118_30, u_118_31, u_118_32, u_118_33, u_118_36, u_118_39, u_118_40, u_118_41, u_118_44, u_118_45, u_118_46, u_118_49, u_118_50, u_118_51, u_118_52, u_118_55, u_118_58, u_118_59, u_118_62, u_118_65, u_118_66, u_118_69, u_118_70, u_118_71, u_118_72, u_118_73, u_118_76, u_118_77, u_118_78, u_118_79, u_118_82, u_118_85, u_118_86, u_118_87, u_118_90, u_118_91, u_118_92, u_118_95, wp_stop, lget, lput1, lput2, kil, hget, hset, vget, vset, fget, fgetC, fput, fputC, iget, igetC, jget, jgetC, qget, qgetC, alen, lenC, oI, oJ, oF, oA, oV, oH, oInc, oIld, oJld, oQld, oR, oLen, oIst, oBst, oJst, oQst, ciOf, rcv, oCp, cat1, cond_true, cond_false, Bool.and_self, Bool.and_true, Bool.true_and, Bool.or_true, Bool.true_or, Bool.or_false, Bool.false_or, Bool.not_false, Bool.not_true, ↓reduceIte, Nat.reduceBEq, Nat.reduceEqDiff, beq_self_eq_true, true_and, and_true, eq_self_iff_true, Nat.reduceAdd, Nat.blt, Nat.ble, z_le, z_lt, z_eq, z_cl, z_add, z_sub, z_mul, z_in, z_lt0, z_ofN, z_m1, z_ltm1, z_m1lt, z_eqm1, z_m1eq, z_m1le, z_lem1, z_beq, nI_0_1, nI_m1lt0, nI_0lem1, not_false_eq_true, not_true_eq_false, forall_const, false_implies, true_implies, implies_true, false_and, and_false, mrg, renc, tra, trv, sg, List.map_cons, List.map_nil, Option.map_some, Option.map_none, Option.toList_some, Option.toList_none, List.cons_append, List.nil_append, List.length_cons, List.length_nil, eL, mL_118, gH, gO]
    exact hgo
  · have hcc : c1N c = c + 1 := if_neg e
    rw [hcc] at hret
    have hgo := l_keep2 gal grf gmy gkd glf grt gpr gun gow gem ged gse gsz gtx gtl gsp gmd gop gom gwt gwm gtn gon gsh gtr gbl gbd gwh gfl gfd gfe c (by omega) gps (fun gps2 q1 q2 => hret gps2 ⟨by rw [hcc, Nat.add_sub_cancel]; exact q1, fun i hi k hk => by
      rw [hcc] at hi
      rw [if_neg e, Nat.add_zero]
      exact q2 _ (by omega)⟩) 464 0 gps (by omega) (fun k hk => absurd hk (Nat.not_lt_zero k)) (fun i _ => rfl)
    clear hret
    refine wp_aw (S := fun x => x == 10 || x == 51) (by decide) 200 _ _ _ _ _ _ ?_
    simp (disch := first | exact rfl | decide | omega) only [u_118_0, u_118_1, u_118_4, u_118_5, u_118_8, u_118_9, u_118_10, u_118_11, u_118_14, u_118_17, u_118_18, u_118_21, u_118_22, u_118_23, u_118_26, u_118_27, u_118_30, u_118_31, u_118_32, u_118_33, u_118_36, u_118_39, u_118_40, u_118_41, u_118_44, u_118_45, u_118_46, u_118_49, u_118_50, u_118_51, u_118_52, u_118_55, u_118_58, u_118_59, u_118_62, u_118_65, u_118_66, u_118_69, u_118_70, u_118_71, u_118_72, u_118_73, u_118_76, u_118_77, u_118_78, u_118_79, u_118_82, u_118_85, u_118_86, u_118_87, u_118_90, u_118_91, u_118_92, u_118_95, wp_stop, lget, lput1, lput2, kil, hget, hset, vget, vset, fget, fgetC, fput, fputC, iget, igetC, jget, jgetC, qget, qgetC, alen, lenC, oI, oJ, oF, oA, oV, oH, oInc, oIld, oJld, oQld, oR, oLen, oIst, oBst, oJst, oQst, ciOf, rcv, oCp, cat1, cond_true, cond_false, Bool.and_self, Bool.and_true, Bool.true_and, Bool.or_true, Bool.true_or, Bool.or_false, Bool.false_or, Bool.not_false, Bool.not_true, ↓reduceIte, Nat.reduceBEq, Nat.reduceEqDiff, beq_self_eq_true, true_and, and_true, eq_self_iff_true, Nat.reduceAdd, Nat.blt, Nat.ble, z_le, z_lt, z_eq, z_cl, z_add, z_sub, z_mul, z_in, z_lt0, z_ofN, z_m1, z_ltm1, z_m1lt, z_eqm1, z_m1eq, z_m1le, z_lem1, z_beq, nI_0_1, nI_m1lt0, nI_0lem1, not_false_eq_true, not_true_eq_false, forall_const, false_implies, true_implies, implies_true, false_and, and_false, mrg, renc, tra, trv, sg, List.map_cons, List.map_nil, Option.map_some, Option.map_none, Option.toList_some, Option.toList_none, List.cons_append, List.nil_append, List.length_cons, List.length_nil, eL, mL_118, gH, gO, e]
    exact hgo
set_option maxRecDepth 100000 in
set_option maxHeartbeats 8000000 in
theorem l_back {G : aG} (c : Nat) (hc : c < 4) (gal0 : Nat → Int32)
    (hret : ∀ gal, (∀ k, k < 464 → gal k = gps (464 * c + k)) → RET G (some (.int (nI c))) (gH gal gps (nI c) grf gmy gkd glf grt gpr gun gow gem ged gse gsz gtx gtl gsp gmd gop gom gwt gwm gtn gon gsh gtr gbl gbd gwh gfl gfd gfe) 0 0) :
    ∀ (m j : Nat) (gal : Nat → Int32), j + m = 464 → (∀ k, k < j → gal k = gps (464 * c + k)) →
    AW 152 G 26 [some (.ref 0), some (.int (nI j))] [] (gH gal gps (nI c) grf gmy gkd glf grt gpr gun gow gem ged gse gsz gtx gtl gsp gmd gop gom gwt gwm gtn gon gsh gtr gbl gbd gwh gfl gfd gfe) 0 0 := by
  intro m
  induction m with
  | zero =>
    intro j gal hm h1
    have e : j = 464 := by omega
    subst e
    have hf := hret gal h1
    clear hret
    refine wq_aw (S := fun x => x == 26) (by decide) (f := 200) ?_
    simp (disch := first | exact rfl | decide | omega) only [v_152_26, u_152_0, u_152_1, u_152_4, u_152_7, u_152_8, u_152_10, u_152_13, u_152_14, u_152_15, u_152_16, u_152_19, u_152_20, u_152_21, u_152_24, u_152_25, u_152_26, u_152_27, u_152_30, u_152_33, u_152_34, u_152_37, u_152_38, u_152_39, u_152_42, u_152_45, u_152_46, u_152_49, u_152_50, u_152_51, u_152_52, u_152_53, u_152_54, u_152_57, u_152_60, u_152_61, u_152_64, wp_stop, lget, lput1, lput2, kil, hget, hset, vget, vset, fget, fgetC, fput, fputC, iget, igetC, jget, jgetC, qget, qgetC, alen, lenC, oI, oJ, oF, oA, oV, oH, oInc, oIld, oJld, oQld, oR, oLen, oIst, oBst, oJst, oQst, ciOf, rcv, oCp, cat1, cond_true, cond_false, Bool.and_self, Bool.and_true, Bool.true_and, Bool.or_true, Bool.true_or, Bool.or_false, Bool.false_or, Bool.not_false, Bool.not_true, ↓reduceIte, Nat.reduceBEq, Nat.reduceEqDiff, beq_self_eq_true, true_and, and_true, eq_self_iff_true, Nat.reduceAdd, Nat.blt, Nat.ble, z_le, z_lt, z_eq, z_cl, z_add, z_sub, z_mul, z_in, z_lt0, z_ofN, z_m1, z_ltm1, z_m1lt, z_eqm1, z_m1eq, z_m1le, z_lem1, z_beq, nI_0_1, nI_m1lt0, nI_0lem1, not_false_eq_true, not_true_eq_false, forall_const, false_implies, true_implies, implies_true, false_and, and_false, mrg, renc, tra, trv, sg, List.map_cons, List.map_nil, Option.map_some, Option.map_none, Option.toList_some, Option.toList_none, List.cons_append, List.nil_append, List.length_cons, List.length_nil, gH, gO, show (464 : Nat) ≤ 464 by decide]
    exact hf
  | succ m ih =>
    intro j gal hm h1
    have hgo := ih (j + 1) (upd gal j (gps (464 * c + j))) (by omega) (fun k hk => by
      by_cases q : k = j
      · rw [q, upd_s]
      · rw [upd_n (by omega)]
        exact h1 k (by omega))
    clear ih hret
    have t1 : ¬ 464 ≤ j := by omega
    refine wq_aw (S := fun x => x == 26) (by decide) (f := 200) ?_
    simp (disch := first | exact rfl | decide | omega) only [v_152_26, u_152_0, u_152_1, u_152_4, u_152_7, u_152_8, u_152_10, u_152_13, u_152_14, u_152_15, u_152_16, u_152_19, u_152_20, u_152_21, u_152_24, u_152_25, u_152_26, u_152_27, u_152_30, u_152_33, u_152_34, u_152_37, u_152_38, u_152_39, u_152_42, u_152_45, u_152_46, u_152_49, u_152_50, u_152_51, u_152_52, u_152_53, u_152_54, u_152_57, u_152_60, u_152_61, u_152_64, wp_stop, lget, lput1, lput2, kil, hget, hset, vget, vset, fget, fgetC, fput, fputC, iget, igetC, jget, jgetC, qget, qgetC, alen, lenC, oI, oJ, oF, oA, oV, oH, oInc, oIld, oJld, oQld, oR, oLen, oIst, oBst, oJst, oQst, ciOf, rcv, oCp, cat1, cond_true, cond_false, Bool.and_self, Bool.and_true, Bool.true_and, Bool.or_true, Bool.true_or, Bool.or_false, Bool.false_or, Bool.not_false, Bool.not_true, ↓reduceIte, Nat.reduceBEq, Nat.reduceEqDiff, beq_self_eq_true, true_and, and_true, eq_self_iff_true, Nat.reduceAdd, Nat.blt, Nat.ble, z_le, z_lt, z_eq, z_cl, z_add, z_sub, z_mul, z_in, z_lt0, z_ofN, z_m1, z_ltm1, z_m1lt, z_eqm1, z_m1eq, z_m1le, z_lem1, z_beq, nI_0_1, nI_m1lt0, nI_0lem1, not_false_eq_true, not_true_eq_false, forall_const, false_implies, true_implies, implies_true, false_and, and_false, mrg, renc, tra, trv, sg, List.map_cons, List.map_nil, Option.map_some, Option.map_none, Option.toList_some, Option.toList_none, List.cons_append, List.nil_append, List.length_cons, List.length_nil, gH, gO, t1]
    exact hgo
set_option maxRecDepth 100000 in
theorem g_back (d c : Nat) (hc : c < 4) (hst : gst = nI (c + 1)) : aSp (d + 1) 152 [.ref 0] (gH gal gps gst grf gmy gkd glf grt gpr gun gow gem ged gse gsz gtx gtl gsp gmd gop gom gwt gwm gtn gon gsh gtr gbl gbd gwh gfl gfd gfe) nomv 0 0 (fun r h' => r = some (.int (nI c)) ∧ ∃ gal', h' = (gH gal' gps (nI c) grf gmy gkd glf grt gpr gun gow gem ged gse gsz gtx gtl gsp gmd gop gom gwt gwm gtn gon gsh gtr gbl gbd gwh gfl gfd gfe) ∧ ∀ k, k < 464 → gal' k = gps (464 * c + k)) := by
  subst hst
  refine sp_of (by decide) (Nat.le_of_ble_eq_true rfl) ?_
  generalize hG : ((d + 1, _, nomv, _, _, _) : aG) = G
  have ggd : gD G = d + 1 := by subst hG; rfl
  have ggn : gN G = 21 := by subst hG; rfl
  have ggm : gM G = nomv := by subst hG; rfl
  have ggc : gC G = 0 := by subst hG; rfl
  have ggs : gS G = 0 := by subst hG; rfl
  have hret : ∀ gal', (∀ k, k < 464 → gal' k = gps (464 * c + k)) → RET G (some (.int (nI c))) (gH gal' gps (nI c) grf gmy gkd glf grt gpr gun gow gem ged gse gsz gtx gtl gsp gmd gop gom gwt gwm gtn gon gsh gtr gbl gbd gwh gfl gfd gfe) 0 0 := by
    subst hG
    intro gal' q
    exact RET.id ⟨rfl, gal', rfl, q⟩ (Nat.le_refl _) (Nat.le_refl _)
  clear hG
  have hgo := l_back gps grf gmy gkd glf grt gpr gun gow gem ged gse gsz gtx gtl gsp gmd gop gom gwt gwm gtn gon gsh gtr gbl gbd gwh gfl gfd gfe c hc gal hret 464 0 gal (by omega) (fun k hk => absurd hk (Nat.not_lt_zero k))
  clear hret
  have t1 : ¬ c + 1 = 0 := by omega
  refine wp_aw (S := fun x => x == 26) (by decide) 200 _ _ _ _ _ _ ?_
  simp (disch := first | exact rfl | decide | omega) only [u_152_0, u_152_1, u_152_4, u_152_7, u_152_8, u_152_10, u_152_13, u_152_14, u_152_15, u_152_16, u_152_19, u_152_20, u_152_21, u_152_24, u_152_25, u_152_26, u_152_27, u_152_30, u_152_33, u_152_34, u_152_37, u_152_38, u_152_39, u_152_42, u_152_45, u_152_46, u_152_49, u_152_50, u_152_51, u_152_52, u_152_53, u_152_54, u_152_57, u_152_60, u_152_61, u_152_64, wp_stop, lget, lput1, lput2, kil, hget, hset, vget, vset, fget, fgetC, fput, fputC, iget, igetC, jget, jgetC, qget, qgetC, alen, lenC, oI, oJ, oF, oA, oV, oH, oInc, oIld, oJld, oQld, oR, oLen, oIst, oBst, oJst, oQst, ciOf, rcv, oCp, cat1, cond_true, cond_false, Bool.and_self, Bool.and_true, Bool.true_and, Bool.or_true, Bool.true_or, Bool.or_false, Bool.false_or, Bool.not_false, Bool.not_true, ↓reduceIte, Nat.reduceBEq, Nat.reduceEqDiff, beq_self_eq_true, true_and, and_true, eq_self_iff_true, Nat.reduceAdd, Nat.blt, Nat.ble, z_le, z_lt, z_eq, z_cl, z_add, z_sub, z_mul, z_in, z_lt0, z_ofN, z_m1, z_ltm1, z_m1lt, z_eqm1, z_m1eq, z_m1le, z_lem1, z_beq, nI_0_1, nI_m1lt0, nI_0lem1, not_false_eq_true, not_true_eq_false, forall_const, false_implies, true_implies, implies_true, false_and, and_false, mrg, renc, tra, trv, sg, List.map_cons, List.map_nil, Option.map_some, Option.map_none, Option.toList_some, Option.toList_none, List.cons_append, List.nil_append, List.length_cons, List.length_nil, eL, mL_152, gH, gO, t1, Nat.add_sub_cancel]
  exact hgo
set_option maxRecDepth 100000 in
theorem g_backNo (d : Nat) : aSp (d + 1) 152 [.ref 0] (gH gal gps (nI 0) grf gmy gkd glf grt gpr gun gow gem ged gse gsz gtx gtl gsp gmd gop gom gwt gwm gtn gon gsh gtr gbl gbd gwh gfl gfd gfe) nomv 0 0 (fun r h' => r = some (.int (-3)) ∧ h' = (gH gal gps (nI 0) (upd grf 1 (grf 1 + nI 1)) gmy gkd glf grt gpr gun gow gem ged gse gsz gtx gtl gsp gmd gop gom gwt gwm gtn gon gsh gtr gbl gbd gwh gfl gfd gfe)) := by
  refine sp_of (by decide) (Nat.le_of_ble_eq_true rfl) ?_
  generalize hG : ((d + 1, _, nomv, _, _, _) : aG) = G
  have ggd : gD G = d + 1 := by subst hG; rfl
  have ggn : gN G = 21 := by subst hG; rfl
  have ggm : gM G = nomv := by subst hG; rfl
  have ggc : gC G = 0 := by subst hG; rfl
  have ggs : gS G = 0 := by subst hG; rfl
  have hret : RET G (some (.int (-3))) (gH gal gps (nI 0) (upd grf 1 (grf 1 + nI 1)) gmy gkd glf grt gpr gun gow gem ged gse gsz gtx gtl gsp gmd gop gom gwt gwm gtn gon gsh gtr gbl gbd gwh gfl gfd gfe) 0 0 := by
    subst hG
    exact RET.id ⟨rfl, rfl⟩ (Nat.le_refl _) (Nat.le_refl _)
  clear hG
  have hrf := g_refuses gal gps (nI 0) grf gmy gkd glf grt gpr gun gow gem ged gse gsz gtx gtl gsp gmd gop gom gwt gwm gtn gon gsh gtr gbl gbd gwh gfl gfd gfe 0 1 (by decide) (-3) (by decide)
  refine wp_aw (S := fun _ => false) (by decide) 200 _ _ _ _ _ _ ?_
  simp (disch := first | exact rfl | decide | omega) only [u_152_0, u_152_1, u_152_4, u_152_7, u_152_8, u_152_10, u_152_13, u_152_14, u_152_15, u_152_16, u_152_19, u_152_20, u_152_21, u_152_24, u_152_25, u_152_26, u_152_27, u_152_30, u_152_33, u_152_34, u_152_37, u_152_38, u_152_39, u_152_42, u_152_45, u_152_46, u_152_49, u_152_50, u_152_51, u_152_52, u_152_53, u_152_54, u_152_57, u_152_60, u_152_61, u_152_64, wp_stop, lget, lput1, lput2, kil, hget, hset, vget, vset, fget, fgetC, fput, fputC, iget, igetC, jget, jgetC, qget, qgetC, alen, lenC, oI, oJ, oF, oA, oV, oH, oInc, oIld, oJld, oQld, oR, oLen, oIst, oBst, oJst, oQst, ciOf, rcv, oCp, cat1, cond_true, cond_false, Bool.and_self, Bool.and_true, Bool.true_and, Bool.or_true, Bool.true_or, Bool.or_false, Bool.false_or, Bool.not_false, Bool.not_true, ↓reduceIte, Nat.reduceBEq, Nat.reduceEqDiff, beq_self_eq_true, true_and, and_true, eq_self_iff_true, Nat.reduceAdd, Nat.blt, Nat.ble, z_le, z_lt, z_eq, z_cl, z_add, z_sub, z_mul, z_in, z_lt0, z_ofN, z_m1, z_ltm1, z_m1lt, z_eqm1, z_m1eq, z_m1le, z_lem1, z_beq, nI_0_1, nI_m1lt0, nI_0lem1, not_false_eq_true, not_true_eq_false, forall_const, false_implies, true_implies, implies_true, false_and, and_false, mrg, renc, tra, trv, sg, List.map_cons, List.map_nil, Option.map_some, Option.map_none, Option.toList_some, Option.toList_none, List.cons_append, List.nil_append, List.length_cons, List.length_nil, eL, mL_152, gH, gO]
  refine CAL.dir (hrf) (by rw [ggd]; omega) (by rw [ggc]; omega) (by rw [ggs]; omega) (Nat.le_of_ble_eq_true rfl) (by rw [ggn]; exact Nat.le_of_ble_eq_true rfl) rfl rfl ?_
  rintro _ _ ⟨rfl, rfl⟩
  simp (disch := first | exact rfl | decide | omega) only [u_152_0, u_152_1, u_152_4, u_152_7, u_152_8, u_152_10, u_152_13, u_152_14, u_152_15, u_152_16, u_152_19, u_152_20, u_152_21, u_152_24, u_152_25, u_152_26, u_152_27, u_152_30, u_152_33, u_152_34, u_152_37, u_152_38, u_152_39, u_152_42, u_152_45, u_152_46, u_152_49, u_152_50, u_152_51, u_152_52, u_152_53, u_152_54, u_152_57, u_152_60, u_152_61, u_152_64, wp_stop, lget, lput1, lput2, kil, hget, hset, vget, vset, fget, fgetC, fput, fputC, iget, igetC, jget, jgetC, qget, qgetC, alen, lenC, oI, oJ, oF, oA, oV, oH, oInc, oIld, oJld, oQld, oR, oLen, oIst, oBst, oJst, oQst, ciOf, rcv, oCp, cat1, cond_true, cond_false, Bool.and_self, Bool.and_true, Bool.true_and, Bool.or_true, Bool.true_or, Bool.or_false, Bool.false_or, Bool.not_false, Bool.not_true, ↓reduceIte, Nat.reduceBEq, Nat.reduceEqDiff, beq_self_eq_true, true_and, and_true, eq_self_iff_true, Nat.reduceAdd, Nat.blt, Nat.ble, z_le, z_lt, z_eq, z_cl, z_add, z_sub, z_mul, z_in, z_lt0, z_ofN, z_m1, z_ltm1, z_m1lt, z_eqm1, z_m1eq, z_m1le, z_lem1, z_beq, nI_0_1, nI_m1lt0, nI_0lem1, not_false_eq_true, not_true_eq_false, forall_const, false_implies, true_implies, implies_true, false_and, and_false, mrg, renc, tra, trv, sg, List.map_cons, List.map_nil, Option.map_some, Option.map_none, Option.toList_some, Option.toList_none, List.cons_append, List.nil_append, List.length_cons, List.length_nil, gH, gO]
  exact hret
set_option maxRecDepth 100000 in
theorem g_isPattern (d : Nat) (c : Int32) (h : aH) : aSp (d + 1) 120 [.int c] h nomv 0 0 (fun r h' => r = some (.int (bN (inB c 0 8))) ∧ h' = h) := by
  refine sp_of (by decide) (Nat.le_of_ble_eq_true rfl) ?_
  generalize hG : ((d + 1, _, nomv, _, _, _) : aG) = G
  have ggd : gD G = d + 1 := by subst hG; rfl
  have ggn : gN G = h.length := by subst hG; rfl
  have hret : RET G (some (.int (bN (inB c 0 8)))) h 0 0 := by
    subst hG
    exact RET.id ⟨rfl, rfl⟩ (Nat.le_refl _) (Nat.le_refl _)
  clear hG
  have hin := g_in 0 c 0 8 (by decide) (by decide) h
  refine wp_aw (S := fun _ => false) (by decide) 200 _ _ _ _ _ _ ?_
  simp (disch := first | exact rfl | decide | omega) only [u_120_0, u_120_1, u_120_2, u_120_3, u_120_6, u_120_9, wp_stop, lget, lput1, lput2, kil, hget, hset, vget, vset, fget, fgetC, fput, fputC, iget, igetC, jget, jgetC, qget, qgetC, alen, lenC, oI, oJ, oF, oA, oV, oH, oInc, oIld, oJld, oQld, oR, oLen, oIst, oBst, oJst, oQst, ciOf, rcv, oCp, cat1, cond_true, cond_false, Bool.and_self, Bool.and_true, Bool.true_and, Bool.or_true, Bool.true_or, Bool.or_false, Bool.false_or, Bool.not_false, Bool.not_true, ↓reduceIte, Nat.reduceBEq, Nat.reduceEqDiff, beq_self_eq_true, true_and, and_true, eq_self_iff_true, Nat.reduceAdd, Nat.blt, Nat.ble, z_le, z_lt, z_eq, z_cl, z_add, z_sub, z_mul, z_in, z_lt0, z_ofN, z_m1, z_ltm1, z_m1lt, z_eqm1, z_m1eq, z_m1le, z_lem1, z_beq, nI_0_1, nI_m1lt0, nI_0lem1, not_false_eq_true, not_true_eq_false, forall_const, false_implies, true_implies, implies_true, false_and, and_false, mrg, renc, tra, trv, sg, List.map_cons, List.map_nil, Option.map_some, Option.map_none, Option.toList_some, Option.toList_none, List.cons_append, List.nil_append, List.length_cons, List.length_nil, eL, mL_120]
  refine CAL.dir hin (by rw [ggd]; omega) (Nat.zero_le _) (Nat.zero_le _) (Nat.le_of_ble_eq_true rfl) (by rw [ggn]; exact Nat.le_refl _) rfl rfl ?_
  rintro _ _ ⟨rfl, rfl⟩
  simp (disch := first | exact rfl | decide | omega) only [u_120_0, u_120_1, u_120_2, u_120_3, u_120_6, u_120_9, wp_stop, lget, lput1, lput2, kil, hget, hset, vget, vset, fget, fgetC, fput, fputC, iget, igetC, jget, jgetC, qget, qgetC, alen, lenC, oI, oJ, oF, oA, oV, oH, oInc, oIld, oJld, oQld, oR, oLen, oIst, oBst, oJst, oQst, ciOf, rcv, oCp, cat1, cond_true, cond_false, Bool.and_self, Bool.and_true, Bool.true_and, Bool.or_true, Bool.true_or, Bool.or_false, Bool.false_or, Bool.not_false, Bool.not_true, ↓reduceIte, Nat.reduceBEq, Nat.reduceEqDiff, beq_self_eq_true, true_and, and_true, eq_self_iff_true, Nat.reduceAdd, Nat.blt, Nat.ble, z_le, z_lt, z_eq, z_cl, z_add, z_sub, z_mul, z_in, z_lt0, z_ofN, z_m1, z_ltm1, z_m1lt, z_eqm1, z_m1eq, z_m1le, z_lem1, z_beq, nI_0_1, nI_m1lt0, nI_0lem1, not_false_eq_true, not_true_eq_false, forall_const, false_implies, true_implies, implies_true, false_and, and_false, mrg, renc, tra, trv, sg, List.map_cons, List.map_nil, Option.map_some, Option.map_none, Option.toList_some, Option.toList_none, List.cons_append, List.nil_append, List.length_cons, List.length_nil, bNb]
  exact hret
end GM
