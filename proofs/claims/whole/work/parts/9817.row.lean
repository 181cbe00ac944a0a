/-! ResidualJudgeModel: goesRow, nowOf -/
theorem rpM_cp {K lf : Nat → Nat} {n : Nat} {gse gsz gse' gsz' : Nat → Int32} {a b m len : Nat} (h : rpM K lf n gse gsz b m) (h0 : gsz b = nI len) (hl : len ≤ 256) (h1 : gsz' a = nI len) (h2 : ∀ j, j < len → gse' (256 * a + j) = gse (256 * b + j)) : rpM K lf n gse' gsz' a m := by
  obtain ⟨q1, L, q2, q3⟩ := h
  have hl2 := rpS_len q2
  have e : L.length = len := by
    have := q2.1.symm.trans h0
    exact (nI_eq (by omega) (by omega)).mp this
  refine ⟨q1, L, ⟨by rw [h1, e], q2.2.1, q2.2.2.1, fun k x hx => ?_⟩, q3⟩
  have hk := gget_lt hx
  rw [h2 k (by omega)]
  exact q2.2.2.2 k x hx
theorem rpM_sz {K lf : Nat → Nat} {n : Nat} {gse gsz : Nat → Int32} {b m : Nat} (h : rpM K lf n gse gsz b m) : ∃ len, len ≤ 256 ∧ gsz b = nI len := by
  obtain ⟨q1, L, q2, q3⟩ := h
  exact ⟨L.length, rpS_len q2, q2.1⟩
/-- the row among the model's numbers -/
def rwG (g : Nat → Int32) (o : Nat) (row : List Nat) : Prop := o < 9 ∧ row.length ≤ 20 ∧ g 442 = nI o ∧ g 443 = nI row.length ∧ (∀ x ∈ row, x < 8) ∧ ∀ i x, row[i]? = some x → g (444 + i) = nI x
section GM
variable (gal : Nat → Int32) (gps : Nat → Int32) (gst : Int32) (grf : Nat → Int32) (gmy : Int32) (gkd : Nat → Int32) (glf : Nat → Int32) (grt : Nat → Int32) (gpr : Nat → Int32) (gun : Nat → Int32) (gow : Nat → Int32) (gem : Nat → Int32) (ged : Nat → Int32) (gse : Nat → Int32) (gsz : Nat → Int32) (gtx : Nat → Int32) (gtl : Int32) (gsp : Int32) (gmd : Nat → Int32) (gop : Nat → Int32) (gom : Int32) (gwt : Nat → Int32) (gwm : Int32) (gtn : Int32) (gon : Int32) (gsh : Nat → Int32) (gtr : Nat → Int32) (gbl : Int32) (gbd : Int32) (gwh : Nat → Int32) (gfl : Int32) (gfd : Int32) (gfe : Int32)
set_option maxRecDepth 100000 in
set_option maxHeartbeats 8000000 in
theorem l_rcp {G : aG} (k len : Nat) (b2 : Int32) (gse0 : Nat → Int32) (hl : len ≤ 256) (hsz : gsz 1 = nI len) (hk : k < 20)
    (hnext : ∀ gse, (∀ j, j < len → gse j = gse0 (256 + j)) → AW 147 G 19 [some (.ref 0), some (.int (nI (k + 1))), some (.int b2), some (.int (nI len))] [] (gH gal gps gst grf gmy gkd glf grt gpr gun gow gem ged gse (upd gsz 0 (nI len)) gtx gtl gsp gmd gop gom gwt gwm gtn gon gsh gtr gbl gbd gwh gfl gfd gfe) 0 0) :
    ∀ (m j : Nat) (gse : Nat → Int32), j + m = len → (∀ i, i < j → gse i = gse0 (256 + i)) → (∀ i, j ≤ i → gse i = gse0 i) →
    AW 147 G 46 [some (.ref 0), some (.int (nI k)), some (.int b2), some (.int (nI j))] [] (gH gal gps gst grf gmy gkd glf grt gpr gun gow gem ged gse gsz gtx gtl gsp gmd gop gom gwt gwm gtn gon gsh gtr gbl gbd gwh gfl gfd gfe) 0 0 := by
  intro m
  induction m with
  | zero =>
    intro j gse hm h1 h2
    have e : j = len := by omega
    subst e
    have hgo := hnext gse h1
    clear hnext
    have t1 : j ≤ j := Nat.le_refl _
    refine wq_aw (S := fun x => x == 19 || x == 46) (by decide) (f := 200) ?_
    simp (disch := first | exact rfl | decide | omega) only [v_147_19, v_147_46, u_147_0, u_147_1, u_147_2, u_147_5, u_147_8, u_147_9, u_147_12, u_147_13, u_147_14, u_147_17, u_147_18, u_147_19, u_147_20, u_147_21, u_147_24, u_147_27, u_147_28, u_147_29, u_147_30, u_147_33, u_147_36, u_147_37, u_147_38, u_147_39, u_147_40, u_147_43, u_147_44, u_147_45, u_147_46, u_147_47, u_147_48, u_147_51, u_147_52, u_147_53, u_147_56, u_147_57, u_147_60, u_147_61, u_147_62, u_147_65, u_147_68, u_147_69, u_147_70, u_147_71, u_147_72, u_147_75, u_147_78, u_147_79, u_147_82, u_147_83, u_147_84, u_147_87, u_147_88, u_147_89, u_147_90, u_147_93, u_147_96, wp_stop, lget, lput1, lput2, kil, hget, hset, vget, vset, fget, fgetC, fput, fputC, iget, igetC, jget, jgetC, qget, qgetC, alen, lenC, oI, oJ, oF, oA, oV, oH, oInc, oIld, oJld, oQld, oR, oLen, oIst, oBst, oJst, oQst, ciOf, rcv, oCp, cat1, cond_true, cond_false, Bool.and_self, Bool.and_true, Bool.true_and, Bool.or_true, Bool.true_or, Bool.or_false, Bool.false_or, Bool.not_false, Bool.not_true, ↓reduceIte, Nat.reduceBEq, Nat.reduceEqDiff, beq_self_eq_true, true_and, and_true, eq_self_iff_true, Nat.reduceAdd, Nat.blt, Nat.ble, z_le, z_lt, z_eq, z_cl, z_add, z_sub, z_mul, z_in, z_lt0, z_ofN, z_m1, z_ltm1, z_m1lt, z_eqm1, z_m1eq, z_m1le, z_lem1, z_beq, nI_0_1, nI_m1lt0, nI_0lem1, not_false_eq_true, not_true_eq_false, forall_const, false_implies, true_implies, implies_true, false_and, and_false, mrg, renc, tra, trv, sg, List.map_cons, List.map_nil, Option.map_some, Option.map_none, Option.toList_some, Option.toList_none, List.cons_append, List.nil_append, List.length_cons, List.length_nil, gH, gO, hsz, t1]
    exact hgo
  | succ m ih =>
    intro j gse hm h1 h2
    have hgo := ih (j + 1) (upd gse j (gse (256 + j))) (by omega) (fun i hi => by
      by_cases q : i = j
      · rw [q, upd_s]
        exact h2 _ (by omega)
      · rw [upd_n q]
        exact h1 i (by omega)) (fun i hi => by
      rw [upd_n (by omega)]
      exact h2 i (by omega))
    clear ih hnext
    have t1 : ¬ len ≤ j := by omega
    have hj : j < 256 := by omega
    refine wq_aw (S := fun x => x == 19 || x == 46) (by decide) (f := 200) ?_
    simp (disch := first | exact rfl | decide | omega) only [v_147_19, v_147_46, u_147_0, u_147_1, u_147_2, u_147_5, u_147_8, u_147_9, u_147_12, u_147_13, u_147_14, u_147_17, u_147_18, u_147_19, u_147_20, u_147_21, u_147_24, u_147_27, u_147_28, u_147_29, u_147_30, u_147_33, u_147_36, u_147_37, u_147_38, u_147_39, u_147_40, u_147_43, u_147_44, u_147_45, u_147_46, u_147_47, u_147_48, u_147_51, u_147_52, u_147_53, u_147_56, u_147_57, u_147_60, u_147_61, u_147_62, u_147_65, u_147_68, u_147_69, u_147_70, u_147_71, u_147_72, u_147_75, u_147_78, u_147_79, u_147_82, u_147_83, u_147_84, u_147_87, u_147_88, u_147_89, u_147_90, u_147_93, u_147_96, wp_stop, lget, lput1, lput2, kil, hget, hset, vget, vset, fget, fgetC, fput, fputC, iget, igetC, jget, jgetC, qget, qgetC, alen, lenC, oI, oJ, oF, oA, oV, oH, oInc, oIld, oJld, oQld, oR, oLen, oIst, oBst, oJst, oQst, ciOf, rcv, oCp, cat1, cond_true, cond_false, Bool.and_self, Bool.and_true, Bool.true_and, Bool.or_true, Bool.true_or, Bool.or_false, Bool.false_or, Bool.not_false, Bool.not_true, ↓reduceIte, Nat.reduceBEq, Nat.reduceEqDiff, beq_self_eq_true, true_and, and_true, eq_self_iff_true, Nat.reduceAdd, Nat.blt, Nat.ble, z_le, z_lt, z_eq, z_cl, z_add, z_sub, z_mul, z_in, z_lt0, z_ofN, z_m1, z_ltm1, z_m1lt, z_eqm1, z_m1eq, z_m1le, z_lem1, z_beq, nI_0_1, nI_m1lt0, nI_0lem1, not_false_eq_true, not_true_eq_false, forall_const, false_implies, true_implies, implies_true, false_and, and_false, mrg, renc, tra, trv, sg, List.map_cons, List.map_nil, Option.map_some, Option.map_none, Option.toList_some, Option.toList_none, List.cons_append, List.nil_append, List.length_cons, List.length_nil, gH, gO, hsz, t1]
    exact hgo
set_option maxRecDepth 100000 in
set_option maxHeartbeats 8000000 in
theorem l_goesRow {G : aG} (o : Nat) (row : List Nat) (p : Int64) (hp : paP gal o p) (hr : rwG gal o row) (hL : pLd (dK p) (dL p) (dN p) gmy gkd glf grt gpr gun gow gem) (hd : 3 ≤ gD G) (ggn : gN G = 21)
    (hret : ∀ ged gse gsz, rpM (dK p) (dL p) (dN p) gse gsz 0 (rowM p 1 row) → RET G none (gH gal gps gst grf gmy gkd glf grt gpr gun gow gem ged gse gsz gtx gtl gsp gmd gop gom gwt gwm gtn gon gsh gtr gbl gbd gwh gfl gfd gfe) 0 0) :
    ∀ (j k m : Nat) (l2 l3 : Option Value) (ged gse gsz : Nat → Int32), k + j = row.length → rowM p m (row.drop k) = rowM p 1 row → rpM (dK p) (dL p) (dN p) gse gsz 0 m → okL 21 nomv [l2, l3] = true →
    AW 147 G 19 [some (.ref 0), some (.int (nI k)), l2, l3] [] (gH gal gps gst grf gmy gkd glf grt gpr gun gow gem ged gse gsz gtx gtl gsp gmd gop gom gwt gwm gtn gon gsh gtr gbl gbd gwh gfl gfd gfe) 0 0 := by
  have hw := dwf hp.1
  obtain ⟨r1, r2, r3, r4, r5, r6⟩ := hr
  intro j
  induction j with
  | zero =>
    intro k m l2 l3 ged gse gsz hk hm hM hok
    have e : k = row.length := by omega
    subst e
    rw [List.drop_length] at hm
    have em : m = rowM p 1 row := hm
    rw [em] at hM
    have hf := hret ged gse gsz hM
    clear hret
    have hrl := g_rowLong gal gps gst grf gmy gkd glf grt gpr gun gow gem ged gse gsz gtx gtl gsp gmd gop gom gwt gwm gtn gon gsh gtr gbl gbd gwh gfl gfd gfe 0
    rw [r4] at hrl
    have t1 : row.length ≤ row.length := Nat.le_refl _
    generalize row.length = len at *
    refine wq_aw (S := fun x => x == 19) (by decide) (f := 200) ?_
    simp (disch := first | exact rfl | decide | omega) only [v_147_19, v_147_46, u_147_0, u_147_1, u_147_2, u_147_5, u_147_8, u_147_9, u_147_12, u_147_13, u_147_14, u_147_17, u_147_18, u_147_19, u_147_20, u_147_21, u_147_24, u_147_27, u_147_28, u_147_29, u_147_30, u_147_33, u_147_36, u_147_37, u_147_38, u_147_39, u_147_40, u_147_43, u_147_44, u_147_45, u_147_46, u_147_47, u_147_48, u_147_51, u_147_52, u_147_53, u_147_56, u_147_57, u_147_60, u_147_61, u_147_62, u_147_65, u_147_68, u_147_69, u_147_70, u_147_71, u_147_72, u_147_75, u_147_78, u_147_79, u_147_82, u_147_83, u_147_84, u_147_87, u_147_88, u_147_89, u_147_90, u_147_93, u_147_96, wp_stop, lget, lput1, lput2, kil, hget, hset, vget, vset, fget, fgetC, fput, fputC, iget, igetC, jget, jgetC, qget, qgetC, alen, lenC, oI, oJ, oF, oA, oV, oH, oInc, oIld, oJld, oQld, oR, oLen, oIst, oBst, oJst, oQst, ciOf, rcv, oCp, cat1, cond_true, cond_false, Bool.and_self, Bool.and_true, Bool.true_and, Bool.or_true, Bool.true_or, Bool.or_false, Bool.false_or, Bool.not_false, Bool.not_true, ↓reduceIte, Nat.reduceBEq, Nat.reduceEqDiff, beq_self_eq_true, true_and, and_true, eq_self_iff_true, Nat.reduceAdd, Nat.blt, Nat.ble, z_le, z_lt, z_eq, z_cl, z_add, z_sub, z_mul, z_in, z_lt0, z_ofN, z_m1, z_ltm1, z_m1lt, z_eqm1, z_m1eq, z_m1le, z_lem1, z_beq, nI_0_1, nI_m1lt0, nI_0lem1, not_false_eq_true, not_true_eq_false, forall_const, false_implies, true_implies, implies_true, false_and, and_false, mrg, renc, tra, trv, sg, List.map_cons, List.map_nil, Option.map_some, Option.map_none, Option.toList_some, Option.toList_none, List.cons_append, List.nil_append, List.length_cons, List.length_nil, gH, gO]
    refine CAL.dir hrl (by omega) (Nat.zero_le _) (Nat.zero_le _) (Nat.le_of_ble_eq_true rfl) (by rw [ggn]; exact Nat.le_of_ble_eq_true rfl) hok rfl ?_
    rintro _ _ ⟨rfl, rfl⟩
    simp (disch := first | exact rfl | decide | omega) only [u_147_0, u_147_1, u_147_2, u_147_5, u_147_8, u_147_9, u_147_12, u_147_13, u_147_14, u_147_17, u_147_18, u_147_19, u_147_20, u_147_21, u_147_24, u_147_27, u_147_28, u_147_29, u_147_30, u_147_33, u_147_36, u_147_37, u_147_38, u_147_39, u_147_40, u_147_43, u_147_44, u_147_45, u_147_46, u_147_47, u_147_48, u_147_51, u_147_52, u_147_53, u_147_56, u_147_57, u_147_60, u_147_61, u_147_62, u_147_65, u_147_68, u_147_69, u_147_70, u_147_71, u_147_72, u_147_75, u_147_78, u_147_79, u_147_82, u_147_83, u_147_84, u_147_87, u_147_88, u_147_89, u_147_90, u_147_93, u_147_96, wp_stop, lget, lput1, lput2, kil, hget, hset, vget, vset, fget, fgetC, fput, fputC, iget, igetC, jget, jgetC, qget, qgetC, alen, lenC, oI, oJ, oF, oA, oV, oH, oInc, oIld, oJld, oQld, oR, oLen, oIst, oBst, oJst, oQst, ciOf, rcv, oCp, cat1, cond_true, cond_false, Bool.and_self, Bool.and_true, Bool.true_and, Bool.or_true, Bool.true_or, Bool.or_false, Bool.false_or, Bool.not_false, Bool.not_true, ↓reduceIte, Nat.reduceBEq, Nat.reduceEqDiff, beq_self_eq_true, true_and, and_true, eq_self_iff_true, Nat.reduceAdd, Nat.blt, Nat.ble, z_le, z_lt, z_eq, z_cl, z_add, z_sub, z_mul, z_in, z_lt0, z_ofN, z_m1, z_ltm1, z_m1lt, z_eqm1, z_m1eq, z_m1le, z_lem1, z_beq, nI_0_1, nI_m1lt0, nI_0lem1, not_false_eq_true, not_true_eq_false, forall_const, false_implies, true_implies, implies_true, false_and, and_false, mrg, renc, tra, trv, sg, List.map_cons, List.map_nil, Option.map_some, Option.map_none, Option.toList_some, Option.toList_none, List.cons_append, List.nil_append, List.length_cons, List.length_nil, gH, gO, t1]
    exact hf
  | succ j ih =>
    intro k m l2 l3 ged gse gsz hk hm hM hok
    have hkl : k < row.length := by omega
    have hx := List.getElem?_eq_getElem hkl
    have hx8 := r5 _ (List.getElem_mem hkl)
    have hg := r6 k _ hx
    have hdr : row.drop k = row[k] :: row.drop (k + 1) := List.drop_eq_getElem_cons hkl
    rw [hdr] at hm
    generalize row[k] = x at *
    have hm2 : rowM p (dltM (gmP (dK p) (dL p) (dN p)) x m) (row.drop (k + 1)) = rowM p 1 row := hm
    have hgo := fun l2 l3 ged gse gsz q ok => ih (k + 1) _ l2 l3 ged gse gsz (by omega) hm2 q ok
    clear ih hret
    have hrl := g_rowLong gal gps gst grf gmy gkd glf grt gpr gun gow gem ged gse gsz gtx gtl gsp gmd gop gom gwt gwm gtn gon gsh gtr gbl gbd gwh gfl gfd gfe 0
    rw [r4] at hrl
    have hcall := g_goM gal gps gst grf gmy gkd glf grt gpr gun gow gem ged gse gsz gtx gtl gsp gmd gop gom gwt gwm gtn gon gsh gtr gbl gbd gwh gfl gfd gfe 0 (dN p) 0 1 x m (dK p) (dL p) hw hL (by omega) (by omega) (by omega) hx8 hM
    have t1 : ¬ row.length ≤ k := by omega
    have hk20 : k < 20 := by omega
    clear hm hm2 hx hdr
    generalize row.length = len at *
    refine wq_aw (S := fun x => x == 19 || x == 46) (by decide) (f := 200) ?_
    simp (disch := first | exact rfl | decide | omega) only [v_147_19, v_147_46, u_147_0, u_147_1, u_147_2, u_147_5, u_147_8, u_147_9, u_147_12, u_147_13, u_147_14, u_147_17, u_147_18, u_147_19, u_147_20, u_147_21, u_147_24, u_147_27, u_147_28, u_147_29, u_147_30, u_147_33, u_147_36, u_147_37, u_147_38, u_147_39, u_147_40, u_147_43, u_147_44, u_147_45, u_147_46, u_147_47, u_147_48, u_147_51, u_147_52, u_147_53, u_147_56, u_147_57, u_147_60, u_147_61, u_147_62, u_147_65, u_147_68, u_147_69, u_147_70, u_147_71, u_147_72, u_147_75, u_147_78, u_147_79, u_147_82, u_147_83, u_147_84, u_147_87, u_147_88, u_147_89, u_147_90, u_147_93, u_147_96, wp_stop, lget, lput1, lput2, kil, hget, hset, vget, vset, fget, fgetC, fput, fputC, iget, igetC, jget, jgetC, qget, qgetC, alen, lenC, oI, oJ, oF, oA, oV, oH, oInc, oIld, oJld, oQld, oR, oLen, oIst, oBst, oJst, oQst, ciOf, rcv, oCp, cat1, cond_true, cond_false, Bool.and_self, Bool.and_true, Bool.true_and, Bool.or_true, Bool.true_or, Bool.or_false, Bool.false_or, Bool.not_false, Bool.not_true, ↓reduceIte, Nat.reduceBEq, Nat.reduceEqDiff, beq_self_eq_true, true_and, and_true, eq_self_iff_true, Nat.reduceAdd, Nat.blt, Nat.ble, z_le, z_lt, z_eq, z_cl, z_add, z_sub, z_mul, z_in, z_lt0, z_ofN, z_m1, z_ltm1, z_m1lt, z_eqm1, z_m1eq, z_m1le, z_lem1, z_beq, nI_0_1, nI_m1lt0, nI_0lem1, not_false_eq_true, not_true_eq_false, forall_const, false_implies, true_implies, implies_true, false_and, and_false, mrg, renc, tra, trv, sg, List.map_cons, List.map_nil, Option.map_some, Option.map_none, Option.toList_some, Option.toList_none, List.cons_append, List.nil_append, List.length_cons, List.length_nil, gH, gO]
    refine CAL.dir hrl (by omega) (Nat.zero_le _) (Nat.zero_le _) (Nat.le_of_ble_eq_true rfl) (by rw [ggn]; exact Nat.le_of_ble_eq_true rfl) hok rfl ?_
    rintro _ _ ⟨rfl, rfl⟩
    simp (disch := first | exact rfl | decide | omega) only [u_147_0, u_147_1, u_147_2, u_147_5, u_147_8, u_147_9, u_147_12, u_147_13, u_147_14, u_147_17, u_147_18, u_147_19, u_147_20, u_147_21, u_147_24, u_147_27, u_147_28, u_147_29, u_147_30, u_147_33, u_147_36, u_147_37, u_147_38, u_147_39, u_147_40, u_147_43, u_147_44, u_147_45, u_147_46, u_147_47, u_147_48, u_147_51, u_147_52, u_147_53, u_147_56, u_147_57, u_147_60, u_147_61, u_147_62, u_147_65, u_147_68, u_147_69, u_147_70, u_147_71, u_147_72, u_147_75, u_147_78, u_147_79, u_147_82, u_147_83, u_147_84, u_147_87, u_147_88, u_147_89, u_147_90, u_147_93, u_147_96, wp_stop, lget, lput1, lput2, kil, hget, hset, vget, vset, fget, fgetC, fput, fputC, iget, igetC, jget, jgetC, qget, qgetC, alen, lenC, oI, oJ, oF, oA, oV, oH, oInc, oIld, oJld, oQld, oR, oLen, oIst, oBst, oJst, oQst, ciOf, rcv, oCp, cat1, cond_true, cond_false, Bool.and_self, Bool.and_true, Bool.true_and, Bool.or_true, Bool.true_or, Bool.or_false, Bool.false_or, Bool.not_false, Bool.not_true, ↓reduceIte, Nat.reduceBEq, Nat.reduceEqDiff, beq_self_eq_true, true_and, and_true, eq_self_iff_true, Nat.reduceAdd, Nat.blt, Nat.ble, z_le, z_lt, z_eq, z_cl, z_add, z_sub, z_mul, z_in, z_lt0, z_ofN, z_m1, z_ltm1, z_m1lt, z_eqm1, z_m1eq, z_m1le, z_lem1, z_beq, nI_0_1, nI_m1lt0, nI_0lem1, not_false_eq_true, not_true_eq_false, forall_const, false_implies, true_implies, implies_true, false_and, and_false, mrg, renc, tra, trv, sg, List.map_cons, List.map_nil, Option.map_some, Option.map_none, Option.toList_some, Option.toList_none, List.cons_append, List.nil_append, List.length_cons, List.length_nil, gH, gO, t1, hg]
    refine CAL.dir hcall (by omega) (Nat.zero_le _) (Nat.zero_le _) (Nat.le_of_ble_eq_true rfl) (by rw [ggn]; exact Nat.le_of_ble_eq_true rfl) hok rfl ?_
    rintro _ _ ⟨ged', gse', gsz', rfl, rfl, q2, q3⟩
    obtain ⟨ln, ln1, ln2⟩ := rpM_sz q2
    generalize bN (!(dltM (gmP (dK p) (dL p) (dN p)) x m == 0)) = b2 at *
    have hb2 : (b2 == nI 0 || b2 == nI 1) = true ∨ True := Or.inr trivial
    have hin := l_rcp gal gps gst grf gmy gkd glf grt gpr gun gow gem ged' gsz' gtx gtl gsp gmd gop gom gwt gwm gtn gon gsh gtr gbl gbd gwh gfl gfd gfe k ln b2 gse' ln1 ln2 hk20 (fun gse2 h2 => hgo _ _ ged' gse2 (upd gsz' 0 (nI ln)) (rpM_cp (a := 0) (b := 1) q2 ln2 ln1 upd_s (fun j hj => by
      rw [Nat.mul_zero, Nat.zero_add, h2 j hj]) ) rfl) ln 0 gse' (by omega) (fun i hi => absurd hi (Nat.not_lt_zero i)) (fun i _ => rfl)
    clear hgo
    simp (disch := first | exact rfl | decide | omega) only [u_147_0, u_147_1, u_147_2, u_147_5, u_147_8, u_147_9, u_147_12, u_147_13, u_147_14, u_147_17, u_147_18, u_147_19, u_147_20, u_147_21, u_147_24, u_147_27, u_147_28, u_147_29, u_147_30, u_147_33, u_147_36, u_147_37, u_147_38, u_147_39, u_147_40, u_147_43, u_147_44, u_147_45, u_147_46, u_147_47, u_147_48, u_147_51, u_147_52, u_147_53, u_147_56, u_147_57, u_147_60, u_147_61, u_147_62, u_147_65, u_147_68, u_147_69, u_147_70, u_147_71, u_147_72, u_147_75, u_147_78, u_147_79, u_147_82, u_147_83, u_147_84, u_147_87, u_147_88, u_147_89, u_147_90, u_147_93, u_147_96, wp_stop, lget, lput1, lput2, kil, hget, hset, vget, vset, fget, fgetC, fput, fputC, iget, igetC, jget, jgetC, qget, qgetC, alen, lenC, oI, oJ, oF, oA, oV, oH, oInc, oIld, oJld, oQld, oR, oLen, oIst, oBst, oJst, oQst, ciOf, rcv, oCp, cat1, cond_true, cond_false, Bool.and_self, Bool.and_true, Bool.true_and, Bool.or_true, Bool.true_or, Bool.or_false, Bool.false_or, Bool.not_false, Bool.not_true, ↓reduceIte, Nat.reduceBEq, Nat.reduceEqDiff, beq_self_eq_true, true_and, and_true, eq_self_iff_true, Nat.reduceAdd, Nat.blt, Nat.ble, z_le, z_lt, z_eq, z_cl, z_add, z_sub, z_mul, z_in, z_lt0, z_ofN, z_m1, z_ltm1, z_m1lt, z_eqm1, z_m1eq, z_m1le, z_lem1, z_beq, nI_0_1, nI_m1lt0, nI_0lem1, not_false_eq_true, not_true_eq_false, forall_const, false_implies, true_implies, implies_true, false_and, and_false, mrg, renc, tra, trv, sg, List.map_cons, List.map_nil, Option.map_some, Option.map_none, Option.toList_some, Option.toList_none, List.cons_append, List.nil_append, List.length_cons, List.length_nil, gH, gO]
    exact hin
set_option maxRecDepth 100000 in
theorem g_goesRow (d o : Nat) (row : List Nat) (p : Int64) (hp : paP gal o p) (hr : rwG gal o row) : aSp (d + 3) 147 [.ref 0] (gH gal gps gst grf gmy gkd glf grt gpr gun gow gem ged gse gsz gtx gtl gsp gmd gop gom gwt gwm gtn gon gsh gtr gbl gbd gwh gfl gfd gfe) nomv 0 0 (fun r h' => r = none ∧ ∃ gmy gkd glf grt gpr gun gow gem ged gse gsz, h' = (gH gal gps gst grf gmy gkd glf grt gpr gun gow gem ged gse gsz gtx gtl gsp gmd gop gom gwt gwm gtn gon gsh gtr gbl gbd gwh gfl gfd gfe) ∧ pLd (dK p) (dL p) (dN p) gmy gkd glf grt gpr gun gow gem ∧ rpM (dK p) (dL p) (dN p) gse gsz 0 (rowM p 1 row)) := by
  have hw := dwf hp.1
  have hld := g_loads gal gps gst grf gmy gkd glf grt gpr gun gow gem ged gse gsz gtx gtl gsp gmd gop gom gwt gwm gtn gon gsh gtr gbl gbd gwh gfl gfd gfe 0 o (dN p) hr.1 (dK p) (dL p) hw hp.2
  refine sp_of (by decide) (Nat.le_of_ble_eq_true rfl) ?_
  generalize hG : ((d + 3, _, nomv, _, _, _) : aG) = G
  have ggd : gD G = d + 3 := by subst hG; rfl
  have ggn : gN G = 21 := by subst hG; rfl
  have ggm : gM G = nomv := by subst hG; rfl
  have ggc : gC G = 0 := by subst hG; rfl
  have ggs : gS G = 0 := by subst hG; rfl
  have hret : ∀ gmy gkd glf grt gpr gun gow gem, pLd (dK p) (dL p) (dN p) gmy gkd glf grt gpr gun gow gem → ∀ ged gse gsz, rpM (dK p) (dL p) (dN p) gse gsz 0 (rowM p 1 row) → RET G none (gH gal gps gst grf gmy gkd glf grt gpr gun gow gem ged gse gsz gtx gtl gsp gmd gop gom gwt gwm gtn gon gsh gtr gbl gbd gwh gfl gfd gfe) 0 0 := by
    subst hG
    intro gmy gkd glf grt gpr gun gow gem q1 ged gse gsz q2
    exact RET.id ⟨rfl, gmy, gkd, glf, grt, gpr, gun, gow, gem, ged, gse, gsz, rfl, q1, q2⟩ (Nat.le_refl _) (Nat.le_refl _)
  clear hG
  have hd4 : 3 ≤ gD G := by rw [ggd]; omega
  have r3 := hr.2.2.1
  refine wp_aw (S := fun x => x == 19) (by decide) 200 _ _ _ _ _ _ ?_
  simp (disch := first | exact rfl | decide | omega) only [u_147_0, u_147_1, u_147_2, u_147_5, u_147_8, u_147_9, u_147_12, u_147_13, u_147_14, u_147_17, u_147_18, u_147_19, u_147_20, u_147_21, u_147_24, u_147_27, u_147_28, u_147_29, u_147_30, u_147_33, u_147_36, u_147_37, u_147_38, u_147_39, u_147_40, u_147_43, u_147_44, u_147_45, u_147_46, u_147_47, u_147_48, u_147_51, u_147_52, u_147_53, u_147_56, u_147_57, u_147_60, u_147_61, u_147_62, u_147_65, u_147_68, u_147_69, u_147_70, u_147_71, u_147_72, u_147_75, u_147_78, u_147_79, u_147_82, u_147_83, u_147_84, u_147_87, u_147_88, u_147_89, u_147_90, u_147_93, u_147_96, wp_stop, lget, lput1, lput2, kil, hget, hset, vget, vset, fget, fgetC, fput, fputC, iget, igetC, jget, jgetC, qget, qgetC, alen, lenC, oI, oJ, oF, oA, oV, oH, oInc, oIld, oJld, oQld, oR, oLen, oIst, oBst, oJst, oQst, ciOf, rcv, oCp, cat1, cond_true, cond_false, Bool.and_self, Bool.and_true, Bool.true_and, Bool.or_true, Bool.true_or, Bool.or_false, Bool.false_or, Bool.not_false, Bool.not_true, ↓reduceIte, Nat.reduceBEq, Nat.reduceEqDiff, beq_self_eq_true, true_and, and_true, eq_self_iff_true, Nat.reduceAdd, Nat.blt, Nat.ble, z_le, z_lt, z_eq, z_cl, z_add, z_sub, z_mul, z_in, z_lt0, z_ofN, z_m1, z_ltm1, z_m1lt, z_eqm1, z_m1eq, z_m1le, z_lem1, z_beq, nI_0_1, nI_m1lt0, nI_0lem1, not_false_eq_true, not_true_eq_false, forall_const, false_implies, true_implies, implies_true, false_and, and_false, mrg, renc, tra, trv, sg, List.map_cons, List.map_nil, Option.map_some, Option.map_none, Option.toList_some, Option.toList_none, List.cons_append, List.nil_append, List.length_cons, List.length_nil, eL, mL_147, gH, gO, r3]
  refine CAL.dir hld (by omega) (Nat.zero_le _) (Nat.zero_le _) (Nat.le_of_ble_eq_true rfl) (by rw [ggn]; exact Nat.le_of_ble_eq_true rfl) rfl rfl ?_
  rintro _ _ ⟨rfl, gmy, gkd, glf, grt, gpr, gun, gow, gem, rfl, hL⟩
  have hst := g_starts gal gps gst grf gmy gkd glf grt gpr gun gow gem ged gse gsz gtx gtl gsp gmd gop gom gwt gwm gtn gon gsh gtr gbl gbd gwh gfl gfd gfe 0 0 (by decide)
  simp (disch := first | exact rfl | decide | omega) only [u_147_0, u_147_1, u_147_2, u_147_5, u_147_8, u_147_9, u_147_12, u_147_13, u_147_14, u_147_17, u_147_18, u_147_19, u_147_20, u_147_21, u_147_24, u_147_27, u_147_28, u_147_29, u_147_30, u_147_33, u_147_36, u_147_37, u_147_38, u_147_39, u_147_40, u_147_43, u_147_44, u_147_45, u_147_46, u_147_47, u_147_48, u_147_51, u_147_52, u_147_53, u_147_56, u_147_57, u_147_60, u_147_61, u_147_62, u_147_65, u_147_68, u_147_69, u_147_70, u_147_71, u_147_72, u_147_75, u_147_78, u_147_79, u_147_82, u_147_83, u_147_84, u_147_87, u_147_88, u_147_89, u_147_90, u_147_93, u_147_96, wp_stop, lget, lput1, lput2, kil, hget, hset, vget, vset, fget, fgetC, fput, fputC, iget, igetC, jget, jgetC, qget, qgetC, alen, lenC, oI, oJ, oF, oA, oV, oH, oInc, oIld, oJld, oQld, oR, oLen, oIst, oBst, oJst, oQst, ciOf, rcv, oCp, cat1, cond_true, cond_false, Bool.and_self, Bool.and_true, Bool.true_and, Bool.or_true, Bool.true_or, Bool.or_false, Bool.false_or, Bool.not_false, Bool.not_true, ↓reduceIte, Nat.reduceBEq, Nat.reduceEqDiff, beq_self_eq_true, true_and, and_true, eq_self_iff_true, Nat.reduceAdd, Nat.blt, Nat.ble, z_le, z_lt, z_eq, z_cl, z_add, z_sub, z_mul, z_in, z_lt0, z_ofN, z_m1, z_ltm1, z_m1lt, z_eqm1, z_m1eq, z_m1le, z_lem1, z_beq, nI_0_1, nI_m1lt0, nI_0lem1, not_false_eq_true, not_true_eq_false, forall_const, false_implies, true_implies, implies_true, false_and, and_false, mrg, renc, tra, trv, sg, List.map_cons, List.map_nil, Option.map_some, Option.map_none, Option.toList_some, Option.toList_none, List.cons_append, List.nil_append, List.length_cons, List.length_nil, gH, gO]
  refine CAL.dir hst (by omega) (Nat.zero_le _) (Nat.zero_le _) (Nat.le_of_ble_eq_true rfl) (by rw [ggn]; exact Nat.le_of_ble_eq_true rfl) rfl rfl ?_
  rintro _ _ ⟨rfl, rfl⟩
  have hgo := l_goesRow gal gps gst grf gmy gkd glf grt gpr gun gow gem gtx gtl gsp gmd gop gom gwt gwm gtn gon gsh gtr gbl gbd gwh gfl gfd gfe o row p hp hr hL hd4 ggn (hret gmy gkd glf grt gpr gun gow gem hL) row.length 0 1 none none ged (upd gse (256 * 0) (nI 0)) (upd gsz 0 (nI 1)) (by omega) rfl (rpM_1 hw upd_s upd_s) rfl
  clear hret
  simp (disch := first | exact rfl | decide | omega) only [u_147_0, u_147_1, u_147_2, u_147_5, u_147_8, u_147_9, u_147_12, u_147_13, u_147_14, u_147_17, u_147_18, u_147_19, u_147_20, u_147_21, u_147_24, u_147_27, u_147_28, u_147_29, u_147_30, u_147_33, u_147_36, u_147_37, u_147_38, u_147_39, u_147_40, u_147_43, u_147_44, u_147_45, u_147_46, u_147_47, u_147_48, u_147_51, u_147_52, u_147_53, u_147_56, u_147_57, u_147_60, u_147_61, u_147_62, u_147_65, u_147_68, u_147_69, u_147_70, u_147_71, u_147_72, u_147_75, u_147_78, u_147_79, u_147_82, u_147_83, u_147_84, u_147_87, u_147_88, u_147_89, u_147_90, u_147_93, u_147_96, wp_stop, lget, lput1, lput2, kil, hget, hset, vget, vset, fget, fgetC, fput, fputC, iget, igetC, jget, jgetC, qget, qgetC, alen, lenC, oI, oJ, oF, oA, oV, oH, oInc, oIld, oJld, oQld, oR, oLen, oIst, oBst, oJst, oQst, ciOf, rcv, oCp, cat1, cond_true, cond_false, Bool.and_self, Bool.and_true, Bool.true_and, Bool.or_true, Bool.true_or, Bool.or_false, Bool.false_or, Bool.not_false, Bool.not_true, ↓reduceIte, Nat.reduceBEq, Nat.reduceEqDiff, beq_self_eq_true, true_and, and_true, eq_self_iff_true, Nat.reduceAdd, Nat.blt, Nat.ble, z_le, z_lt, z_eq, z_cl, z_add, z_sub, z_mul, z_in, z_lt0, z_ofN, z_m1, z_ltm1, z_m1lt, z_eqm1, z_m1eq, z_m1le, z_lem1, z_beq, nI_0_1, nI_m1lt0, nI_0lem1, not_false_eq_true, not_true_eq_false, forall_const, false_implies, true_implies, implies_true, false_and, and_false, mrg, renc, tra, trv, sg, List.map_cons, List.map_nil, Option.map_some, Option.map_none, Option.toList_some, Option.toList_none, List.cons_append, List.nil_append, List.length_cons, List.length_nil, gH, gO]
  exact hgo
set_option maxRecDepth 100000 in
set_option maxHeartbeats 8000000 in
theorem g_nowOf (d o w : Nat) (hw4 : w < 4) (row : List Nat) (p : Int64) (hp : paP gal o p) (hr : rwG gal o row) : aSp (d + 4) 151 [.ref 0, .int (nI w)] (gH gal gps gst grf gmy gkd glf grt gpr gun gow gem ged gse gsz gtx gtl gsp gmd gop gom gwt gwm gtn gon gsh gtr gbl gbd gwh gfl gfd gfe) nomv 0 0 (fun r h' => r = some (.int (orA p o row w)) ∧ gHx gal gps gst grf gtx gtl h') := by
  have hw := dwf hp.1
  have hgr := g_goesRow gal gps gst grf gmy gkd glf grt gpr gun gow gem ged gse gsz gtx gtl gsp gmd gop gom gwt gwm gtn gon gsh gtr gbl gbd gwh gfl gfd gfe 0 o row p hp hr
  refine sp_of (by decide) (Nat.le_of_ble_eq_true rfl) ?_
  generalize hG : ((d + 4, _, nomv, _, _, _) : aG) = G
  have ggd : gD G = d + 4 := by subst hG; rfl
  have ggn : gN G = 21 := by subst hG; rfl
  have ggm : gM G = nomv := by subst hG; rfl
  have ggc : gC G = 0 := by subst hG; rfl
  have ggs : gS G = 0 := by subst hG; rfl
  have hret : ∀ h', gHx gal gps gst grf gtx gtl h' → RET G (some (.int (orA p o row w))) h' 0 0 := by
    subst hG
    intro h' q
    exact RET.id ⟨rfl, q⟩ (Nat.le_refl _) (Nat.le_refl _)
  clear hG
  have hd4 : 4 ≤ gD G := by rw [ggd]; omega
  refine wp_aw (S := fun _ => false) (by decide) 200 _ _ _ _ _ _ ?_
  simp (disch := first | exact rfl | decide | omega) only [u_151_0, u_151_1, u_151_4, u_151_5, u_151_8, u_151_9, u_151_10, u_151_13, u_151_16, u_151_17, u_151_18, u_151_21, u_151_22, u_151_23, u_151_26, u_151_29, u_151_30, u_151_33, u_151_34, u_151_37, u_151_38, u_151_39, u_151_42, u_151_43, u_151_46, u_151_49, u_151_50, u_151_53, u_151_56, u_151_57, wp_stop, lget, lput1, lput2, kil, hget, hset, vget, vset, fget, fgetC, fput, fputC, iget, igetC, jget, jgetC, qget, qgetC, alen, lenC, oI, oJ, oF, oA, oV, oH, oInc, oIld, oJld, oQld, oR, oLen, oIst, oBst, oJst, oQst, ciOf, rcv, oCp, cat1, cond_true, cond_false, Bool.and_self, Bool.and_true, Bool.true_and, Bool.or_true, Bool.true_or, Bool.or_false, Bool.false_or, Bool.not_false, Bool.not_true, ↓reduceIte, Nat.reduceBEq, Nat.reduceEqDiff, beq_self_eq_true, true_and, and_true, eq_self_iff_true, Nat.reduceAdd, Nat.blt, Nat.ble, z_le, z_lt, z_eq, z_cl, z_add, z_sub, z_mul, z_in, z_lt0, z_ofN, z_m1, z_ltm1, z_m1lt, z_eqm1, z_m1eq, z_m1le, z_lem1, z_beq, nI_0_1, nI_m1lt0, nI_0lem1, not_false_eq_true, not_true_eq_false, forall_const, false_implies, true_implies, implies_true, false_and, and_false, mrg, renc, tra, trv, sg, List.map_cons, List.map_nil, Option.map_some, Option.map_none, Option.toList_some, Option.toList_none, List.cons_append, List.nil_append, List.length_cons, List.length_nil, eL, mL_151, gH, gO]
  refine CAL.dir hgr (by omega) (Nat.zero_le _) (Nat.zero_le _) (Nat.le_of_ble_eq_true rfl) (by rw [ggn]; exact Nat.le_of_ble_eq_true rfl) rfl rfl ?_
  rintro _ _ ⟨rfl, gmy, gkd, glf, grt, gpr, gun, gow, gem, ged, gse, gsz, rfl, hL, hM⟩
  have h4 : w = 0 ∨ w = 1 ∨ w = 2 ∨ w = 3 := by omega
  rcases h4 with e | e | e | e
  · subst e
    have hdu := g_due gal gps gst grf gmy gkd glf grt gpr gun gow gem ged gse gsz gtx gtl gsp gmd gop gom gwt gwm gtn gon gsh gtr gbl gbd gwh gfl gfd gfe 0 (dN p) 0 (rowM p 1 row) (dK p) (dL p) hw hL (by decide) hM
    simp (disch := first | exact rfl | decide | omega) only [u_151_0, u_151_1, u_151_4, u_151_5, u_151_8, u_151_9, u_151_10, u_151_13, u_151_16, u_151_17, u_151_18, u_151_21, u_151_22, u_151_23, u_151_26, u_151_29, u_151_30, u_151_33, u_151_34, u_151_37, u_151_38, u_151_39, u_151_42, u_151_43, u_151_46, u_151_49, u_151_50, u_151_53, u_151_56, u_151_57, wp_stop, lget, lput1, lput2, kil, hget, hset, vget, vset, fget, fgetC, fput, fputC, iget, igetC, jget, jgetC, qget, qgetC, alen, lenC, oI, oJ, oF, oA, oV, oH, oInc, oIld, oJld, oQld, oR, oLen, oIst, oBst, oJst, oQst, ciOf, rcv, oCp, cat1, cond_true, cond_false, Bool.and_self, Bool.and_true, Bool.true_and, Bool.or_true, Bool.true_or, Bool.or_false, Bool.false_or, Bool.not_false, Bool.not_true, ↓reduceIte, Nat.reduceBEq, Nat.reduceEqDiff, beq_self_eq_true, true_and, and_true, eq_self_iff_true, Nat.reduceAdd, Nat.blt, Nat.ble, z_le, z_lt, z_eq, z_cl, z_add, z_sub, z_mul, z_in, z_lt0, z_ofN, z_m1, z_ltm1, z_m1lt, z_eqm1, z_m1eq, z_m1le, z_lem1, z_beq, nI_0_1, nI_m1lt0, nI_0lem1, not_false_eq_true, not_true_eq_false, forall_const, false_implies, true_implies, implies_true, false_and, and_false, mrg, renc, tra, trv, sg, List.map_cons, List.map_nil, Option.map_some, Option.map_none, Option.toList_some, Option.toList_none, List.cons_append, List.nil_append, List.length_cons, List.length_nil, gH, gO]
    refine CAL.dir hdu (by omega) (Nat.zero_le _) (Nat.zero_le _) (Nat.le_of_ble_eq_true rfl) (by rw [ggn]; exact Nat.le_of_ble_eq_true rfl) rfl rfl ?_
    rintro _ _ ⟨rfl, ged', gse', gsz', rfl, -⟩
    have hf := hret _ (gHx_i gal gps gst grf gmy gkd glf grt gpr gun gow gem ged' gse' gsz' gtx gtl gsp gmd gop gom gwt gwm gtn gon gsh gtr gbl gbd gwh gfl gfd gfe)
    have ho : orA p o row 0 = nI (trM (tP (dK p) (dL p) (dN p)) (rowM p 1 row) &&& 255) := rfl
    rw [ho] at hf
    clear hret
    generalize trM (tP (dK p) (dL p) (dN p)) (rowM p 1 row) &&& 255 = v at *
    simp (disch := first | exact rfl | decide | omega) only [u_151_0, u_151_1, u_151_4, u_151_5, u_151_8, u_151_9, u_151_10, u_151_13, u_151_16, u_151_17, u_151_18, u_151_21, u_151_22, u_151_23, u_151_26, u_151_29, u_151_30, u_151_33, u_151_34, u_151_37, u_151_38, u_151_39, u_151_42, u_151_43, u_151_46, u_151_49, u_151_50, u_151_53, u_151_56, u_151_57, wp_stop, lget, lput1, lput2, kil, hget, hset, vget, vset, fget, fgetC, fput, fputC, iget, igetC, jget, jgetC, qget, qgetC, alen, lenC, oI, oJ, oF, oA, oV, oH, oInc, oIld, oJld, oQld, oR, oLen, oIst, oBst, oJst, oQst, ciOf, rcv, oCp, cat1, cond_true, cond_false, Bool.and_self, Bool.and_true, Bool.true_and, Bool.or_true, Bool.true_or, Bool.or_false, Bool.false_or, Bool.not_false, Bool.not_true, ↓reduceIte, Nat.reduceBEq, Nat.reduceEqDiff, beq_self_eq_true, true_and, and_true, eq_self_iff_true, Nat.reduceAdd, Nat.blt, Nat.ble, z_le, z_lt, z_eq, z_cl, z_add, z_sub, z_mul, z_in, z_lt0, z_ofN, z_m1, z_ltm1, z_m1lt, z_eqm1, z_m1eq, z_m1le, z_lem1, z_beq, nI_0_1, nI_m1lt0, nI_0lem1, not_false_eq_true, not_true_eq_false, forall_const, false_implies, true_implies, implies_true, false_and, and_false, mrg, renc, tra, trv, sg, List.map_cons, List.map_nil, Option.map_some, Option.map_none, Option.toList_some, Option.toList_none, List.cons_append, List.nil_append, List.length_cons, List.length_nil, gH, gO]
    exact hf
  · subst e
    have hme := g_mayEnd gal gps gst grf gmy gkd glf grt gpr gun gow gem ged gse gsz gtx gtl gsp gmd gop gom gwt gwm gtn gon gsh gtr gbl gbd gwh gfl gfd gfe 0 (dN p) 0 (rowM p 1 row) (dK p) (dL p) hw hL (by decide) hM
    simp (disch := first | exact rfl | decide | omega) only [u_151_0, u_151_1, u_151_4, u_151_5, u_151_8, u_151_9, u_151_10, u_151_13, u_151_16, u_151_17, u_151_18, u_151_21, u_151_22, u_151_23, u_151_26, u_151_29, u_151_30, u_151_33, u_151_34, u_151_37, u_151_38, u_151_39, u_151_42, u_151_43, u_151_46, u_151_49, u_151_50, u_151_53, u_151_56, u_151_57, wp_stop, lget, lput1, lput2, kil, hget, hset, vget, vset, fget, fgetC, fput, fputC, iget, igetC, jget, jgetC, qget, qgetC, alen, lenC, oI, oJ, oF, oA, oV, oH, oInc, oIld, oJld, oQld, oR, oLen, oIst, oBst, oJst, oQst, ciOf, rcv, oCp, cat1, cond_true, cond_false, Bool.and_self, Bool.and_true, Bool.true_and, Bool.or_true, Bool.true_or, Bool.or_false, Bool.false_or, Bool.not_false, Bool.not_true, ↓reduceIte, Nat.reduceBEq, Nat.reduceEqDiff, beq_self_eq_true, true_and, and_true, eq_self_iff_true, Nat.reduceAdd, Nat.blt, Nat.ble, z_le, z_lt, z_eq, z_cl, z_add, z_sub, z_mul, z_in, z_lt0, z_ofN, z_m1, z_ltm1, z_m1lt, z_eqm1, z_m1eq, z_m1le, z_lem1, z_beq, nI_0_1, nI_m1lt0, nI_0lem1, not_false_eq_true, not_true_eq_false, forall_const, false_implies, true_implies, implies_true, false_and, and_false, mrg, renc, tra, trv, sg, List.map_cons, List.map_nil, Option.map_some, Option.map_none, Option.toList_some, Option.toList_none, List.cons_append, List.nil_append, List.length_cons, List.length_nil, gH, gO, show ¬ (1 : Nat) = 0 by decide]
    refine CAL.dir hme (by omega) (Nat.zero_le _) (Nat.zero_le _) (Nat.le_of_ble_eq_true rfl) (by rw [ggn]; exact Nat.le_of_ble_eq_true rfl) rfl rfl ?_
    rintro _ _ ⟨rfl, ged', rfl⟩
    have hf := hret _ (gHx_i gal gps gst grf gmy gkd glf grt gpr gun gow gem ged' gse gsz gtx gtl gsp gmd gop gom gwt gwm gtn gon gsh gtr gbl gbd gwh gfl gfd gfe)
    have ho : orA p o row 1 = bN ((trM (tP (dK p) (dL p) (dN p)) (rowM p 1 row)).testBit 8) := rfl
    rw [ho] at hf
    clear hret
    generalize (trM (tP (dK p) (dL p) (dN p)) (rowM p 1 row)).testBit 8 = v at *
    cases v
    · simp (disch := first | exact rfl | decide | omega) only [u_151_0, u_151_1, u_151_4, u_151_5, u_151_8, u_151_9, u_151_10, u_151_13, u_151_16, u_151_17, u_151_18, u_151_21, u_151_22, u_151_23, u_151_26, u_151_29, u_151_30, u_151_33, u_151_34, u_151_37, u_151_38, u_151_39, u_151_42, u_151_43, u_151_46, u_151_49, u_151_50, u_151_53, u_151_56, u_151_57, wp_stop, lget, lput1, lput2, kil, hget, hset, vget, vset, fget, fgetC, fput, fputC, iget, igetC, jget, jgetC, qget, qgetC, alen, lenC, oI, oJ, oF, oA, oV, oH, oInc, oIld, oJld, oQld, oR, oLen, oIst, oBst, oJst, oQst, ciOf, rcv, oCp, cat1, cond_true, cond_false, Bool.and_self, Bool.and_true, Bool.true_and, Bool.or_true, Bool.true_or, Bool.or_false, Bool.false_or, Bool.not_false, Bool.not_true, ↓reduceIte, Nat.reduceBEq, Nat.reduceEqDiff, beq_self_eq_true, true_and, and_true, eq_self_iff_true, Nat.reduceAdd, Nat.blt, Nat.ble, z_le, z_lt, z_eq, z_cl, z_add, z_sub, z_mul, z_in, z_lt0, z_ofN, z_m1, z_ltm1, z_m1lt, z_eqm1, z_m1eq, z_m1le, z_lem1, z_beq, nI_0_1, nI_m1lt0, nI_0lem1, not_false_eq_true, not_true_eq_false, forall_const, false_implies, true_implies, implies_true, false_and, and_false, mrg, renc, tra, trv, sg, List.map_cons, List.map_nil, Option.map_some, Option.map_none, Option.toList_some, Option.toList_none, List.cons_append, List.nil_append, List.length_cons, List.length_nil, gH, gO, bNf]
      exact hf
    · simp (disch := first | exact rfl | decide | omega) only [u_151_0, u_151_1, u_151_4, u_151_5, u_151_8, u_151_9, u_151_10, u_151_13, u_151_16, u_151_17, u_151_18, u_151_21, u_151_22, u_151_23, u_151_26, u_151_29, u_151_30, u_151_33, u_151_34, u_151_37, u_151_38, u_151_39, u_151_42, u_151_43, u_151_46, u_151_49, u_151_50, u_151_53, u_151_56, u_151_57, wp_stop, lget, lput1, lput2, kil, hget, hset, vget, vset, fget, fgetC, fput, fputC, iget, igetC, jget, jgetC, qget, qgetC, alen, lenC, oI, oJ, oF, oA, oV, oH, oInc, oIld, oJld, oQld, oR, oLen, oIst, oBst, oJst, oQst, ciOf, rcv, oCp, cat1, cond_true, cond_false, Bool.and_self, Bool.and_true, Bool.true_and, Bool.or_true, Bool.true_or, Bool.or_false, Bool.false_or, Bool.not_false, Bool.not_true, ↓reduceIte, Nat.reduceBEq, Nat.reduceEqDiff, beq_self_eq_true, true_and, and_true, eq_self_iff_true, Nat.reduceAdd, Nat.blt, Nat.ble, z_le, z_lt, z_eq, z_cl, z_add, z_sub, z_mul, z_in, z_lt0, z_ofN, z_m1, z_ltm1, z_m1lt, z_eqm1, z_m1eq, z_m1le, z_lem1, z_beq, nI_0_1, nI_m1lt0, nI_0lem1, not_false_eq_true, not_true_eq_false, forall_const, false_implies, true_implies, implies_true, false_and, and_false, mrg, renc, tra, trv, sg, List.map_cons, List.map_nil, Option.map_some, Option.map_none, Option.toList_some, Option.toList_none, List.cons_append, List.nil_append, List.length_cons, List.length_nil, gH, gO, bNt, n10]
      exact hf
  · subst e
    have hrl := g_rowLong gal gps gst grf gmy gkd glf grt gpr gun gow gem ged gse gsz gtx gtl gsp gmd gop gom gwt gwm gtn gon gsh gtr gbl gbd gwh gfl gfd gfe 0
    rw [hr.2.2.2.1] at hrl
    simp (disch := first | exact rfl | decide | omega) only [u_151_0, u_151_1, u_151_4, u_151_5, u_151_8, u_151_9, u_151_10, u_151_13, u_151_16, u_151_17, u_151_18, u_151_21, u_151_22, u_151_23, u_151_26, u_151_29, u_151_30, u_151_33, u_151_34, u_151_37, u_151_38, u_151_39, u_151_42, u_151_43, u_151_46, u_151_49, u_151_50, u_151_53, u_151_56, u_151_57, wp_stop, lget, lput1, lput2, kil, hget, hset, vget, vset, fget, fgetC, fput, fputC, iget, igetC, jget, jgetC, qget, qgetC, alen, lenC, oI, oJ, oF, oA, oV, oH, oInc, oIld, oJld, oQld, oR, oLen, oIst, oBst, oJst, oQst, ciOf, rcv, oCp, cat1, cond_true, cond_false, Bool.and_self, Bool.and_true, Bool.true_and, Bool.or_true, Bool.true_or, Bool.or_false, Bool.false_or, Bool.not_false, Bool.not_true, ↓reduceIte, Nat.reduceBEq, Nat.reduceEqDiff, beq_self_eq_true, true_and, and_true, eq_self_iff_true, Nat.reduceAdd, Nat.blt, Nat.ble, z_le, z_lt, z_eq, z_cl, z_add, z_sub, z_mul, z_in, z_lt0, z_ofN, z_m1, z_ltm1, z_m1lt, z_eqm1, z_m1eq, z_m1le, z_lem1, z_beq, nI_0_1, nI_m1lt0, nI_0lem1, not_false_eq_true, not_true_eq_false, forall_const, false_implies, true_implies, implies_true, false_and, and_false, mrg, renc, tra, trv, sg, List.map_cons, List.map_nil, Option.map_some, Option.map_none, Option.toList_some, Option.toList_none, List.cons_append, List.nil_append, List.length_cons, List.length_nil, gH, gO, show ¬ (2 : Nat) = 0 by decide, show ¬ (2 : Nat) = 1 by decide]
    refine CAL.dir hrl (by omega) (Nat.zero_le _) (Nat.zero_le _) (Nat.le_of_ble_eq_true rfl) (by rw [ggn]; exact Nat.le_of_ble_eq_true rfl) rfl rfl ?_
    rintro _ _ ⟨rfl, rfl⟩
    have hf := hret _ (gHx_i gal gps gst grf gmy gkd glf grt gpr gun gow gem ged gse gsz gtx gtl gsp gmd gop gom gwt gwm gtn gon gsh gtr gbl gbd gwh gfl gfd gfe)
    have ho : orA p o row 2 = nI row.length := rfl
    rw [ho] at hf
    clear hret
    generalize row.length = v at *
    simp (disch := first | exact rfl | decide | omega) only [u_151_0, u_151_1, u_151_4, u_151_5, u_151_8, u_151_9, u_151_10, u_151_13, u_151_16, u_151_17, u_151_18, u_151_21, u_151_22, u_151_23, u_151_26, u_151_29, u_151_30, u_151_33, u_151_34, u_151_37, u_151_38, u_151_39, u_151_42, u_151_43, u_151_46, u_151_49, u_151_50, u_151_53, u_151_56, u_151_57, wp_stop, lget, lput1, lput2, kil, hget, hset, vget, vset, fget, fgetC, fput, fputC, iget, igetC, jget, jgetC, qget, qgetC, alen, lenC, oI, oJ, oF, oA, oV, oH, oInc, oIld, oJld, oQld, oR, oLen, oIst, oBst, oJst, oQst, ciOf, rcv, oCp, cat1, cond_true, cond_false, Bool.and_self, Bool.and_true, Bool.true_and, Bool.or_true, Bool.true_or, Bool.or_false, Bool.false_or, Bool.not_false, Bool.not_true, ↓reduceIte, Nat.reduceBEq, Nat.reduceEqDiff, beq_self_eq_true, true_and, and_true, eq_self_iff_true, Nat.reduceAdd, Nat.blt, Nat.ble, z_le, z_lt, z_eq, z_cl, z_add, z_sub, z_mul, z_in, z_lt0, z_ofN, z_m1, z_ltm1, z_m1lt, z_eqm1, z_m1eq, z_m1le, z_lem1, z_beq, nI_0_1, nI_m1lt0, nI_0lem1, not_false_eq_true, not_true_eq_false, forall_const, false_implies, true_implies, implies_true, false_and, and_false, mrg, renc, tra, trv, sg, List.map_cons, List.map_nil, Option.map_some, Option.map_none, Option.toList_some, Option.toList_none, List.cons_append, List.nil_append, List.length_cons, List.length_nil, gH, gO]
    exact hf
  · subst e
    have hf := hret _ (gHx_i gal gps gst grf gmy gkd glf grt gpr gun gow gem ged gse gsz gtx gtl gsp gmd gop gom gwt gwm gtn gon gsh gtr gbl gbd gwh gfl gfd gfe)
    have ho : orA p o row 3 = nI o := rfl
    rw [ho] at hf
    clear hret
    have r3 := hr.2.2.1
    simp (disch := first | exact rfl | decide | omega) only [u_151_0, u_151_1, u_151_4, u_151_5, u_151_8, u_151_9, u_151_10, u_151_13, u_151_16, u_151_17, u_151_18, u_151_21, u_151_22, u_151_23, u_151_26, u_151_29, u_151_30, u_151_33, u_151_34, u_151_37, u_151_38, u_151_39, u_151_42, u_151_43, u_151_46, u_151_49, u_151_50, u_151_53, u_151_56, u_151_57, wp_stop, lget, lput1, lput2, kil, hget, hset, vget, vset, fget, fgetC, fput, fputC, iget, igetC, jget, jgetC, qget, qgetC, alen, lenC, oI, oJ, oF, oA, oV, oH, oInc, oIld, oJld, oQld, oR, oLen, oIst, oBst, oJst, oQst, ciOf, rcv, oCp, cat1, cond_true, cond_false, Bool.and_self, Bool.and_true, Bool.true_and, Bool.or_true, Bool.true_or, Bool.or_false, Bool.false_or, Bool.not_false, Bool.not_true, ↓reduceIte, Nat.reduceBEq, Nat.reduceEqDiff, beq_self_eq_true, true_and, and_true, eq_self_iff_true, Nat.reduceAdd, Nat.blt, Nat.ble, z_le, z_lt, z_eq, z_cl, z_add, z_sub, z_mul, z_in, z_lt0, z_ofN, z_m1, z_ltm1, z_m1lt, z_eqm1, z_m1eq, z_m1le, z_lem1, z_beq, nI_0_1, nI_m1lt0, nI_0lem1, not_false_eq_true, not_true_eq_false, forall_const, false_implies, true_implies, implies_true, false_and, and_false, mrg, renc, tra, trv, sg, List.map_cons, List.map_nil, Option.map_some, Option.map_none, Option.toList_some, Option.toList_none, List.cons_append, List.nil_append, List.length_cons, List.length_nil, gH, gO, show ¬ (3 : Nat) = 0 by decide, show ¬ (3 : Nat) = 1 by decide, show ¬ (3 : Nat) = 2 by decide, r3]
    exact hf
end GM
