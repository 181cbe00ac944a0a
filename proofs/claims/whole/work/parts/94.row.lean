/-! ResidualJudge: the row -/
/-- the places behind a row -/
noncomputable def rowM (p : Int64) : Nat → List Nat → Nat
  | m, [] => m
  | m, x :: xs => rowM p (dltM (dG p) x m) xs
theorem rowA_2 : ∀ (xs : List Nat) (ν : aN) (m : Nat), (rowA ν m xs).2 = rowM ν.1 m xs
  | [], _, _ => rfl
  | x :: xs, ν, m => rowA_2 xs (sY ν (dltM (dG ν.1) x m)) (dltM (dG ν.1) x m)
theorem rowA_1 : ∀ (xs : List Nat) (ν : aN) (m : Nat), (rowA ν m xs).1.1 = ν.1
  | [], _, _ => rfl
  | x :: xs, ν, m => rowA_1 xs (sY ν (dltM (dG ν.1) x m)) (dltM (dG ν.1) x m)
noncomputable def orA (p : Int64) (o : Nat) (row : List Nat) (w : Nat) : Int32 := if w = 2 then nI row.length else if w = 3 then nI o else if w = 1 then bN ((trM (dT p) (rowM p 1 row)).testBit 8) else nI (trM (dT p) (rowM p 1 row) &&& 255)
noncomputable def orV (ν : Nat → aN) (o : Nat) (row : List Nat) (w : Nat) : Nat → aN := if w < 2 then upN ν o (rowA (ν o) 1 row).1 else ν
/-- the row as it stands in the scene -/
def rwJ (v : aS) (o : Nat) (row : List Nat) : Prop := o < 9 ∧ row.length ≤ 20 ∧ v.2.2.1 = nI row.length ∧ v.2.2.2 = nI o ∧ rwR v.2.1 row
def jY (PM : Nat → PS × MS) (ν : Nat → aN) : Prop := ∀ x, x < 9 → yR (PM x) (ν x)
theorem jY_upd {PM : Nat → PS × MS} {ν : Nat → aN} {x : Nat} {Z : PS × MS} {a : aN} (h : jY PM ν) (hz : yR Z a) : jY (updZ PM x Z) (upN ν x a) := by
  intro y hy
  unfold updZ upN
  by_cases q : y = x
  · rw [if_pos q, if_pos q]
    exact hz
  · rw [if_neg q, if_neg q]
    exact h y hy
theorem okL_1 {o n : Nat} (ho : o < 9) {a b : Value} (ha : okV 193 (mvI 31) a = true) (hb : okV 193 (mvI 31) b = true) (hn : n = 193) : okL n (mvI 31) [some a, some b, some (.ref (31 + 18 * o)), none] = true := by
  subst hn
  have hb1 : Nat.blt (31 + 18 * o) 193 = true := by rw [Nat.blt_eq]; omega
  have hr : okV 193 (mvI 31) (.ref (31 + 18 * o)) = true := by
    simp only [okV, hb1, mvI_0]
    rfl
  simp only [okL, ha, hb, hr]
  rfl
theorem okL_2 {o n : Nat} (ho : o < 9) {a b c : Value} (ha : okV 193 nomv a = true) (hb : okV 193 nomv b = true) (hc : okV 193 nomv c = true) (hn : n = 193) : okL n nomv [some a, some b, some (.ref (31 + 18 * o)), some c] = true := by
  subst hn
  have hb1 : Nat.blt (31 + 18 * o) 193 = true := by rw [Nat.blt_eq]; omega
  have hr : okV 193 nomv (.ref (31 + 18 * o)) = true := by
    simp only [okV, hb1, nomv]
    rfl
  simp only [okL, ha, hb, hc, hr]
  rfl
theorem hg31 {c0 c1 c2 c3 c4 c5 c6 c7 c8 c9 c10 c11 c12 c13 c14 c15 c16 c17 c18 c19 c20 c21 c22 c23 c24 c25 c26 c27 c28 c29 c30 : aC} {PM : Nat → PS × MS} {x : Nat} (hx : x < 9) : hget (c0 :: c1 :: c2 :: c3 :: c4 :: c5 :: c6 :: c7 :: c8 :: c9 :: c10 :: c11 :: c12 :: c13 :: c14 :: c15 :: c16 :: c17 :: c18 :: c19 :: c20 :: c21 :: c22 :: c23 :: c24 :: c25 :: c26 :: c27 :: c28 :: c29 :: c30 :: blks 31 PM 9) (31 + 18 * x) = some (renc (31 + 18 * x + ·) (mO (PM x).2)) :=
  fb_get [c0, c1, c2, c3, c4, c5, c6, c7, c8, c9, c10, c11, c12, c13, c14, c15, c16, c17, c18, c19, c20, c21, c22, c23, c24, c25, c26, c27, c28, c29, c30] PM (nb := 9) x 0 hx (by decide)
set_option maxRecDepth 100000 in
theorem c_ofRow (d w o : Nat) (hw : w < 4) (J : jS) (PM : Nat → PS × MS) (ν : Nat → aN) (row : List Nat) (hR : rwJ J.2.2.1 o row) (hy : jY PM ν) (hL : rowL (ν o).1 1 row) (h14 : w < 2 → (rowA (ν o) 1 row).1.2.1.1.length ≤ 2 ^ 14) :
    aSp (d + 9) 90 [.ref 0, .int (nI w)] (jH J PM) jv (fY yC (orV ν o row w) - fY yC ν) (fY yS (orV ν o row w) - fY yS ν) (fun r h' => r = some (.int (orA (ν o).1 o row w)) ∧ ∃ PM', h' = jH J PM' ∧ jY PM' (orV ν o row w)) := by
  obtain ⟨ho, hl, e1, e2, hrw⟩ := hR
  obtain ⟨j1, j2, ⟨pt, rw0, ln, ow0⟩, j4⟩ := J
  dsimp only at e1 e2 hrw
  subst e1 e2
  refine sp_of (by decide) (Nat.le_of_ble_eq_true rfl) ?_
  generalize hG : ((d + 9, _, jv, _, _, _) : aG) = G
  have ggd : gD G = d + 9 := by subst hG; rfl
  have ggn : gN G = 193 := by subst hG; exact jH_len _ _
  have ggm : gM G = jv := by subst hG; rfl
  have ggc : gC G = fY yC (orV ν o row w) - fY yC ν := by subst hG; rfl
  have ggs : gS G = fY yS (orV ν o row w) - fY yS ν := by subst hG; rfl
  have hret : ∀ PM' k' n', jY PM' (orV ν o row w) → k' ≤ gC G → n' ≤ gS G → RET G (some (.int (orA (ν o).1 o row w))) (jH (j1, j2, (pt, rw0, nI row.length, nI o), j4) PM') k' n' := by
    subst hG
    exact fun PM' k' n' q1 q2 q3 => RET.id ⟨rfl, PM', rfl, q1⟩ q2 q3
  clear hG
  have h4 : w = 2 ∨ w = 3 ∨ w = 0 ∨ w = 1 := by omega
  by_cases hw2 : 2 ≤ w
  · have hf := hret PM 0 0 (by unfold orV; rw [if_neg (by omega)]; exact hy) (Nat.zero_le _) (Nat.zero_le _)
    clear hret
    rcases h4 with rfl | rfl | rfl | rfl
    · have e : orA (ν o).1 o row 2 = nI row.length := rfl
      rw [e] at hf
      refine wp_aw (S := fun _ => false) (by decide) 200 _ _ _ _ _ _ ?_
      simp (disch := first | exact rfl | decide | omega) only [u_90_0, u_90_1, u_90_2, u_90_5, u_90_6, u_90_9, u_90_12, u_90_13, u_90_14, u_90_15, u_90_18, u_90_19, u_90_22, u_90_25, u_90_26, u_90_27, u_90_30, u_90_31, u_90_34, u_90_37, u_90_40, u_90_41, u_90_42, u_90_45, u_90_46, u_90_49, u_90_50, u_90_51, u_90_52, u_90_55, u_90_56, u_90_57, u_90_60, u_90_63, u_90_64, u_90_67, u_90_68, u_90_69, u_90_70, u_90_71, u_90_74, wp_stop, lget, lput1, lput2, kil, hget, hset, vget, vset, fget, fgetC, fput, fputC, iget, igetC, jget, jgetC, qget, qgetC, alen, lenC, oI, oJ, oF, oA, oV, oH, oInc, oIld, oJld, oQld, oR, oLen, oIst, oBst, oJst, oQst, ciOf, rcv, oCp, cat1, cond_true, cond_false, Bool.and_self, Bool.and_true, Bool.true_and, Bool.or_true, Bool.true_or, Bool.or_false, Bool.false_or, Bool.not_false, Bool.not_true, ↓reduceIte, Nat.reduceBEq, Nat.reduceEqDiff, beq_self_eq_true, true_and, and_true, eq_self_iff_true, Nat.reduceAdd, Nat.blt, Nat.ble, z_le, z_lt, z_eq, z_cl, z_add, z_sub, z_mul, z_in, z_lt0, z_ofN, z_m1, z_ltm1, z_m1lt, z_eqm1, z_m1eq, z_m1le, z_lem1, z_beq, nI_0_1, nI_m1lt0, nI_0lem1, not_false_eq_true, not_true_eq_false, forall_const, false_implies, true_implies, implies_true, false_and, and_false, mrg, renc, tra, trv, sg, List.map_cons, List.map_nil, Option.map_some, Option.map_none, Option.toList_some, Option.toList_none, List.cons_append, List.nil_append, List.length_cons, List.length_nil, eL, mL_90, jH, jF]
      exact hf
    · have e : orA (ν o).1 o row 3 = nI o := rfl
      rw [e] at hf
      refine wp_aw (S := fun _ => false) (by decide) 200 _ _ _ _ _ _ ?_
      simp (disch := first | exact rfl | decide | omega) only [u_90_0, u_90_1, u_90_2, u_90_5, u_90_6, u_90_9, u_90_12, u_90_13, u_90_14, u_90_15, u_90_18, u_90_19, u_90_22, u_90_25, u_90_26, u_90_27, u_90_30, u_90_31, u_90_34, u_90_37, u_90_40, u_90_41, u_90_42, u_90_45, u_90_46, u_90_49, u_90_50, u_90_51, u_90_52, u_90_55, u_90_56, u_90_57, u_90_60, u_90_63, u_90_64, u_90_67, u_90_68, u_90_69, u_90_70, u_90_71, u_90_74, wp_stop, lget, lput1, lput2, kil, hget, hset, vget, vset, fget, fgetC, fput, fputC, iget, igetC, jget, jgetC, qget, qgetC, alen, lenC, oI, oJ, oF, oA, oV, oH, oInc, oIld, oJld, oQld, oR, oLen, oIst, oBst, oJst, oQst, ciOf, rcv, oCp, cat1, cond_true, cond_false, Bool.and_self, Bool.and_true, Bool.true_and, Bool.or_true, Bool.true_or, Bool.or_false, Bool.false_or, Bool.not_false, Bool.not_true, ↓reduceIte, Nat.reduceBEq, Nat.reduceEqDiff, beq_self_eq_true, true_and, and_true, eq_self_iff_true, Nat.reduceAdd, Nat.blt, Nat.ble, z_le, z_lt, z_eq, z_cl, z_add, z_sub, z_mul, z_in, z_lt0, z_ofN, z_m1, z_ltm1, z_m1lt, z_eqm1, z_m1eq, z_m1le, z_lem1, z_beq, nI_0_1, nI_m1lt0, nI_0lem1, not_false_eq_true, not_true_eq_false, forall_const, false_implies, true_implies, implies_true, false_and, and_false, mrg, renc, tra, trv, sg, List.map_cons, List.map_nil, Option.map_some, Option.map_none, Option.toList_some, Option.toList_none, List.cons_append, List.nil_append, List.length_cons, List.length_nil, eL, mL_90, jH, jF, show ¬ (3 : Nat) = 2 by decide]
      exact hf
    · omega
    · omega
  · have hV : orV ν o row w = upN ν o (rowA (ν o) 1 row).1 := if_pos (by omega)
    have hle := rowA_le row (m := 1) (yR_N (hy o ho))
    have hq1 := rowA_1 row (ν o) 1
    have hq2 := rowA_2 row (ν o) 1
    obtain ⟨mv, hmv, hst⟩ := J_standIn d o ho (j1, j2, (pt, rw0, nI row.length, nI o), j4) PM row rfl hrw hl (ν o) (hy o ho) hL (h14 (by omega))
    have hfC := fY_upd (f := yC) (ν := ν) ho (rowA (ν o) 1 row).1
    have hfS := fY_upd (f := yS) (ν := ν) ho (rowA (ν o) 1 row).1
    rw [hV] at ggc ggs
    rw [hV] at hret
    have g1 := hle.1
    have g2 := hle.2.1
    generalize rowA (ν o) 1 row = A at *
    obtain ⟨νF, mF⟩ := A
    dsimp only at *
    have hat := c_at d (jH (j1, j2, (pt, rw0, nI row.length, nI o), j4) PM) 23 24 (aF 31) o (31 + 18 * o) ho rfl rfl (aF_k ho)
    have hdu : ∀ j Z', νF.2.1.1[j]? = some mF → yR Z' νF → aSp (d + 1) 62 [.ref 0, .int (nI j)] (mH (updZ PM o Z' o).1 (updZ PM o Z' o).2) nomv 0 0 (fun r h' => r = some (.int (nI (trM (dT νF.1) mF &&& 255))) ∧ h' = mH (updZ PM o Z' o).1 (updZ PM o Z' o).2) := fun j Z' hj hz => y_due d (by rw [show updZ PM o Z' o = Z' from if_pos rfl]; exact hz) hj
    have hen : ∀ j Z', νF.2.1.1[j]? = some mF → yR Z' νF → aSp (d + 1) 60 [.ref 0, .int (nI j)] (mH (updZ PM o Z' o).1 (updZ PM o Z' o).2) nomv 0 0 (fun r h' => r = some (.int (bN ((trM (dT νF.1) mF).testBit 8))) ∧ h' = mH (updZ PM o Z' o).1 (updZ PM o Z' o).2) := fun j Z' hj hz => y_isEnding d (by rw [show updZ PM o Z' o = Z' from if_pos rfl]; exact hz) hj
    subst hq2
    rw [hq1] at hdu hen
    have hR2 : ∀ Z', yR Z' νF → RET G (some (.int (orA (ν o).1 o row w))) (jH (j1, j2, (pt, rw0, nI row.length, nI o), j4) (updZ PM o Z')) (0 + 0 + (yC νF - yC (ν o))) (0 + 0 + (yS νF - yS (ν o))) := fun Z' hz => hret _ _ _ (jY_upd hy hz) (by rw [ggc]; omega) (by rw [ggs]; omega)
    clear hret
    have hw01 : w = 0 ∨ w = 1 := by omega
    rcases hw01 with rfl | rfl
    · have e : orA (ν o).1 o row 0 = nI (trM (dT (ν o).1) (rowM (ν o).1 1 row) &&& 255) := rfl
      rw [e] at hR2
      generalize trM (dT (ν o).1) (rowM (ν o).1 1 row) = V at *
      refine wp_aw (S := fun _ => false) (by decide) 200 _ _ _ _ _ _ ?_
      simp (disch := first | exact rfl | decide | omega) only [u_90_0, u_90_1, u_90_2, u_90_5, u_90_6, u_90_9, u_90_12, u_90_13, u_90_14, u_90_15, u_90_18, u_90_19, u_90_22, u_90_25, u_90_26, u_90_27, u_90_30, u_90_31, u_90_34, u_90_37, u_90_40, u_90_41, u_90_42, u_90_45, u_90_46, u_90_49, u_90_50, u_90_51, u_90_52, u_90_55, u_90_56, u_90_57, u_90_60, u_90_63, u_90_64, u_90_67, u_90_68, u_90_69, u_90_70, u_90_71, u_90_74, wp_stop, lget, lput1, lput2, kil, hget, hset, vget, vset, fget, fgetC, fput, fputC, iget, igetC, jget, jgetC, qget, qgetC, alen, lenC, oI, oJ, oF, oA, oV, oH, oInc, oIld, oJld, oQld, oR, oLen, oIst, oBst, oJst, oQst, ciOf, rcv, oCp, cat1, cond_true, cond_false, Bool.and_self, Bool.and_true, Bool.true_and, Bool.or_true, Bool.true_or, Bool.or_false, Bool.false_or, Bool.not_false, Bool.not_true, ↓reduceIte, Nat.reduceBEq, Nat.reduceEqDiff, beq_self_eq_true, true_and, and_true, eq_self_iff_true, Nat.reduceAdd, Nat.blt, Nat.ble, z_le, z_lt, z_eq, z_cl, z_add, z_sub, z_mul, z_in, z_lt0, z_ofN, z_m1, z_ltm1, z_m1lt, z_eqm1, z_m1eq, z_m1le, z_lem1, z_beq, nI_0_1, nI_m1lt0, nI_0lem1, not_false_eq_true, not_true_eq_false, forall_const, false_implies, true_implies, implies_true, false_and, and_false, mrg, renc, tra, trv, sg, List.map_cons, List.map_nil, Option.map_some, Option.map_none, Option.toList_some, Option.toList_none, List.cons_append, List.nil_append, List.length_cons, List.length_nil, eL, mL_90, jH, jF, show ¬ (0 : Nat) = 2 by decide, show ¬ (0 : Nat) = 3 by decide]
      refine CAL.dir (hat) (by rw [ggd]; omega) (by show _ ≤ gC G; omega) (by show _ ≤ gS G; omega) (Nat.le_of_ble_eq_true rfl) (by rw [ggn]; exact Nat.le_of_ble_eq_true rfl) rfl rfl ?_
      rintro _ _ ⟨rfl, rfl⟩
      simp (disch := first | exact rfl | decide | omega) only [u_90_0, u_90_1, u_90_2, u_90_5, u_90_6, u_90_9, u_90_12, u_90_13, u_90_14, u_90_15, u_90_18, u_90_19, u_90_22, u_90_25, u_90_26, u_90_27, u_90_30, u_90_31, u_90_34, u_90_37, u_90_40, u_90_41, u_90_42, u_90_45, u_90_46, u_90_49, u_90_50, u_90_51, u_90_52, u_90_55, u_90_56, u_90_57, u_90_60, u_90_63, u_90_64, u_90_67, u_90_68, u_90_69, u_90_70, u_90_71, u_90_74, wp_stop, lget, lput1, lput2, kil, hget, hset, vget, vset, fget, fgetC, fput, fputC, iget, igetC, jget, jgetC, qget, qgetC, alen, lenC, oI, oJ, oF, oA, oV, oH, oInc, oIld, oJld, oQld, oR, oLen, oIst, oBst, oJst, oQst, ciOf, rcv, oCp, cat1, cond_true, cond_false, Bool.and_self, Bool.and_true, Bool.true_and, Bool.or_true, Bool.true_or, Bool.or_false, Bool.false_or, Bool.not_false, Bool.not_true, ↓reduceIte, Nat.reduceBEq, Nat.reduceEqDiff, beq_self_eq_true, true_and, and_true, eq_self_iff_true, Nat.reduceAdd, Nat.blt, Nat.ble, z_le, z_lt, z_eq, z_cl, z_add, z_sub, z_mul, z_in, z_lt0, z_ofN, z_m1, z_ltm1, z_m1lt, z_eqm1, z_m1eq, z_m1le, z_lem1, z_beq, nI_0_1, nI_m1lt0, nI_0lem1, not_false_eq_true, not_true_eq_false, forall_const, false_implies, true_implies, implies_true, false_and, and_false, mrg, renc, tra, trv, sg, List.map_cons, List.map_nil, Option.map_some, Option.map_none, Option.toList_some, Option.toList_none, List.cons_append, List.nil_append, List.length_cons, List.length_nil, jH, jF]
      refine CAL.dirM hst (by rw [ggd]; omega) (by show _ ≤ gC G; rw [ggc]; omega) (by show _ ≤ gS G; rw [ggs]; omega) (Nat.le_of_ble_eq_true rfl) (by rw [ggn]; exact Nat.le_of_ble_eq_true rfl) (fun j _ z => jv_I hmv (by rw [← ggm]; exact z)) (okL_mono hmv (okL_1 ho rfl rfl (jH_len (j1, j2, (pt, rw0, nI row.length, nI o), j4) PM))) rfl ?_
      rintro _ _ ⟨j, Z', hj, rfl, rfl, hz⟩
      simp (disch := first | exact rfl | decide | omega) only [u_90_0, u_90_1, u_90_2, u_90_5, u_90_6, u_90_9, u_90_12, u_90_13, u_90_14, u_90_15, u_90_18, u_90_19, u_90_22, u_90_25, u_90_26, u_90_27, u_90_30, u_90_31, u_90_34, u_90_37, u_90_40, u_90_41, u_90_42, u_90_45, u_90_46, u_90_49, u_90_50, u_90_51, u_90_52, u_90_55, u_90_56, u_90_57, u_90_60, u_90_63, u_90_64, u_90_67, u_90_68, u_90_69, u_90_70, u_90_71, u_90_74, wp_stop, lget, lput1, lput2, kil, hget, hset, vget, vset, fget, fgetC, fput, fputC, iget, igetC, jget, jgetC, qget, qgetC, alen, lenC, oI, oJ, oF, oA, oV, oH, oInc, oIld, oJld, oQld, oR, oLen, oIst, oBst, oJst, oQst, ciOf, rcv, oCp, cat1, cond_true, cond_false, Bool.and_self, Bool.and_true, Bool.true_and, Bool.or_true, Bool.true_or, Bool.or_false, Bool.false_or, Bool.not_false, Bool.not_true, ↓reduceIte, Nat.reduceBEq, Nat.reduceEqDiff, beq_self_eq_true, true_and, and_true, eq_self_iff_true, Nat.reduceAdd, Nat.blt, Nat.ble, z_le, z_lt, z_eq, z_cl, z_add, z_sub, z_mul, z_in, z_lt0, z_ofN, z_m1, z_ltm1, z_m1lt, z_eqm1, z_m1eq, z_m1le, z_lem1, z_beq, nI_0_1, nI_m1lt0, nI_0lem1, not_false_eq_true, not_true_eq_false, forall_const, false_implies, true_implies, implies_true, false_and, and_false, mrg, renc, tra, trv, sg, List.map_cons, List.map_nil, Option.map_some, Option.map_none, Option.toList_some, Option.toList_none, List.cons_append, List.nil_append, List.length_cons, List.length_nil, jH, jF, hg31 ho, mO, show ¬ (0 : Nat) = 1 by decide]
      show CAL _ _ _ (.ref ((jF (j1, j2, (pt, rw0, nI row.length, nI o), j4)).length + 18 * o) :: _) _ _ _ (jF (j1, j2, (pt, rw0, nI row.length, nI o), j4) ++ blks (jF (j1, j2, (pt, rw0, nI row.length, nI o), j4)).length (updZ PM o Z') 9) _ _
      refine CAL.blkR (hdu j Z' hj hz) ho (okF_jF (j1, j2, (pt, rw0, nI row.length, nI o), j4)) (fun _ => rfl) (fun _ => rfl) (by rw [ggd]; omega) (by show _ ≤ gC G; rw [ggc]; omega) (by show _ ≤ gS G; rw [ggs]; omega) (Nat.le_of_ble_eq_true rfl) (by rw [ggn]; exact Nat.le_of_ble_eq_true rfl) (okL_2 ho rfl rfl rfl rfl) rfl ?_
      have hf := hR2 Z' hz
      simp (disch := first | exact rfl | decide | omega) only [u_90_0, u_90_1, u_90_2, u_90_5, u_90_6, u_90_9, u_90_12, u_90_13, u_90_14, u_90_15, u_90_18, u_90_19, u_90_22, u_90_25, u_90_26, u_90_27, u_90_30, u_90_31, u_90_34, u_90_37, u_90_40, u_90_41, u_90_42, u_90_45, u_90_46, u_90_49, u_90_50, u_90_51, u_90_52, u_90_55, u_90_56, u_90_57, u_90_60, u_90_63, u_90_64, u_90_67, u_90_68, u_90_69, u_90_70, u_90_71, u_90_74, wp_stop, lget, lput1, lput2, kil, hget, hset, vget, vset, fget, fgetC, fput, fputC, iget, igetC, jget, jgetC, qget, qgetC, alen, lenC, oI, oJ, oF, oA, oV, oH, oInc, oIld, oJld, oQld, oR, oLen, oIst, oBst, oJst, oQst, ciOf, rcv, oCp, cat1, cond_true, cond_false, Bool.and_self, Bool.and_true, Bool.true_and, Bool.or_true, Bool.true_or, Bool.or_false, Bool.false_or, Bool.not_false, Bool.not_true, ↓reduceIte, Nat.reduceBEq, Nat.reduceEqDiff, beq_self_eq_true, true_and, and_true, eq_self_iff_true, Nat.reduceAdd, Nat.blt, Nat.ble, z_le, z_lt, z_eq, z_cl, z_add, z_sub, z_mul, z_in, z_lt0, z_ofN, z_m1, z_ltm1, z_m1lt, z_eqm1, z_m1eq, z_m1le, z_lem1, z_beq, nI_0_1, nI_m1lt0, nI_0lem1, not_false_eq_true, not_true_eq_false, forall_const, false_implies, true_implies, implies_true, false_and, and_false, mrg, renc, tra, trv, sg, List.map_cons, List.map_nil, Option.map_some, Option.map_none, Option.toList_some, Option.toList_none, List.cons_append, List.nil_append, List.length_cons, List.length_nil, jF]
      exact hf
    · have e : orA (ν o).1 o row 1 = bN ((trM (dT (ν o).1) (rowM (ν o).1 1 row)).testBit 8) := rfl
      rw [e] at hR2
      generalize (trM (dT (ν o).1) (rowM (ν o).1 1 row)).testBit 8 = V at *
      refine wp_aw (S := fun _ => false) (by decide) 200 _ _ _ _ _ _ ?_
      simp (disch := first | exact rfl | decide | omega) only [u_90_0, u_90_1, u_90_2, u_90_5, u_90_6, u_90_9, u_90_12, u_90_13, u_90_14, u_90_15, u_90_18, u_90_19, u_90_22, u_90_25, u_90_26, u_90_27, u_90_30, u_90_31, u_90_34, u_90_37, u_90_40, u_90_41, u_90_42, u_90_45, u_90_46, u_90_49, u_90_50, u_90_51, u_90_52, u_90_55, u_90_56, u_90_57, u_90_60, u_90_63, u_90_64, u_90_67, u_90_68, u_90_69, u_90_70, u_90_71, u_90_74, wp_stop, lget, lput1, lput2, kil, hget, hset, vget, vset, fget, fgetC, fput, fputC, iget, igetC, jget, jgetC, qget, qgetC, alen, lenC, oI, oJ, oF, oA, oV, oH, oInc, oIld, oJld, oQld, oR, oLen, oIst, oBst, oJst, oQst, ciOf, rcv, oCp, cat1, cond_true, cond_false, Bool.and_self, Bool.and_true, Bool.true_and, Bool.or_true, Bool.true_or, Bool.or_false, Bool.false_or, Bool.not_false, Bool.not_true, ↓reduceIte, Nat.reduceBEq, Nat.reduceEqDiff, beq_self_eq_true, true_and, and_true, eq_self_iff_true, Nat.reduceAdd, Nat.blt, Nat.ble, z_le, z_lt, z_eq, z_cl, z_add, z_sub, z_mul, z_in, z_lt0, z_ofN, z_m1, z_ltm1, z_m1lt, z_eqm1, z_m1eq, z_m1le, z_lem1, z_beq, nI_0_1, nI_m1lt0, nI_0lem1, not_false_eq_true, not_true_eq_false, forall_const, false_implies, true_implies, implies_true, false_and, and_false, mrg, renc, tra, trv, sg, List.map_cons, List.map_nil, Option.map_some, Option.map_none, Option.toList_some, Option.toList_none, List.cons_append, List.nil_append, List.length_cons, List.length_nil, eL, mL_90, jH, jF, show ¬ (1 : Nat) = 2 by decide, show ¬ (1 : Nat) = 3 by decide]
      refine CAL.dir (hat) (by rw [ggd]; omega) (by show _ ≤ gC G; omega) (by show _ ≤ gS G; omega) (Nat.le_of_ble_eq_true rfl) (by rw [ggn]; exact Nat.le_of_ble_eq_true rfl) rfl rfl ?_
      rintro _ _ ⟨rfl, rfl⟩
      simp (disch := first | exact rfl | decide | omega) only [u_90_0, u_90_1, u_90_2, u_90_5, u_90_6, u_90_9, u_90_12, u_90_13, u_90_14, u_90_15, u_90_18, u_90_19, u_90_22, u_90_25, u_90_26, u_90_27, u_90_30, u_90_31, u_90_34, u_90_37, u_90_40, u_90_41, u_90_42, u_90_45, u_90_46, u_90_49, u_90_50, u_90_51, u_90_52, u_90_55, u_90_56, u_90_57, u_90_60, u_90_63, u_90_64, u_90_67, u_90_68, u_90_69, u_90_70, u_90_71, u_90_74, wp_stop, lget, lput1, lput2, kil, hget, hset, vget, vset, fget, fgetC, fput, fputC, iget, igetC, jget, jgetC, qget, qgetC, alen, lenC, oI, oJ, oF, oA, oV, oH, oInc, oIld, oJld, oQld, oR, oLen, oIst, oBst, oJst, oQst, ciOf, rcv, oCp, cat1, cond_true, cond_false, Bool.and_self, Bool.and_true, Bool.true_and, Bool.or_true, Bool.true_or, Bool.or_false, Bool.false_or, Bool.not_false, Bool.not_true, ↓reduceIte, Nat.reduceBEq, Nat.reduceEqDiff, beq_self_eq_true, true_and, and_true, eq_self_iff_true, Nat.reduceAdd, Nat.blt, Nat.ble, z_le, z_lt, z_eq, z_cl, z_add, z_sub, z_mul, z_in, z_lt0, z_ofN, z_m1, z_ltm1, z_m1lt, z_eqm1, z_m1eq, z_m1le, z_lem1, z_beq, nI_0_1, nI_m1lt0, nI_0lem1, not_false_eq_true, not_true_eq_false, forall_const, false_implies, true_implies, implies_true, false_and, and_false, mrg, renc, tra, trv, sg, List.map_cons, List.map_nil, Option.map_some, Option.map_none, Option.toList_some, Option.toList_none, List.cons_append, List.nil_append, List.length_cons, List.length_nil, jH, jF]
      refine CAL.dirM hst (by rw [ggd]; omega) (by show _ ≤ gC G; rw [ggc]; omega) (by show _ ≤ gS G; rw [ggs]; omega) (Nat.le_of_ble_eq_true rfl) (by rw [ggn]; exact Nat.le_of_ble_eq_true rfl) (fun j _ z => jv_I hmv (by rw [← ggm]; exact z)) (okL_mono hmv (okL_1 ho rfl rfl (jH_len (j1, j2, (pt, rw0, nI row.length, nI o), j4) PM))) rfl ?_
      rintro _ _ ⟨j, Z', hj, rfl, rfl, hz⟩
      simp (disch := first | exact rfl | decide | omega) only [u_90_0, u_90_1, u_90_2, u_90_5, u_90_6, u_90_9, u_90_12, u_90_13, u_90_14, u_90_15, u_90_18, u_90_19, u_90_22, u_90_25, u_90_26, u_90_27, u_90_30, u_90_31, u_90_34, u_90_37, u_90_40, u_90_41, u_90_42, u_90_45, u_90_46, u_90_49, u_90_50, u_90_51, u_90_52, u_90_55, u_90_56, u_90_57, u_90_60, u_90_63, u_90_64, u_90_67, u_90_68, u_90_69, u_90_70, u_90_71, u_90_74, wp_stop, lget, lput1, lput2, kil, hget, hset, vget, vset, fget, fgetC, fput, fputC, iget, igetC, jget, jgetC, qget, qgetC, alen, lenC, oI, oJ, oF, oA, oV, oH, oInc, oIld, oJld, oQld, oR, oLen, oIst, oBst, oJst, oQst, ciOf, rcv, oCp, cat1, cond_true, cond_false, Bool.and_self, Bool.and_true, Bool.true_and, Bool.or_true, Bool.true_or, Bool.or_false, Bool.false_or, Bool.not_false, Bool.not_true, ↓reduceIte, Nat.reduceBEq, Nat.reduceEqDiff, beq_self_eq_true, true_and, and_true, eq_self_iff_true, Nat.reduceAdd, Nat.blt, Nat.ble, z_le, z_lt, z_eq, z_cl, z_add, z_sub, z_mul, z_in, z_lt0, z_ofN, z_m1, z_ltm1, z_m1lt, z_eqm1, z_m1eq, z_m1le, z_lem1, z_beq, nI_0_1, nI_m1lt0, nI_0lem1, not_false_eq_true, not_true_eq_false, forall_const, false_implies, true_implies, implies_true, false_and, and_false, mrg, renc, tra, trv, sg, List.map_cons, List.map_nil, Option.map_some, Option.map_none, Option.toList_some, Option.toList_none, List.cons_append, List.nil_append, List.length_cons, List.length_nil, jH, jF, hg31 ho, mO]
      show CAL _ _ _ (.ref ((jF (j1, j2, (pt, rw0, nI row.length, nI o), j4)).length + 18 * o) :: _) _ _ _ (jF (j1, j2, (pt, rw0, nI row.length, nI o), j4) ++ blks (jF (j1, j2, (pt, rw0, nI row.length, nI o), j4)).length (updZ PM o Z') 9) _ _
      refine CAL.blkR (hen j Z' hj hz) ho (okF_jF (j1, j2, (pt, rw0, nI row.length, nI o), j4)) (fun _ => rfl) (fun _ => rfl) (by rw [ggd]; omega) (by show _ ≤ gC G; rw [ggc]; omega) (by show _ ≤ gS G; rw [ggs]; omega) (Nat.le_of_ble_eq_true rfl) (by rw [ggn]; exact Nat.le_of_ble_eq_true rfl) (okL_2 ho rfl rfl rfl rfl) rfl ?_
      have hf := hR2 Z' hz
      clear hR2
      cases V
      · simp (disch := first | exact rfl | decide | omega) only [u_90_0, u_90_1, u_90_2, u_90_5, u_90_6, u_90_9, u_90_12, u_90_13, u_90_14, u_90_15, u_90_18, u_90_19, u_90_22, u_90_25, u_90_26, u_90_27, u_90_30, u_90_31, u_90_34, u_90_37, u_90_40, u_90_41, u_90_42, u_90_45, u_90_46, u_90_49, u_90_50, u_90_51, u_90_52, u_90_55, u_90_56, u_90_57, u_90_60, u_90_63, u_90_64, u_90_67, u_90_68, u_90_69, u_90_70, u_90_71, u_90_74, wp_stop, lget, lput1, lput2, kil, hget, hset, vget, vset, fget, fgetC, fput, fputC, iget, igetC, jget, jgetC, qget, qgetC, alen, lenC, oI, oJ, oF, oA, oV, oH, oInc, oIld, oJld, oQld, oR, oLen, oIst, oBst, oJst, oQst, ciOf, rcv, oCp, cat1, cond_true, cond_false, Bool.and_self, Bool.and_true, Bool.true_and, Bool.or_true, Bool.true_or, Bool.or_false, Bool.false_or, Bool.not_false, Bool.not_true, ↓reduceIte, Nat.reduceBEq, Nat.reduceEqDiff, beq_self_eq_true, true_and, and_true, eq_self_iff_true, Nat.reduceAdd, Nat.blt, Nat.ble, z_le, z_lt, z_eq, z_cl, z_add, z_sub, z_mul, z_in, z_lt0, z_ofN, z_m1, z_ltm1, z_m1lt, z_eqm1, z_m1eq, z_m1le, z_lem1, z_beq, nI_0_1, nI_m1lt0, nI_0lem1, not_false_eq_true, not_true_eq_false, forall_const, false_implies, true_implies, implies_true, false_and, and_false, mrg, renc, tra, trv, sg, List.map_cons, List.map_nil, Option.map_some, Option.map_none, Option.toList_some, Option.toList_none, List.cons_append, List.nil_append, List.length_cons, List.length_nil, jF, bNf]
        exact hf
      · simp (disch := first | exact rfl | decide | omega) only [u_90_0, u_90_1, u_90_2, u_90_5, u_90_6, u_90_9, u_90_12, u_90_13, u_90_14, u_90_15, u_90_18, u_90_19, u_90_22, u_90_25, u_90_26, u_90_27, u_90_30, u_90_31, u_90_34, u_90_37, u_90_40, u_90_41, u_90_42, u_90_45, u_90_46, u_90_49, u_90_50, u_90_51, u_90_52, u_90_55, u_90_56, u_90_57, u_90_60, u_90_63, u_90_64, u_90_67, u_90_68, u_90_69, u_90_70, u_90_71, u_90_74, wp_stop, lget, lput1, lput2, kil, hget, hset, vget, vset, fget, fgetC, fput, fputC, iget, igetC, jget, jgetC, qget, qgetC, alen, lenC, oI, oJ, oF, oA, oV, oH, oInc, oIld, oJld, oQld, oR, oLen, oIst, oBst, oJst, oQst, ciOf, rcv, oCp, cat1, cond_true, cond_false, Bool.and_self, Bool.and_true, Bool.true_and, Bool.or_true, Bool.true_or, Bool.or_false, Bool.false_or, Bool.not_false, Bool.not_true, ↓reduceIte, Nat.reduceBEq, Nat.reduceEqDiff, beq_self_eq_true, true_and, and_true, eq_self_iff_true, Nat.reduceAdd, Nat.blt, Nat.ble, z_le, z_lt, z_eq, z_cl, z_add, z_sub, z_mul, z_in, z_lt0, z_ofN, z_m1, z_ltm1, z_m1lt, z_eqm1, z_m1eq, z_m1le, z_lem1, z_beq, nI_0_1, nI_m1lt0, nI_0lem1, not_false_eq_true, not_true_eq_false, forall_const, false_implies, true_implies, implies_true, false_and, and_false, mrg, renc, tra, trv, sg, List.map_cons, List.map_nil, Option.map_some, Option.map_none, Option.toList_some, Option.toList_none, List.cons_append, List.nil_append, List.length_cons, List.length_nil, jF, bNt, n10]
        exact hf
