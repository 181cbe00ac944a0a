/-! ResidualJudge.steps, a step made -/
theorem orV_le {ν : Nat → aN} {o : Nat} (ho : o < 9) (h : okN (ν o)) (row : List Nat) (w : Nat) : fY yS ν ≤ fY yS (orV ν o row w) ∧ fY yC ν ≤ fY yC (orV ν o row w) := by
  unfold orV
  by_cases q : w < 2
  · rw [if_pos q]
    have h1 := fY_upd (f := yS) (ν := ν) ho (rowA (ν o) 1 row).1
    have h2 := fY_upd (f := yC) (ν := ν) ho (rowA (ν o) 1 row).1
    have h3 := rowA_le row (m := 1) h
    omega
  · rw [if_neg q]
    omega
theorem rowA_ok : ∀ (xs : List Nat) {ν : aN} {m : Nat}, okN ν → okN (rowA ν m xs).1
  | [], _, _, h => h
  | x :: xs, ν, m, h => rowA_ok xs (okN_s h (dltM (dG ν.1) x m))
theorem orV_ok {ν : Nat → aN} {o : Nat} (h : okN (ν o)) (row : List Nat) (w : Nat) : okN (orV ν o row w o) := by
  unfold orV
  by_cases q : w < 2
  · rw [if_pos q]
    unfold upN
    rw [if_pos rfl]
    exact rowA_ok row h
  · rw [if_neg q]
    exact h
theorem rwR_app {rw : Nat → Int32} {row : List Nat} (h : rwR rw row) (x : Nat) : rwR (upd rw row.length (nI x)) (row ++ [x]) := by
  intro i y hi
  rcases Nat.lt_trichotomy i row.length with z | z | z
  · rw [List.getElem?_append_left z] at hi
    rw [upd_n (by omega)]
    exact h i y hi
  · subst z
    rw [List.getElem?_append_right (Nat.le_refl _), Nat.sub_self] at hi
    have : x = y := Option.some.inj hi
    rw [upd_s, this]
  · rw [List.getElem?_eq_none (by rw [List.length_append, List.length_singleton]; omega)] at hi
    exact absurd hi (by simp)
set_option maxRecDepth 100000 in
theorem c_steps (d x o c w : Nat) (hx : x < 8) (J : jS) (PM : Nat → PS × MS) (ν : Nat → aN) (row : List Nat) (hR : rwJ J.2.2.1 o row) (hy : jY PM ν) (hL : rowL (ν o).1 1 row) (h14 : (rowA (ν o) 1 row).1.2.1.1.length ≤ 2 ^ 14) (hdue : (trM (dT (ν o).1) (rowM (ν o).1 1 row)).testBit x = true) (h20 : row.length < 20) (hc : c ≤ 4) (hw : w < 4) (e1 : J.2.2.2.1.1 = nI c) (e2 : J.2.2.2.1.2.1 = nI w) (h14b : (rowA (orV ν o row 0 o) 1 (row ++ [x])).1.2.1.1.length ≤ 2 ^ 14) :
    aSp (d + 10) 92 [.ref 0, .int (nI x)] (jH J PM) jv (fY yC (orV (orV ν o row 0) o (row ++ [x]) 0) - fY yC ν) (fY yS (orV (orV ν o row 0) o (row ++ [x]) 0) - fY yS ν)
      (fun r h' => r = some (.int (orA (ν o).1 o (row ++ [x]) 0)) ∧ ∃ v' PM', h' = jH (J.1, J.2.1, (J.2.2.1.1, upd J.2.2.1.2.1 row.length (nI x), nI (row.length + 1), J.2.2.1.2.2.2), (nI (min (c + 1) 4), nI (nxt4 w), updS J.2.2.2.1.2.2 (nxt4 w) v'), J.2.2.2.2) PM' ∧ SQ v' J.2.2.1 ∧ jY PM' (orV (orV ν o row 0) o (row ++ [x]) 0)) := by
  have hof := c_ofRow d 0 o (by decide) J PM ν row hR hy hL (fun _ => h14)
  rw [orA_0] at hof
  have hle1 := orV_le hR.1 (yR_N (hy o hR.1)) row 0
  have hp := orV_1 ν o row 0 o
  have hL2 := rowL_app hx hL hdue
  have t3 : ¬ (nI (trM (dT (ν o).1) (rowM (ν o).1 1 row) &&& 255) &&& nI 1 <<< (nI x &&& 31) = nI 0) := fun q => by
    have := (due1 (v := trM (dT (ν o).1) (rowM (ν o).1 1 row)) hx).mp q
    rw [hdue] at this
    exact absurd this (by decide)
  rw [← hp] at hL2
  have hle2 := orV_le hR.1 (orV_ok (yR_N (hy o hR.1)) row 0) (row ++ [x]) 0
  generalize orV ν o row 0 = ν' at *
  have hlen : (row ++ [x]).length = row.length + 1 := by rw [List.length_append, List.length_singleton]
  have hof2 : ∀ v' PM', jY PM' ν' → aSp (d + 9) 90 [.ref 0, .int (nI 0)] (jH (J.1, J.2.1, (J.2.2.1.1, upd J.2.2.1.2.1 row.length (nI x), nI (row.length + 1), J.2.2.1.2.2.2), (nI (min (c + 1) 4), nI (nxt4 w), updS J.2.2.2.1.2.2 (nxt4 w) v'), J.2.2.2.2) PM') jv (fY yC (orV ν' o (row ++ [x]) 0) - fY yC ν') (fY yS (orV ν' o (row ++ [x]) 0) - fY yS ν') (fun r h' => r = some (.int (orA (ν o).1 o (row ++ [x]) 0)) ∧ ∃ PM2, h' = jH (J.1, J.2.1, (J.2.2.1.1, upd J.2.2.1.2.1 row.length (nI x), nI (row.length + 1), J.2.2.1.2.2.2), (nI (min (c + 1) 4), nI (nxt4 w), updS J.2.2.2.1.2.2 (nxt4 w) v'), J.2.2.2.2) PM2 ∧ jY PM2 (orV ν' o (row ++ [x]) 0)) := by
    intro v' PM' hy'
    have h := c_ofRow d 0 o (by decide) (J.1, J.2.1, (J.2.2.1.1, upd J.2.2.1.2.1 row.length (nI x), nI (row.length + 1), J.2.2.1.2.2.2), (nI (min (c + 1) 4), nI (nxt4 w), updS J.2.2.2.1.2.2 (nxt4 w) v'), J.2.2.2.2) PM' ν' (row ++ [x]) ⟨hR.1, by rw [hlen]; omega, by rw [hlen], hR.2.2.2.1, rwR_app hR.2.2.2.2 x⟩ hy' hL2 (fun _ => h14b)
    rw [hp] at h
    exact h
  generalize orV ν' o (row ++ [x]) 0 = ν2 at *
  generalize orA (ν o).1 o (row ++ [x]) 0 = aa at *
  generalize trM (dT (ν o).1) (rowM (ν o).1 1 row) &&& 255 = a at *
  have e3 := hR.2.2.1
  refine sp_of (by decide) (Nat.le_of_ble_eq_true rfl) ?_
  generalize hG : ((d + 10, _, jv, _, _, _) : aG) = G
  have ggd : gD G = d + 10 := by subst hG; rfl
  have ggn : gN G = 193 := by subst hG; exact jH_len _ _
  have ggm : gM G = jv := by subst hG; rfl
  have ggc : gC G = fY yC ν2 - fY yC ν := by subst hG; rfl
  have ggs : gS G = fY yS ν2 - fY yS ν := by subst hG; rfl
  have hret : ∀ v' PM' k' n', SQ v' J.2.2.1 → jY PM' ν2 → k' ≤ gC G → n' ≤ gS G → RET G (some (.int aa)) (jH (J.1, J.2.1, (J.2.2.1.1, upd J.2.2.1.2.1 row.length (nI x), nI (row.length + 1), J.2.2.1.2.2.2), (nI (min (c + 1) 4), nI (nxt4 w), updS J.2.2.2.1.2.2 (nxt4 w) v'), J.2.2.2.2) PM') k' n' := by
    subst hG
    exact fun v' PM' k' n' q1 q2 q3 q4 => RET.id ⟨rfl, v', PM', rfl, q1, q2⟩ q3 q4
  clear hG
  have t1 : ¬ x < 0 := by omega
  have t2 : x < 8 := hx
  refine wp_aw (S := fun _ => false) (by decide) 200 _ _ _ _ _ _ ?_
  simp (disch := first | exact rfl | decide | omega) only [u_92_0, u_92_1, u_92_4, u_92_5, u_92_7, u_92_10, u_92_11, u_92_13, u_92_16, u_92_17, u_92_18, u_92_19, u_92_22, u_92_23, u_92_24, u_92_25, u_92_26, u_92_29, u_92_30, u_92_32, u_92_35, u_92_36, u_92_37, u_92_40, u_92_43, u_92_45, u_92_48, u_92_49, u_92_51, u_92_54, u_92_55, u_92_56, u_92_59, u_92_60, u_92_63, u_92_66, u_92_67, u_92_70, u_92_71, u_92_74, u_92_75, u_92_76, u_92_79, wp_stop, lget, lput1, lput2, kil, hget, hset, vget, vset, fget, fgetC, fput, fputC, iget, igetC, jget, jgetC, qget, qgetC, alen, lenC, oI, oJ, oF, oA, oV, oH, oInc, oIld, oJld, oQld, oR, oLen, oIst, oBst, oJst, oQst, ciOf, rcv, oCp, cat1, cond_true, cond_false, Bool.and_self, Bool.and_true, Bool.true_and, Bool.or_true, Bool.true_or, Bool.or_false, Bool.false_or, Bool.not_false, Bool.not_true, ↓reduceIte, Nat.reduceBEq, Nat.reduceEqDiff, beq_self_eq_true, true_and, and_true, eq_self_iff_true, Nat.reduceAdd, Nat.blt, Nat.ble, z_le, z_lt, z_eq, z_cl, z_add, z_sub, z_mul, z_in, z_lt0, z_ofN, z_m1, z_ltm1, z_m1lt, z_eqm1, z_m1eq, z_m1le, z_lem1, z_beq, nI_0_1, nI_m1lt0, nI_0lem1, not_false_eq_true, not_true_eq_false, forall_const, false_implies, true_implies, implies_true, false_and, and_false, mrg, renc, tra, trv, sg, List.map_cons, List.map_nil, Option.map_some, Option.map_none, Option.toList_some, Option.toList_none, List.cons_append, List.nil_append, List.length_cons, List.length_nil, eL, mL_92, jH, jF, t1, t2]
  refine CAL.dirM hof (by rw [ggd]; omega) (by show _ ≤ gC G; rw [ggc]; omega) (by show _ ≤ gS G; rw [ggs]; omega) (Nat.le_of_ble_eq_true rfl) (by rw [ggn]; exact Nat.le_of_ble_eq_true rfl) (fun j _ z => by rw [← ggm]; exact z) rfl rfl ?_
  rintro _ _ ⟨rfl, PM', rfl, hy'⟩
  have hkp := J_keep d c w J PM' hc hw e1 e2
  simp (disch := first | exact rfl | decide | omega) only [u_92_0, u_92_1, u_92_4, u_92_5, u_92_7, u_92_10, u_92_11, u_92_13, u_92_16, u_92_17, u_92_18, u_92_19, u_92_22, u_92_23, u_92_24, u_92_25, u_92_26, u_92_29, u_92_30, u_92_32, u_92_35, u_92_36, u_92_37, u_92_40, u_92_43, u_92_45, u_92_48, u_92_49, u_92_51, u_92_54, u_92_55, u_92_56, u_92_59, u_92_60, u_92_63, u_92_66, u_92_67, u_92_70, u_92_71, u_92_74, u_92_75, u_92_76, u_92_79, wp_stop, lget, lput1, lput2, kil, hget, hset, vget, vset, fget, fgetC, fput, fputC, iget, igetC, jget, jgetC, qget, qgetC, alen, lenC, oI, oJ, oF, oA, oV, oH, oInc, oIld, oJld, oQld, oR, oLen, oIst, oBst, oJst, oQst, ciOf, rcv, oCp, cat1, cond_true, cond_false, Bool.and_self, Bool.and_true, Bool.true_and, Bool.or_true, Bool.true_or, Bool.or_false, Bool.false_or, Bool.not_false, Bool.not_true, ↓reduceIte, Nat.reduceBEq, Nat.reduceEqDiff, beq_self_eq_true, true_and, and_true, eq_self_iff_true, Nat.reduceAdd, Nat.blt, Nat.ble, z_le, z_lt, z_eq, z_cl, z_add, z_sub, z_mul, z_in, z_lt0, z_ofN, z_m1, z_ltm1, z_m1lt, z_eqm1, z_m1eq, z_m1le, z_lem1, z_beq, nI_0_1, nI_m1lt0, nI_0lem1, not_false_eq_true, not_true_eq_false, forall_const, false_implies, true_implies, implies_true, false_and, and_false, mrg, renc, tra, trv, sg, List.map_cons, List.map_nil, Option.map_some, Option.map_none, Option.toList_some, Option.toList_none, List.cons_append, List.nil_append, List.length_cons, List.length_nil, jH, jF, t3, e3, h20]
  rw [← e3]
  refine CAL.dir hkp (by rw [ggd]; omega) (by show _ ≤ gC G; rw [ggc]; omega) (by show _ ≤ gS G; rw [ggs]; omega) (Nat.le_of_ble_eq_true rfl) (by rw [ggn]; exact Nat.le_of_ble_eq_true rfl) rfl rfl ?_
  rintro _ _ ⟨rfl, v', rfl, hq⟩
  have had := J_addToRow d (J.1, J.2.1, J.2.2.1, (nI (min (c + 1) 4), nI (nxt4 w), updS J.2.2.2.1.2.2 (nxt4 w) v'), J.2.2.2.2) PM' row.length (nI x) h20 e3
  simp (disch := first | exact rfl | decide | omega) only [u_92_0, u_92_1, u_92_4, u_92_5, u_92_7, u_92_10, u_92_11, u_92_13, u_92_16, u_92_17, u_92_18, u_92_19, u_92_22, u_92_23, u_92_24, u_92_25, u_92_26, u_92_29, u_92_30, u_92_32, u_92_35, u_92_36, u_92_37, u_92_40, u_92_43, u_92_45, u_92_48, u_92_49, u_92_51, u_92_54, u_92_55, u_92_56, u_92_59, u_92_60, u_92_63, u_92_66, u_92_67, u_92_70, u_92_71, u_92_74, u_92_75, u_92_76, u_92_79, wp_stop, lget, lput1, lput2, kil, hget, hset, vget, vset, fget, fgetC, fput, fputC, iget, igetC, jget, jgetC, qget, qgetC, alen, lenC, oI, oJ, oF, oA, oV, oH, oInc, oIld, oJld, oQld, oR, oLen, oIst, oBst, oJst, oQst, ciOf, rcv, oCp, cat1, cond_true, cond_false, Bool.and_self, Bool.and_true, Bool.true_and, Bool.or_true, Bool.true_or, Bool.or_false, Bool.false_or, Bool.not_false, Bool.not_true, ↓reduceIte, Nat.reduceBEq, Nat.reduceEqDiff, beq_self_eq_true, true_and, and_true, eq_self_iff_true, Nat.reduceAdd, Nat.blt, Nat.ble, z_le, z_lt, z_eq, z_cl, z_add, z_sub, z_mul, z_in, z_lt0, z_ofN, z_m1, z_ltm1, z_m1lt, z_eqm1, z_m1eq, z_m1le, z_lem1, z_beq, nI_0_1, nI_m1lt0, nI_0lem1, not_false_eq_true, not_true_eq_false, forall_const, false_implies, true_implies, implies_true, false_and, and_false, mrg, renc, tra, trv, sg, List.map_cons, List.map_nil, Option.map_some, Option.map_none, Option.toList_some, Option.toList_none, List.cons_append, List.nil_append, List.length_cons, List.length_nil, jH, jF]
  refine CAL.dir had (by rw [ggd]; omega) (by show _ ≤ gC G; rw [ggc]; omega) (by show _ ≤ gS G; rw [ggs]; omega) (Nat.le_of_ble_eq_true rfl) (by rw [ggn]; exact Nat.le_of_ble_eq_true rfl) rfl rfl ?_
  rintro _ _ ⟨rfl, rfl⟩
  have hf := hret v'
  clear hret
  simp (disch := first | exact rfl | decide | omega) only [u_92_0, u_92_1, u_92_4, u_92_5, u_92_7, u_92_10, u_92_11, u_92_13, u_92_16, u_92_17, u_92_18, u_92_19, u_92_22, u_92_23, u_92_24, u_92_25, u_92_26, u_92_29, u_92_30, u_92_32, u_92_35, u_92_36, u_92_37, u_92_40, u_92_43, u_92_45, u_92_48, u_92_49, u_92_51, u_92_54, u_92_55, u_92_56, u_92_59, u_92_60, u_92_63, u_92_66, u_92_67, u_92_70, u_92_71, u_92_74, u_92_75, u_92_76, u_92_79, wp_stop, lget, lput1, lput2, kil, hget, hset, vget, vset, fget, fgetC, fput, fputC, iget, igetC, jget, jgetC, qget, qgetC, alen, lenC, oI, oJ, oF, oA, oV, oH, oInc, oIld, oJld, oQld, oR, oLen, oIst, oBst, oJst, oQst, ciOf, rcv, oCp, cat1, cond_true, cond_false, Bool.and_self, Bool.and_true, Bool.true_and, Bool.or_true, Bool.true_or, Bool.or_false, Bool.false_or, Bool.not_false, Bool.not_true, ↓reduceIte, Nat.reduceBEq, Nat.reduceEqDiff, beq_self_eq_true, true_and, and_true, eq_self_iff_true, Nat.reduceAdd, Nat.blt, Nat.ble, z_le, z_lt, z_eq, z_cl, z_add, z_sub, z_mul, z_in, z_lt0, z_ofN, z_m1, z_ltm1, z_m1lt, z_eqm1, z_m1eq, z_m1le, z_lem1, z_beq, nI_0_1, nI_m1lt0, nI_0lem1, not_false_eq_true, not_true_eq_false, forall_const, false_implies, true_implies, implies_true, false_and, and_false, mrg, renc, tra, trv, sg, List.map_cons, List.map_nil, Option.map_some, Option.map_none, Option.toList_some, Option.toList_none, List.cons_append, List.nil_append, List.length_cons, List.length_nil, jH, jF]
  refine CAL.dirM (hof2 v' PM' hy') (by rw [ggd]; omega) (by show _ ≤ gC G; rw [ggc]; omega) (by show _ ≤ gS G; rw [ggs]; omega) (Nat.le_of_ble_eq_true rfl) (by rw [ggn]; exact Nat.le_of_ble_eq_true rfl) (fun j _ z => by rw [← ggm]; exact z) rfl rfl ?_
  rintro _ _ ⟨rfl, PM2, rfl, hy2⟩
  have hf2 := hf PM2 (0 + (fY yC ν' - fY yC ν) + 0 + 0 + (fY yC ν2 - fY yC ν')) (0 + (fY yS ν' - fY yS ν) + 0 + 0 + (fY yS ν2 - fY yS ν')) hq hy2 (by rw [ggc]; omega) (by rw [ggs]; omega)
  simp (disch := first | exact rfl | decide | omega) only [u_92_0, u_92_1, u_92_4, u_92_5, u_92_7, u_92_10, u_92_11, u_92_13, u_92_16, u_92_17, u_92_18, u_92_19, u_92_22, u_92_23, u_92_24, u_92_25, u_92_26, u_92_29, u_92_30, u_92_32, u_92_35, u_92_36, u_92_37, u_92_40, u_92_43, u_92_45, u_92_48, u_92_49, u_92_51, u_92_54, u_92_55, u_92_56, u_92_59, u_92_60, u_92_63, u_92_66, u_92_67, u_92_70, u_92_71, u_92_74, u_92_75, u_92_76, u_92_79, wp_stop, lget, lput1, lput2, kil, hget, hset, vget, vset, fget, fgetC, fput, fputC, iget, igetC, jget, jgetC, qget, qgetC, alen, lenC, oI, oJ, oF, oA, oV, oH, oInc, oIld, oJld, oQld, oR, oLen, oIst, oBst, oJst, oQst, ciOf, rcv, oCp, cat1, cond_true, cond_false, Bool.and_self, Bool.and_true, Bool.true_and, Bool.or_true, Bool.true_or, Bool.or_false, Bool.false_or, Bool.not_false, Bool.not_true, ↓reduceIte, Nat.reduceBEq, Nat.reduceEqDiff, beq_self_eq_true, true_and, and_true, eq_self_iff_true, Nat.reduceAdd, Nat.blt, Nat.ble, z_le, z_lt, z_eq, z_cl, z_add, z_sub, z_mul, z_in, z_lt0, z_ofN, z_m1, z_ltm1, z_m1lt, z_eqm1, z_m1eq, z_m1le, z_lem1, z_beq, nI_0_1, nI_m1lt0, nI_0lem1, not_false_eq_true, not_true_eq_false, forall_const, false_implies, true_implies, implies_true, false_and, and_false, mrg, renc, tra, trv, sg, List.map_cons, List.map_nil, Option.map_some, Option.map_none, Option.toList_some, Option.toList_none, List.cons_append, List.nil_append, List.length_cons, List.length_nil]
  exact hf2
