/-! ResidualJudge.back -/
theorem flS_congr (f : aZ → Nat) (α : Nat → aZ) {pt pt' : Nat → Int64} : ∀ k, (∀ x, x < k → pt x = pt' x) → flS f α (fwA α pt) k = flS f α (fwA α pt') k
  | 0, _ => rfl
  | k + 1, h => by
    show flS f α (fwA α pt) k + (f (fwA α pt k) - f (α k)) = flS f α (fwA α pt') k + (f (fwA α pt' k) - f (α k))
    rw [flS_congr f α k (fun x hx => h x (by omega))]
    unfold fwA
    rw [h k (by omega)]
set_option maxRecDepth 100000 in
theorem c_backNo (d a b e : Nat) (t : jT) (v : aS) (nw : Int32) (s : Nat → aS) (r0 : jR) (cn : jN) (bk : jB) (PM : Nat → PS × MS) : aSp (d + 1) 95 [.ref 0] (jH ((a, b, e), t, v, (nI 0, nw, s), r0, cn, bk) PM) jv 0 0 (fun r h' => r = some (.int (-3)) ∧ h' = jH ((a, b + 1, e), t, v, (nI 0, nw, s), r0, cn, bk) PM) := by
  refine sp_of (by decide) (Nat.le_of_ble_eq_true rfl) ?_
  generalize hG : ((d + 1, _, jv, _, _, _) : aG) = G
  have ggd : gD G = d + 1 := by subst hG; rfl
  have ggn : gN G = 193 := by subst hG; exact jH_len _ PM
  have hret : RET G (some (.int (-3))) (jH ((a, b + 1, e), t, v, (nI 0, nw, s), r0, cn, bk) PM) 0 0 := by
    subst hG
    exact RET.id ⟨rfl, rfl⟩ (Nat.le_refl _) (Nat.le_refl _)
  clear hG
  refine wp_aw (S := fun _ => false) (by decide) 200 _ _ _ _ _ _ ?_
  simp (disch := first | exact rfl | decide | omega) only [u_95_0, u_95_1, u_95_4, u_95_7, u_95_10, u_95_11, u_95_13, u_95_16, u_95_17, u_95_18, u_95_21, u_95_22, u_95_25, u_95_28, u_95_29, u_95_32, u_95_33, u_95_36, u_95_39, u_95_42, u_95_43, u_95_46, u_95_49, wp_stop, lget, lput1, lput2, kil, hget, hset, vget, vset, fget, fgetC, fput, fputC, iget, igetC, jget, jgetC, qget, qgetC, alen, lenC, oI, oJ, oF, oA, oV, oH, oInc, oIld, oJld, oQld, oR, oLen, oIst, oBst, oJst, oQst, ciOf, rcv, oCp, cat1, cond_true, cond_false, Bool.and_self, Bool.and_true, Bool.true_and, Bool.or_true, Bool.true_or, Bool.or_false, Bool.false_or, Bool.not_false, Bool.not_true, ↓reduceIte, Nat.reduceBEq, Nat.reduceEqDiff, beq_self_eq_true, true_and, and_true, eq_self_iff_true, Nat.reduceAdd, Nat.blt, Nat.ble, z_le, z_lt, z_eq, z_cl, z_add, z_sub, z_mul, z_in, z_lt0, z_ofN, z_m1, z_ltm1, z_m1lt, z_eqm1, z_m1eq, z_m1le, z_lem1, z_beq, nI_0_1, nI_m1lt0, nI_0lem1, not_false_eq_true, not_true_eq_false, forall_const, false_implies, true_implies, implies_true, false_and, and_false, mrg, renc, tra, trv, sg, List.map_cons, List.map_nil, Option.map_some, Option.map_none, Option.toList_some, Option.toList_none, List.cons_append, List.nil_append, List.length_cons, List.length_nil, eL, mL_95, jH, jF]
  refine CAL.dir (c_refNo a b e t v (nI 0, nw, s) r0 cn bk PM d) (by rw [ggd]; omega) (Nat.zero_le _) (Nat.zero_le _) (Nat.le_of_ble_eq_true rfl) (by rw [ggn]; exact Nat.le_of_ble_eq_true rfl) rfl rfl ?_
  rintro _ _ ⟨rfl, rfl⟩
  simp (disch := first | exact rfl | decide | omega) only [u_95_0, u_95_1, u_95_4, u_95_7, u_95_10, u_95_11, u_95_13, u_95_16, u_95_17, u_95_18, u_95_21, u_95_22, u_95_25, u_95_28, u_95_29, u_95_32, u_95_33, u_95_36, u_95_39, u_95_42, u_95_43, u_95_46, u_95_49, wp_stop, lget, lput1, lput2, kil, hget, hset, vget, vset, fget, fgetC, fput, fputC, iget, igetC, jget, jgetC, qget, qgetC, alen, lenC, oI, oJ, oF, oA, oV, oH, oInc, oIld, oJld, oQld, oR, oLen, oIst, oBst, oJst, oQst, ciOf, rcv, oCp, cat1, cond_true, cond_false, Bool.and_self, Bool.and_true, Bool.true_and, Bool.or_true, Bool.true_or, Bool.or_false, Bool.false_or, Bool.not_false, Bool.not_true, ↓reduceIte, Nat.reduceBEq, Nat.reduceEqDiff, beq_self_eq_true, true_and, and_true, eq_self_iff_true, Nat.reduceAdd, Nat.blt, Nat.ble, z_le, z_lt, z_eq, z_cl, z_add, z_sub, z_mul, z_in, z_lt0, z_ofN, z_m1, z_ltm1, z_m1lt, z_eqm1, z_m1eq, z_m1le, z_lem1, z_beq, nI_0_1, nI_m1lt0, nI_0lem1, not_false_eq_true, not_true_eq_false, forall_const, false_implies, true_implies, implies_true, false_and, and_false, mrg, renc, tra, trv, sg, List.map_cons, List.map_nil, Option.map_some, Option.map_none, Option.toList_some, Option.toList_none, List.cons_append, List.nil_append, List.length_cons, List.length_nil]
  exact hret
set_option maxRecDepth 100000 in
theorem c_back (d c w : Nat) (J : jS) (PM : Nat → PS × MS) (α : Nat → aZ) (h0 : ∀ x, x < 9 → zR0 (PM x) (α x)) (hp : ∀ y, y < 9 → okP ((J.2.2.2.1.2.2 w).1 y)) (hc : c < 4) (hw : w < 4) (e1 : J.2.2.2.1.1 = nI (c + 1)) (e2 : J.2.2.2.1.2.1 = nI w) :
    aSp (d + 51) 95 [.ref 0] (jH J PM) jv (flS zC α (fwA α (J.2.2.2.1.2.2 w).1) 9) (flS zS α (fwA α (J.2.2.2.1.2.2 w).1) 9)
      (fun r h' => r = some (.int (nI c)) ∧ ∃ v' PM', h' = jH (J.1, J.2.1, v', (nI c, nI (prv4 w), J.2.2.2.1.2.2), J.2.2.2.2) PM' ∧ SQ v' (J.2.2.2.1.2.2 w) ∧ fwR PM PM' α v'.1 9) := by
  refine sp_of (by decide) (Nat.le_of_ble_eq_true rfl) ?_
  generalize hG : ((d + 51, _, jv, _, _, _) : aG) = G
  have ggd : gD G = d + 51 := by subst hG; rfl
  have ggn : gN G = 193 := by subst hG; exact jH_len _ PM
  have ggm : gM G = jv := by subst hG; rfl
  have ggc : gC G = flS zC α (fwA α (J.2.2.2.1.2.2 w).1) 9 := by subst hG; rfl
  have ggs : gS G = flS zS α (fwA α (J.2.2.2.1.2.2 w).1) 9 := by subst hG; rfl
  have hret : ∀ v' PM' k' n', SQ v' (J.2.2.2.1.2.2 w) → fwR PM PM' α v'.1 9 → k' ≤ gC G → n' ≤ gS G → RET G (some (.int (nI c))) (jH (J.1, J.2.1, v', (nI c, nI (prv4 w), J.2.2.2.1.2.2), J.2.2.2.2) PM') k' n' := by
    subst hG
    exact fun v' PM' k' n' q1 q2 q3 q4 => RET.id ⟨rfl, v', PM', rfl, q1, q2⟩ q3 q4
  clear hG
  have hk := J_restore (d + 48) c w J PM hc hw e1 e2
  have t1 : ¬ c + 1 = 0 := by omega
  refine wp_aw (S := fun _ => false) (by decide) 200 _ _ _ _ _ _ ?_
  simp (disch := first | exact rfl | decide | omega) only [u_95_0, u_95_1, u_95_4, u_95_7, u_95_10, u_95_11, u_95_13, u_95_16, u_95_17, u_95_18, u_95_21, u_95_22, u_95_25, u_95_28, u_95_29, u_95_32, u_95_33, u_95_36, u_95_39, u_95_42, u_95_43, u_95_46, u_95_49, wp_stop, lget, lput1, lput2, kil, hget, hset, vget, vset, fget, fgetC, fput, fputC, iget, igetC, jget, jgetC, qget, qgetC, alen, lenC, oI, oJ, oF, oA, oV, oH, oInc, oIld, oJld, oQld, oR, oLen, oIst, oBst, oJst, oQst, ciOf, rcv, oCp, cat1, cond_true, cond_false, Bool.and_self, Bool.and_true, Bool.true_and, Bool.or_true, Bool.true_or, Bool.or_false, Bool.false_or, Bool.not_false, Bool.not_true, ↓reduceIte, Nat.reduceBEq, Nat.reduceEqDiff, beq_self_eq_true, true_and, and_true, eq_self_iff_true, Nat.reduceAdd, Nat.blt, Nat.ble, z_le, z_lt, z_eq, z_cl, z_add, z_sub, z_mul, z_in, z_lt0, z_ofN, z_m1, z_ltm1, z_m1lt, z_eqm1, z_m1eq, z_m1le, z_lem1, z_beq, nI_0_1, nI_m1lt0, nI_0lem1, not_false_eq_true, not_true_eq_false, forall_const, false_implies, true_implies, implies_true, false_and, and_false, mrg, renc, tra, trv, sg, List.map_cons, List.map_nil, Option.map_some, Option.map_none, Option.toList_some, Option.toList_none, List.cons_append, List.nil_append, List.length_cons, List.length_nil, eL, mL_95, jH, jF, e1, t1]
  rw [← e1]
  refine CAL.dir hk (by rw [ggd]; omega) (by show _ ≤ gC G; omega) (by show _ ≤ gS G; omega) (Nat.le_of_ble_eq_true rfl) (by rw [ggn]; exact Nat.le_of_ble_eq_true rfl) rfl rfl ?_
  rintro _ _ ⟨rfl, v', rfl, hq⟩
  obtain ⟨mv, hmv, hfo⟩ := J_follow d (J.1, J.2.1, v', (nI c, nI (prv4 w), J.2.2.2.1.2.2), J.2.2.2.2) PM α h0 (fun x hx => by show okP (v'.1 x); rw [hq.1 x hx]; exact hp x hx)
  have g1 : flS zC α (fwA α v'.1) 9 = gC G := by rw [ggc]; exact flS_congr zC α 9 (fun x hx => hq.1 x hx)
  have g2 : flS zS α (fwA α v'.1) 9 = gS G := by rw [ggs]; exact flS_congr zS α 9 (fun x hx => hq.1 x hx)
  simp (disch := first | exact rfl | decide | omega) only [u_95_0, u_95_1, u_95_4, u_95_7, u_95_10, u_95_11, u_95_13, u_95_16, u_95_17, u_95_18, u_95_21, u_95_22, u_95_25, u_95_28, u_95_29, u_95_32, u_95_33, u_95_36, u_95_39, u_95_42, u_95_43, u_95_46, u_95_49, wp_stop, lget, lput1, lput2, kil, hget, hset, vget, vset, fget, fgetC, fput, fputC, iget, igetC, jget, jgetC, qget, qgetC, alen, lenC, oI, oJ, oF, oA, oV, oH, oInc, oIld, oJld, oQld, oR, oLen, oIst, oBst, oJst, oQst, ciOf, rcv, oCp, cat1, cond_true, cond_false, Bool.and_self, Bool.and_true, Bool.true_and, Bool.or_true, Bool.true_or, Bool.or_false, Bool.false_or, Bool.not_false, Bool.not_true, ↓reduceIte, Nat.reduceBEq, Nat.reduceEqDiff, beq_self_eq_true, true_and, and_true, eq_self_iff_true, Nat.reduceAdd, Nat.blt, Nat.ble, z_le, z_lt, z_eq, z_cl, z_add, z_sub, z_mul, z_in, z_lt0, z_ofN, z_m1, z_ltm1, z_m1lt, z_eqm1, z_m1eq, z_m1le, z_lem1, z_beq, nI_0_1, nI_m1lt0, nI_0lem1, not_false_eq_true, not_true_eq_false, forall_const, false_implies, true_implies, implies_true, false_and, and_false, mrg, renc, tra, trv, sg, List.map_cons, List.map_nil, Option.map_some, Option.map_none, Option.toList_some, Option.toList_none, List.cons_append, List.nil_append, List.length_cons, List.length_nil, jH, jF]
  refine CAL.dirM hfo (by rw [ggd]; omega) (by show 0 + 0 + flS zC α (fwA α v'.1) 9 ≤ gC G; omega) (by show 0 + 0 + flS zS α (fwA α v'.1) 9 ≤ gS G; omega) (Nat.le_of_ble_eq_true rfl) (by rw [ggn]; exact Nat.le_of_ble_eq_true rfl) (fun j _ z => jv_I hmv (by rw [← ggm]; exact z)) (okL_mono hmv rfl) rfl ?_
  rintro _ _ ⟨rfl, PM', rfl, hfw⟩
  simp (disch := first | exact rfl | decide | omega) only [u_95_0, u_95_1, u_95_4, u_95_7, u_95_10, u_95_11, u_95_13, u_95_16, u_95_17, u_95_18, u_95_21, u_95_22, u_95_25, u_95_28, u_95_29, u_95_32, u_95_33, u_95_36, u_95_39, u_95_42, u_95_43, u_95_46, u_95_49, wp_stop, lget, lput1, lput2, kil, hget, hset, vget, vset, fget, fgetC, fput, fputC, iget, igetC, jget, jgetC, qget, qgetC, alen, lenC, oI, oJ, oF, oA, oV, oH, oInc, oIld, oJld, oQld, oR, oLen, oIst, oBst, oJst, oQst, ciOf, rcv, oCp, cat1, cond_true, cond_false, Bool.and_self, Bool.and_true, Bool.true_and, Bool.or_true, Bool.true_or, Bool.or_false, Bool.false_or, Bool.not_false, Bool.not_true, ↓reduceIte, Nat.reduceBEq, Nat.reduceEqDiff, beq_self_eq_true, true_and, and_true, eq_self_iff_true, Nat.reduceAdd, Nat.blt, Nat.ble, z_le, z_lt, z_eq, z_cl, z_add, z_sub, z_mul, z_in, z_lt0, z_ofN, z_m1, z_ltm1, z_m1lt, z_eqm1, z_m1eq, z_m1le, z_lem1, z_beq, nI_0_1, nI_m1lt0, nI_0lem1, not_false_eq_true, not_true_eq_false, forall_const, false_implies, true_implies, implies_true, false_and, and_false, mrg, renc, tra, trv, sg, List.map_cons, List.map_nil, Option.map_some, Option.map_none, Option.toList_some, Option.toList_none, List.cons_append, List.nil_append, List.length_cons, List.length_nil, jH, jF]
  exact hret v' PM' _ _ hq hfw (by show 0 + 0 + flS zC α (fwA α v'.1) 9 ≤ gC G; omega) (by show 0 + 0 + flS zS α (fwA α v'.1) 9 ≤ gS G; omega)
