/-! Constructors of the book and, of the judge's own, the last part -/
abbrev bk0 : aC := .inr (0, [.null, .null, .int 0, .int 0, .int 0, .int 0, .int 0, .int 0, .int 0, .int 0])
abbrev bkN (a b : Nat) : aC := .inr (0, [.ref a, .ref b, .int 0, .int 0, .int 0, .int 0, .int 0, .int 0, .int 0, .int 0])
theorem blt_1 {a n : Nat} (h : a < n) : Nat.blt a n = true := by rw [Nat.blt_eq]; exact h
set_option maxRecDepth 100000 in
theorem c_bookInit (d : Nat) (h : aH) (hok : ∀ n, h.length ≤ n → okH n nomv h) : aSp (d + 1) 31 [.ref h.length] (h ++ [bk0]) nomv 2 18 (fun r h' => r = none ∧ h' = h ++ [bkN (h.length + 1) (h.length + 2), .inl (1, 9, .inl (fun _ => 0)), .inl (1, 9, .inl (fun _ => 0))]) := by
  refine sp_of (by decide) (Nat.le_of_ble_eq_true rfl) ?_
  generalize hG : ((d + 1, _, nomv, _, _, _) : aG) = G
  have ggd : gD G = d + 1 := by subst hG; rfl
  have ggn : gN G = h.length + 1 := by
    subst hG
    show (h ++ [bk0]).length = _
    rw [List.length_append]
    rfl
  have ggc : gC G = 2 := by subst hG; rfl
  have ggs : gS G = 18 := by subst hG; rfl
  have hret : RET G none (h ++ [bkN (h.length + 1) (h.length + 2), .inl (1, 9, .inl (fun _ => 0)), .inl (1, 9, .inl (fun _ => 0))]) 2 18 := by
    subst hG
    exact RET.id ⟨rfl, rfl⟩ (Nat.le_refl _) (Nat.le_refl _)
  clear hG
  have hd1 : 1 ≤ gD G := by rw [ggd]; omega
  have hc0 : (0 : Nat) ≤ 8 := Nat.zero_le _
  have t1 : (9 : Nat) * 4 ≤ 536870912 := by decide
  have l1 : (h ++ [bk0]).length = h.length + 1 := by rw [List.length_append]; rfl
  have l2 : ∀ c1 c2 : aC, (h ++ [c1, c2]).length = h.length + 2 := fun c1 c2 => by rw [List.length_append]; rfl
  have hb1 : Nat.blt h.length (h.length + 1) = true := blt_1 (by omega)
  have hb3 : Nat.blt h.length (h.length + 2) = true := blt_1 (by omega)
  have hb5 : Nat.blt (h.length + 1) (h.length + 2) = true := blt_1 (by omega)
  refine wp_aw (S := fun _ => false) (by decide) 200 _ _ _ _ _ _ ?_
  simp (disch := first | exact rfl | decide | omega) only [u_31_0, u_31_1, u_31_4, u_31_5, u_31_7, u_31_9, u_31_12, u_31_13, u_31_15, u_31_17, u_31_20, wp_stop, lget, lput1, lput2, kil, hget, hset, vget, vset, fget, fgetC, fput, fputC, iget, igetC, jget, jgetC, qget, qgetC, alen, lenC, oI, oJ, oF, oA, oV, oH, oInc, oIld, oJld, oQld, oR, oLen, oIst, oBst, oJst, oQst, ciOf, rcv, oCp, cat1, cond_true, cond_false, Bool.and_self, Bool.and_true, Bool.true_and, Bool.or_true, Bool.true_or, Bool.or_false, Bool.false_or, Bool.not_false, Bool.not_true, ↓reduceIte, Nat.reduceBEq, Nat.reduceEqDiff, beq_self_eq_true, true_and, and_true, eq_self_iff_true, Nat.reduceAdd, Nat.blt, Nat.ble, z_le, z_lt, z_eq, z_cl, z_add, z_sub, z_mul, z_in, z_lt0, z_ofN, z_m1, z_ltm1, z_m1lt, z_eqm1, z_m1eq, z_m1le, z_lem1, z_beq, nI_0_1, nI_m1lt0, nI_0lem1, not_false_eq_true, not_true_eq_false, forall_const, false_implies, true_implies, implies_true, false_and, and_false, mrg, renc, tra, trv, sg, List.map_cons, List.map_nil, Option.map_some, Option.map_none, Option.toList_some, Option.toList_none, List.cons_append, List.nil_append, List.length_cons, List.length_nil, eL, mL_31, hd1, List.sum_nil, hc0, t1, hget_app, hset_app, List.append_assoc]
  refine oNew.mkP (by rw [ggc]; omega) (by rw [ggs]; omega) (by rw [ggn, l1]; omega) (by rw [l1]; exact okH_app (hok _ (by omega)) ⟨rfl, trivial⟩) (by rw [l1]; simp only [okL, okV, hb1, nomv]; rfl) (by rw [l1]; simp only [okS, okV, hb1, nomv]; rfl) ?_
  simp (disch := first | exact rfl | decide | omega) only [u_31_0, u_31_1, u_31_4, u_31_5, u_31_7, u_31_9, u_31_12, u_31_13, u_31_15, u_31_17, u_31_20, wp_stop, lget, lput1, lput2, kil, hget, hset, vget, vset, fget, fgetC, fput, fputC, iget, igetC, jget, jgetC, qget, qgetC, alen, lenC, oI, oJ, oF, oA, oV, oH, oInc, oIld, oJld, oQld, oR, oLen, oIst, oBst, oJst, oQst, ciOf, rcv, oCp, cat1, cond_true, cond_false, Bool.and_self, Bool.and_true, Bool.true_and, Bool.or_true, Bool.true_or, Bool.or_false, Bool.false_or, Bool.not_false, Bool.not_true, ↓reduceIte, Nat.reduceBEq, Nat.reduceEqDiff, beq_self_eq_true, true_and, and_true, eq_self_iff_true, Nat.reduceAdd, Nat.blt, Nat.ble, z_le, z_lt, z_eq, z_cl, z_add, z_sub, z_mul, z_in, z_lt0, z_ofN, z_m1, z_ltm1, z_m1lt, z_eqm1, z_m1eq, z_m1le, z_lem1, z_beq, nI_0_1, nI_m1lt0, nI_0lem1, not_false_eq_true, not_true_eq_false, forall_const, false_implies, true_implies, implies_true, false_and, and_false, mrg, renc, tra, trv, sg, List.map_cons, List.map_nil, Option.map_some, Option.map_none, Option.toList_some, Option.toList_none, List.cons_append, List.nil_append, List.length_cons, List.length_nil, t1, cI, hget_app, hset_app, List.append_assoc]
  rw [l1]
  refine oNew.mkP (by rw [ggc]; omega) (by rw [ggs]; omega) (by rw [ggn, l2]; omega) (by rw [l2]; exact okH_app (hok _ (by omega)) ⟨by show okS _ _ _ = true; simp only [okS, okV, hb5, nomv]; rfl, trivial, trivial⟩) (by rw [l2]; simp only [okL, okV, hb3, nomv]; rfl) (by rw [l2]; simp only [okS, okV, hb3, nomv]; rfl) ?_
  simp (disch := first | exact rfl | decide | omega) only [u_31_0, u_31_1, u_31_4, u_31_5, u_31_7, u_31_9, u_31_12, u_31_13, u_31_15, u_31_17, u_31_20, wp_stop, lget, lput1, lput2, kil, hget, hset, vget, vset, fget, fgetC, fput, fputC, iget, igetC, jget, jgetC, qget, qgetC, alen, lenC, oI, oJ, oF, oA, oV, oH, oInc, oIld, oJld, oQld, oR, oLen, oIst, oBst, oJst, oQst, ciOf, rcv, oCp, cat1, cond_true, cond_false, Bool.and_self, Bool.and_true, Bool.true_and, Bool.or_true, Bool.true_or, Bool.or_false, Bool.false_or, Bool.not_false, Bool.not_true, ↓reduceIte, Nat.reduceBEq, Nat.reduceEqDiff, beq_self_eq_true, true_and, and_true, eq_self_iff_true, Nat.reduceAdd, Nat.blt, Nat.ble, z_le, z_lt, z_eq, z_cl, z_add, z_sub, z_mul, z_in, z_lt0, z_ofN, z_m1, z_ltm1, z_m1lt, z_eqm1, z_m1eq, z_m1le, z_lem1, z_beq, nI_0_1, nI_m1lt0, nI_0lem1, not_false_eq_true, not_true_eq_false, forall_const, false_implies, true_implies, implies_true, false_and, and_false, mrg, renc, tra, trv, sg, List.map_cons, List.map_nil, Option.map_some, Option.map_none, Option.toList_some, Option.toList_none, List.cons_append, List.nil_append, List.length_cons, List.length_nil, cI, hget_app, hset_app, List.append_assoc, l2]
  exact hret
