/-! GrammarReader: takes, readOrders -/
set_option maxRecDepth 100000 in
theorem c_takes (d c : Nat) (hc : c < 128) (σ : rS) (h : aH) (hR : rdR h σ) (hI : rdI σ) : aSp (d + 4) 39 [.ref 0, .int (nI c)] h nomv 0 0 (rdP (rdT σ c)) := by
  have hlen : h.length = 3 := by
    obtain ⟨pts, wt, w, o, nd, k, pat, own, rfl, -⟩ := hR
    rfl
  have h4 : σ.ph = 0 ∨ σ.ph = 1 ∨ σ.ph = 2 ∨ σ.ph = 3 := by have := hI.1; omega
  rcases h4 with h4 | h4 | h4 | h4
  · have e : rdT σ c = rdO σ c := if_pos h4
    rw [e]
    have hq := c_takesOwner (d + 2) c hc σ h hR h4
    obtain ⟨pts, wt, w, o, nd, k, pat, own, rfl, -⟩ := hR
    refine sp_of (by decide) (Nat.le_of_ble_eq_true rfl) ?_
    generalize hG : ((d + 4, _, nomv, _, _, _) : aG) = G
    have ggd : gD G = d + 4 := by subst hG; rfl
    have ggn : gN G = 3 := by subst hG; rfl
    have ggm : gM G = nomv := by subst hG; rfl
    have ggc : gC G = 0 := by subst hG; rfl
    have ggs : gS G = 0 := by subst hG; rfl
    have hgp : gP G = rdP (rdO σ c) := by subst hG; rfl
    clear hG
    refine wp_aw (S := fun _ => false) (by decide) 200 _ _ _ _ _ _ ?_
    simp (disch := first | exact rfl | decide | omega) only [u_39_0, u_39_1, u_39_4, u_39_32, u_39_33, u_39_34, u_39_37, u_39_38, u_39_39, u_39_40, u_39_43, u_39_44, u_39_46, u_39_49, u_39_50, u_39_53, u_39_54, u_39_55, u_39_56, u_39_57, u_39_60, u_39_61, u_39_62, u_39_63, u_39_66, wp_stop, lget, lput1, lput2, kil, hget, hset, vget, vset, fget, fgetC, fput, fputC, iget, igetC, jget, jgetC, qget, qgetC, alen, lenC, oI, oJ, oF, oA, oV, oH, oInc, oIld, oJld, oQld, oR, oLen, oIst, oBst, oJst, oQst, ciOf, rcv, oCp, cat1, cond_true, cond_false, Bool.and_self, Bool.and_true, Bool.true_and, Bool.or_true, Bool.true_or, Bool.or_false, Bool.false_or, Bool.not_false, Bool.not_true, ↓reduceIte, Nat.reduceBEq, Nat.reduceEqDiff, beq_self_eq_true, true_and, and_true, eq_self_iff_true, Nat.reduceAdd, Nat.blt, Nat.ble, z_le, z_lt, z_eq, z_cl, z_add, z_sub, z_mul, z_in, z_lt0, z_ofN, z_m1, z_ltm1, z_m1lt, z_eqm1, z_m1eq, z_m1le, z_lem1, z_beq, nI_0_1, nI_m1lt0, nI_0lem1, not_false_eq_true, not_true_eq_false, forall_const, false_implies, true_implies, implies_true, false_and, and_false, mrg, renc, tra, trv, sg, List.map_cons, List.map_nil, Option.map_some, Option.map_none, Option.toList_some, Option.toList_none, List.cons_append, List.nil_append, List.length_cons, List.length_nil, eL, mL_39, rX, h4]
    rw [h4] at hq
    refine CAL.dir hq (by rw [ggd]; omega) (by rw [ggc]; omega) (by rw [ggs]; omega) (Nat.le_of_ble_eq_true rfl) (by rw [ggn]; exact Nat.le_of_ble_eq_true rfl) rfl rfl ?_
    intro r h' hp
    cases hd : rdO σ c with
    | none =>
      rw [hd] at hp hgp
      obtain ⟨rfl, hx⟩ := hp
      simp (disch := first | exact rfl | decide | omega) only [u_39_0, u_39_1, u_39_4, u_39_32, u_39_33, u_39_34, u_39_37, u_39_38, u_39_39, u_39_40, u_39_43, u_39_44, u_39_46, u_39_49, u_39_50, u_39_53, u_39_54, u_39_55, u_39_56, u_39_57, u_39_60, u_39_61, u_39_62, u_39_63, u_39_66, wp_stop, lget, lput1, lput2, kil, hget, hset, vget, vset, fget, fgetC, fput, fputC, iget, igetC, jget, jgetC, qget, qgetC, alen, lenC, oI, oJ, oF, oA, oV, oH, oInc, oIld, oJld, oQld, oR, oLen, oIst, oBst, oJst, oQst, ciOf, rcv, oCp, cat1, cond_true, cond_false, Bool.and_self, Bool.and_true, Bool.true_and, Bool.or_true, Bool.true_or, Bool.or_false, Bool.false_or, Bool.not_false, Bool.not_true, ↓reduceIte, Nat.reduceBEq, Nat.reduceEqDiff, beq_self_eq_true, true_and, and_true, eq_self_iff_true, Nat.reduceAdd, Nat.blt, Nat.ble, z_le, z_lt, z_eq, z_cl, z_add, z_sub, z_mul, z_in, z_lt0, z_ofN, z_m1, z_ltm1, z_m1lt, z_eqm1, z_m1eq, z_m1le, z_lem1, z_beq, nI_0_1, nI_m1lt0, nI_0lem1, not_false_eq_true, not_true_eq_false, forall_const, false_implies, true_implies, implies_true, false_and, and_false, mrg, renc, tra, trv, sg, List.map_cons, List.map_nil, Option.map_some, Option.map_none, Option.toList_some, Option.toList_none, List.cons_append, List.nil_append, List.length_cons, List.length_nil, b00]
      exact RET.id (by rw [hgp]; exact ⟨rfl, hx⟩) (Nat.zero_le _) (Nat.zero_le _)
    | some σ' =>
      rw [hd] at hp hgp
      obtain ⟨rfl, hx⟩ := hp
      simp (disch := first | exact rfl | decide | omega) only [u_39_0, u_39_1, u_39_4, u_39_32, u_39_33, u_39_34, u_39_37, u_39_38, u_39_39, u_39_40, u_39_43, u_39_44, u_39_46, u_39_49, u_39_50, u_39_53, u_39_54, u_39_55, u_39_56, u_39_57, u_39_60, u_39_61, u_39_62, u_39_63, u_39_66, wp_stop, lget, lput1, lput2, kil, hget, hset, vget, vset, fget, fgetC, fput, fputC, iget, igetC, jget, jgetC, qget, qgetC, alen, lenC, oI, oJ, oF, oA, oV, oH, oInc, oIld, oJld, oQld, oR, oLen, oIst, oBst, oJst, oQst, ciOf, rcv, oCp, cat1, cond_true, cond_false, Bool.and_self, Bool.and_true, Bool.true_and, Bool.or_true, Bool.true_or, Bool.or_false, Bool.false_or, Bool.not_false, Bool.not_true, ↓reduceIte, Nat.reduceBEq, Nat.reduceEqDiff, beq_self_eq_true, true_and, and_true, eq_self_iff_true, Nat.reduceAdd, Nat.blt, Nat.ble, z_le, z_lt, z_eq, z_cl, z_add, z_sub, z_mul, z_in, z_lt0, z_ofN, z_m1, z_ltm1, z_m1lt, z_eqm1, z_m1eq, z_m1le, z_lem1, z_beq, nI_0_1, nI_m1lt0, nI_0lem1, not_false_eq_true, not_true_eq_false, forall_const, false_implies, true_implies, implies_true, false_and, and_false, mrg, renc, tra, trv, sg, List.map_cons, List.map_nil, Option.map_some, Option.map_none, Option.toList_some, Option.toList_none, List.cons_append, List.nil_append, List.length_cons, List.length_nil, b01]
      exact RET.id (by rw [hgp]; exact ⟨rfl, hx⟩) (Nat.zero_le _) (Nat.zero_le _)
  · have e : rdT σ c = if c = 61 then some (2, σ.2) else none := by
      unfold rdT
      rw [if_neg (by omega), if_pos h4]
    rw [e]
    obtain ⟨pts, wt, w, o, nd, k, pat, own, rfl, hp, hr⟩ := hR
    refine sp_of (by decide) (Nat.le_of_ble_eq_true rfl) ?_
    generalize hG : ((d + 4, _, nomv, _, _, _) : aG) = G
    have ggd : gD G = d + 4 := by subst hG; rfl
    have ggn : gN G = 3 := by subst hG; rfl
    have ggm : gM G = nomv := by subst hG; rfl
    have ggc : gC G = 0 := by subst hG; rfl
    have ggs : gS G = 0 := by subst hG; rfl
    have hgp : gP G = rdP (if c = 61 then some (2, σ.2) else none) := by subst hG; rfl
    clear hG
    by_cases q : c = 61
    · rw [if_pos q] at hgp
      refine wp_aw (S := fun _ => false) (by decide) 200 _ _ _ _ _ _ ?_
      simp (disch := first | exact rfl | decide | omega) only [u_39_0, u_39_1, u_39_4, u_39_32, u_39_33, u_39_34, u_39_37, u_39_38, u_39_39, u_39_40, u_39_43, u_39_44, u_39_46, u_39_49, u_39_50, u_39_53, u_39_54, u_39_55, u_39_56, u_39_57, u_39_60, u_39_61, u_39_62, u_39_63, u_39_66, wp_stop, lget, lput1, lput2, kil, hget, hset, vget, vset, fget, fgetC, fput, fputC, iget, igetC, jget, jgetC, qget, qgetC, alen, lenC, oI, oJ, oF, oA, oV, oH, oInc, oIld, oJld, oQld, oR, oLen, oIst, oBst, oJst, oQst, ciOf, rcv, oCp, cat1, cond_true, cond_false, Bool.and_self, Bool.and_true, Bool.true_and, Bool.or_true, Bool.true_or, Bool.or_false, Bool.false_or, Bool.not_false, Bool.not_true, ↓reduceIte, Nat.reduceBEq, Nat.reduceEqDiff, beq_self_eq_true, true_and, and_true, eq_self_iff_true, Nat.reduceAdd, Nat.blt, Nat.ble, z_le, z_lt, z_eq, z_cl, z_add, z_sub, z_mul, z_in, z_lt0, z_ofN, z_m1, z_ltm1, z_m1lt, z_eqm1, z_m1eq, z_m1le, z_lem1, z_beq, nI_0_1, nI_m1lt0, nI_0lem1, not_false_eq_true, not_true_eq_false, forall_const, false_implies, true_implies, implies_true, false_and, and_false, mrg, renc, tra, trv, sg, List.map_cons, List.map_nil, Option.map_some, Option.map_none, Option.toList_some, Option.toList_none, List.cons_append, List.nil_append, List.length_cons, List.length_nil, eL, mL_39, rX, h4, n10, q, b01]
      refine RET.id (by rw [hgp]; exact ⟨rfl, pts, wt, w, o, nd, k, pat, own, rfl, hp, fun _ => hr (by omega)⟩) (Nat.zero_le _) (Nat.zero_le _)
    · rw [if_neg q] at hgp
      refine wp_aw (S := fun _ => false) (by decide) 200 _ _ _ _ _ _ ?_
      simp (disch := first | exact rfl | decide | omega) only [u_39_0, u_39_1, u_39_4, u_39_32, u_39_33, u_39_34, u_39_37, u_39_38, u_39_39, u_39_40, u_39_43, u_39_44, u_39_46, u_39_49, u_39_50, u_39_53, u_39_54, u_39_55, u_39_56, u_39_57, u_39_60, u_39_61, u_39_62, u_39_63, u_39_66, wp_stop, lget, lput1, lput2, kil, hget, hset, vget, vset, fget, fgetC, fput, fputC, iget, igetC, jget, jgetC, qget, qgetC, alen, lenC, oI, oJ, oF, oA, oV, oH, oInc, oIld, oJld, oQld, oR, oLen, oIst, oBst, oJst, oQst, ciOf, rcv, oCp, cat1, cond_true, cond_false, Bool.and_self, Bool.and_true, Bool.true_and, Bool.or_true, Bool.true_or, Bool.or_false, Bool.false_or, Bool.not_false, Bool.not_true, ↓reduceIte, Nat.reduceBEq, Nat.reduceEqDiff, beq_self_eq_true, true_and, and_true, eq_self_iff_true, Nat.reduceAdd, Nat.blt, Nat.ble, z_le, z_lt, z_eq, z_cl, z_add, z_sub, z_mul, z_in, z_lt0, z_ofN, z_m1, z_ltm1, z_m1lt, z_eqm1, z_m1eq, z_m1le, z_lem1, z_beq, nI_0_1, nI_m1lt0, nI_0lem1, not_false_eq_true, not_true_eq_false, forall_const, false_implies, true_implies, implies_true, false_and, and_false, mrg, renc, tra, trv, sg, List.map_cons, List.map_nil, Option.map_some, Option.map_none, Option.toList_some, Option.toList_none, List.cons_append, List.nil_append, List.length_cons, List.length_nil, eL, mL_39, rX, h4, n10, q, b00]
      refine RET.id (by rw [hgp]; exact ⟨rfl, _, _, _, _, _, _, _, _, _, _, rfl⟩) (Nat.zero_le _) (Nat.zero_le _)
  · have e : rdT σ c = rdU σ c := by
      unfold rdT
      rw [if_neg (by omega), if_neg (by omega), if_pos h4]
    rw [e]
    have hq := c_takesUnit (d + 2) c hc σ h hR hI h4
    obtain ⟨pts, wt, w, o, nd, k, pat, own, rfl, -⟩ := hR
    refine sp_of (by decide) (Nat.le_of_ble_eq_true rfl) ?_
    generalize hG : ((d + 4, _, nomv, _, _, _) : aG) = G
    have ggd : gD G = d + 4 := by subst hG; rfl
    have ggn : gN G = 3 := by subst hG; rfl
    have ggm : gM G = nomv := by subst hG; rfl
    have ggc : gC G = 0 := by subst hG; rfl
    have ggs : gS G = 0 := by subst hG; rfl
    have hgp : gP G = rdP (rdU σ c) := by subst hG; rfl
    clear hG
    refine wp_aw (S := fun _ => false) (by decide) 200 _ _ _ _ _ _ ?_
    simp (disch := first | exact rfl | decide | omega) only [u_39_0, u_39_1, u_39_4, u_39_32, u_39_33, u_39_34, u_39_37, u_39_38, u_39_39, u_39_40, u_39_43, u_39_44, u_39_46, u_39_49, u_39_50, u_39_53, u_39_54, u_39_55, u_39_56, u_39_57, u_39_60, u_39_61, u_39_62, u_39_63, u_39_66, wp_stop, lget, lput1, lput2, kil, hget, hset, vget, vset, fget, fgetC, fput, fputC, iget, igetC, jget, jgetC, qget, qgetC, alen, lenC, oI, oJ, oF, oA, oV, oH, oInc, oIld, oJld, oQld, oR, oLen, oIst, oBst, oJst, oQst, ciOf, rcv, oCp, cat1, cond_true, cond_false, Bool.and_self, Bool.and_true, Bool.true_and, Bool.or_true, Bool.true_or, Bool.or_false, Bool.false_or, Bool.not_false, Bool.not_true, ↓reduceIte, Nat.reduceBEq, Nat.reduceEqDiff, beq_self_eq_true, true_and, and_true, eq_self_iff_true, Nat.reduceAdd, Nat.blt, Nat.ble, z_le, z_lt, z_eq, z_cl, z_add, z_sub, z_mul, z_in, z_lt0, z_ofN, z_m1, z_ltm1, z_m1lt, z_eqm1, z_m1eq, z_m1le, z_lem1, z_beq, nI_0_1, nI_m1lt0, nI_0lem1, not_false_eq_true, not_true_eq_false, forall_const, false_implies, true_implies, implies_true, false_and, and_false, mrg, renc, tra, trv, sg, List.map_cons, List.map_nil, Option.map_some, Option.map_none, Option.toList_some, Option.toList_none, List.cons_append, List.nil_append, List.length_cons, List.length_nil, eL, mL_39, rX, h4, show ¬ (2 : Nat) = 0 by decide, show ¬ (2 : Nat) = 1 by decide]
    rw [h4] at hq
    refine CAL.dir hq (by rw [ggd]; omega) (by rw [ggc]; omega) (by rw [ggs]; omega) (Nat.le_of_ble_eq_true rfl) (by rw [ggn]; exact Nat.le_of_ble_eq_true rfl) rfl rfl ?_
    intro r h' hp
    cases hd : rdU σ c with
    | none =>
      rw [hd] at hp hgp
      obtain ⟨rfl, hx⟩ := hp
      simp (disch := first | exact rfl | decide | omega) only [u_39_0, u_39_1, u_39_4, u_39_32, u_39_33, u_39_34, u_39_37, u_39_38, u_39_39, u_39_40, u_39_43, u_39_44, u_39_46, u_39_49, u_39_50, u_39_53, u_39_54, u_39_55, u_39_56, u_39_57, u_39_60, u_39_61, u_39_62, u_39_63, u_39_66, wp_stop, lget, lput1, lput2, kil, hget, hset, vget, vset, fget, fgetC, fput, fputC, iget, igetC, jget, jgetC, qget, qgetC, alen, lenC, oI, oJ, oF, oA, oV, oH, oInc, oIld, oJld, oQld, oR, oLen, oIst, oBst, oJst, oQst, ciOf, rcv, oCp, cat1, cond_true, cond_false, Bool.and_self, Bool.and_true, Bool.true_and, Bool.or_true, Bool.true_or, Bool.or_false, Bool.false_or, Bool.not_false, Bool.not_true, ↓reduceIte, Nat.reduceBEq, Nat.reduceEqDiff, beq_self_eq_true, true_and, and_true, eq_self_iff_true, Nat.reduceAdd, Nat.blt, Nat.ble, z_le, z_lt, z_eq, z_cl, z_add, z_sub, z_mul, z_in, z_lt0, z_ofN, z_m1, z_ltm1, z_m1lt, z_eqm1, z_m1eq, z_m1le, z_lem1, z_beq, nI_0_1, nI_m1lt0, nI_0lem1, not_false_eq_true, not_true_eq_false, forall_const, false_implies, true_implies, implies_true, false_and, and_false, mrg, renc, tra, trv, sg, List.map_cons, List.map_nil, Option.map_some, Option.map_none, Option.toList_some, Option.toList_none, List.cons_append, List.nil_append, List.length_cons, List.length_nil, b00]
      exact RET.id (by rw [hgp]; exact ⟨rfl, hx⟩) (Nat.zero_le _) (Nat.zero_le _)
    | some σ' =>
      rw [hd] at hp hgp
      obtain ⟨rfl, hx⟩ := hp
      simp (disch := first | exact rfl | decide | omega) only [u_39_0, u_39_1, u_39_4, u_39_32, u_39_33, u_39_34, u_39_37, u_39_38, u_39_39, u_39_40, u_39_43, u_39_44, u_39_46, u_39_49, u_39_50, u_39_53, u_39_54, u_39_55, u_39_56, u_39_57, u_39_60, u_39_61, u_39_62, u_39_63, u_39_66, wp_stop, lget, lput1, lput2, kil, hget, hset, vget, vset, fget, fgetC, fput, fputC, iget, igetC, jget, jgetC, qget, qgetC, alen, lenC, oI, oJ, oF, oA, oV, oH, oInc, oIld, oJld, oQld, oR, oLen, oIst, oBst, oJst, oQst, ciOf, rcv, oCp, cat1, cond_true, cond_false, Bool.and_self, Bool.and_true, Bool.true_and, Bool.or_true, Bool.true_or, Bool.or_false, Bool.false_or, Bool.not_false, Bool.not_true, ↓reduceIte, Nat.reduceBEq, Nat.reduceEqDiff, beq_self_eq_true, true_and, and_true, eq_self_iff_true, Nat.reduceAdd, Nat.blt, Nat.ble, z_le, z_lt, z_eq, z_cl, z_add, z_sub, z_mul, z_in, z_lt0, z_ofN, z_m1, z_ltm1, z_m1lt, z_eqm1, z_m1eq, z_m1le, z_lem1, z_beq, nI_0_1, nI_m1lt0, nI_0lem1, not_false_eq_true, not_true_eq_false, forall_const, false_implies, true_implies, implies_true, false_and, and_false, mrg, renc, tra, trv, sg, List.map_cons, List.map_nil, Option.map_some, Option.map_none, Option.toList_some, Option.toList_none, List.cons_append, List.nil_append, List.length_cons, List.length_nil, b01]
      exact RET.id (by rw [hgp]; exact ⟨rfl, hx⟩) (Nat.zero_le _) (Nat.zero_le _)
  · have e : rdT σ c = rdH σ c := by
      unfold rdT
      rw [if_neg (by omega), if_neg (by omega), if_neg (by omega)]
    rw [e]
    have hq := c_takesBehind d c hc σ h hR hI h4
    obtain ⟨pts, wt, w, o, nd, k, pat, own, rfl, -⟩ := hR
    refine sp_of (by decide) (Nat.le_of_ble_eq_true rfl) ?_
    generalize hG : ((d + 4, _, nomv, _, _, _) : aG) = G
    have ggd : gD G = d + 4 := by subst hG; rfl
    have ggn : gN G = 3 := by subst hG; rfl
    have ggm : gM G = nomv := by subst hG; rfl
    have ggc : gC G = 0 := by subst hG; rfl
    have ggs : gS G = 0 := by subst hG; rfl
    have hgp : gP G = rdP (rdH σ c) := by subst hG; rfl
    clear hG
    refine wp_aw (S := fun _ => false) (by decide) 200 _ _ _ _ _ _ ?_
    simp (disch := first | exact rfl | decide | omega) only [u_39_0, u_39_1, u_39_4, u_39_32, u_39_33, u_39_34, u_39_37, u_39_38, u_39_39, u_39_40, u_39_43, u_39_44, u_39_46, u_39_49, u_39_50, u_39_53, u_39_54, u_39_55, u_39_56, u_39_57, u_39_60, u_39_61, u_39_62, u_39_63, u_39_66, wp_stop, lget, lput1, lput2, kil, hget, hset, vget, vset, fget, fgetC, fput, fputC, iget, igetC, jget, jgetC, qget, qgetC, alen, lenC, oI, oJ, oF, oA, oV, oH, oInc, oIld, oJld, oQld, oR, oLen, oIst, oBst, oJst, oQst, ciOf, rcv, oCp, cat1, cond_true, cond_false, Bool.and_self, Bool.and_true, Bool.true_and, Bool.or_true, Bool.true_or, Bool.or_false, Bool.false_or, Bool.not_false, Bool.not_true, ↓reduceIte, Nat.reduceBEq, Nat.reduceEqDiff, beq_self_eq_true, true_and, and_true, eq_self_iff_true, Nat.reduceAdd, Nat.blt, Nat.ble, z_le, z_lt, z_eq, z_cl, z_add, z_sub, z_mul, z_in, z_lt0, z_ofN, z_m1, z_ltm1, z_m1lt, z_eqm1, z_m1eq, z_m1le, z_lem1, z_beq, nI_0_1, nI_m1lt0, nI_0lem1, not_false_eq_true, not_true_eq_false, forall_const, false_implies, true_implies, implies_true, false_and, and_false, mrg, renc, tra, trv, sg, List.map_cons, List.map_nil, Option.map_some, Option.map_none, Option.toList_some, Option.toList_none, List.cons_append, List.nil_append, List.length_cons, List.length_nil, eL, mL_39, rX, h4, show ¬ (3 : Nat) = 0 by decide, show ¬ (3 : Nat) = 1 by decide, show ¬ (3 : Nat) = 2 by decide]
    rw [h4] at hq
    refine CAL.dir hq (by rw [ggd]; omega) (by rw [ggc]; omega) (by rw [ggs]; omega) (Nat.le_of_ble_eq_true rfl) (by rw [ggn]; exact Nat.le_of_ble_eq_true rfl) rfl rfl ?_
    intro r h' hp
    cases hd : rdH σ c with
    | none =>
      rw [hd] at hp hgp
      obtain ⟨rfl, hx⟩ := hp
      simp (disch := first | exact rfl | decide | omega) only [u_39_0, u_39_1, u_39_4, u_39_32, u_39_33, u_39_34, u_39_37, u_39_38, u_39_39, u_39_40, u_39_43, u_39_44, u_39_46, u_39_49, u_39_50, u_39_53, u_39_54, u_39_55, u_39_56, u_39_57, u_39_60, u_39_61, u_39_62, u_39_63, u_39_66, wp_stop, lget, lput1, lput2, kil, hget, hset, vget, vset, fget, fgetC, fput, fputC, iget, igetC, jget, jgetC, qget, qgetC, alen, lenC, oI, oJ, oF, oA, oV, oH, oInc, oIld, oJld, oQld, oR, oLen, oIst, oBst, oJst, oQst, ciOf, rcv, oCp, cat1, cond_true, cond_false, Bool.and_self, Bool.and_true, Bool.true_and, Bool.or_true, Bool.true_or, Bool.or_false, Bool.false_or, Bool.not_false, Bool.not_true, ↓reduceIte, Nat.reduceBEq, Nat.reduceEqDiff, beq_self_eq_true, true_and, and_true, eq_self_iff_true, Nat.reduceAdd, Nat.blt, Nat.ble, z_le, z_lt, z_eq, z_cl, z_add, z_sub, z_mul, z_in, z_lt0, z_ofN, z_m1, z_ltm1, z_m1lt, z_eqm1, z_m1eq, z_m1le, z_lem1, z_beq, nI_0_1, nI_m1lt0, nI_0lem1, not_false_eq_true, not_true_eq_false, forall_const, false_implies, true_implies, implies_true, false_and, and_false, mrg, renc, tra, trv, sg, List.map_cons, List.map_nil, Option.map_some, Option.map_none, Option.toList_some, Option.toList_none, List.cons_append, List.nil_append, List.length_cons, List.length_nil, b00]
      exact RET.id (by rw [hgp]; exact ⟨rfl, hx⟩) (Nat.zero_le _) (Nat.zero_le _)
    | some σ' =>
      rw [hd] at hp hgp
      obtain ⟨rfl, hx⟩ := hp
      simp (disch := first | exact rfl | decide | omega) only [u_39_0, u_39_1, u_39_4, u_39_32, u_39_33, u_39_34, u_39_37, u_39_38, u_39_39, u_39_40, u_39_43, u_39_44, u_39_46, u_39_49, u_39_50, u_39_53, u_39_54, u_39_55, u_39_56, u_39_57, u_39_60, u_39_61, u_39_62, u_39_63, u_39_66, wp_stop, lget, lput1, lput2, kil, hget, hset, vget, vset, fget, fgetC, fput, fputC, iget, igetC, jget, jgetC, qget, qgetC, alen, lenC, oI, oJ, oF, oA, oV, oH, oInc, oIld, oJld, oQld, oR, oLen, oIst, oBst, oJst, oQst, ciOf, rcv, oCp, cat1, cond_true, cond_false, Bool.and_self, Bool.and_true, Bool.true_and, Bool.or_true, Bool.true_or, Bool.or_false, Bool.false_or, Bool.not_false, Bool.not_true, ↓reduceIte, Nat.reduceBEq, Nat.reduceEqDiff, beq_self_eq_true, true_and, and_true, eq_self_iff_true, Nat.reduceAdd, Nat.blt, Nat.ble, z_le, z_lt, z_eq, z_cl, z_add, z_sub, z_mul, z_in, z_lt0, z_ofN, z_m1, z_ltm1, z_m1lt, z_eqm1, z_m1eq, z_m1le, z_lem1, z_beq, nI_0_1, nI_m1lt0, nI_0lem1, not_false_eq_true, not_true_eq_false, forall_const, false_implies, true_implies, implies_true, false_and, and_false, mrg, renc, tra, trv, sg, List.map_cons, List.map_nil, Option.map_some, Option.map_none, Option.toList_some, Option.toList_none, List.cons_append, List.nil_append, List.length_cons, List.length_nil, b01]
      exact RET.id (by rw [hgp]; exact ⟨rfl, hx⟩) (Nat.zero_le _) (Nat.zero_le _)
/-- a text read from a place on: where it can't stand, or the state behind it -/
def rdL : rS → List Nat → Nat → Nat ⊕ rS
  | σ, [], _ => .inr σ
  | σ, c :: cs, i => if c = 32 then rdL σ cs (i + 1) else match rdT σ c with
    | none => .inl i
    | some σ' => rdL σ' cs (i + 1)
/-- a text as it stands in its row -/
def txR (tb : Nat → Int32) (T : List Nat) : Prop := ∀ (i c : Nat), T[i]? = some c → tb i = nI c ∧ c < 128
def rdQ (q : Nat ⊕ rS) (len : Nat) (tb : Nat → Int32) (bf : Nat → Int64) (r : Option Value) (h' : aH) : Prop := match q with
  | .inl i => r = some (.int (-10 - nI i)) ∧ ∃ R, rdX R ∧ h' = R ++ [.inr (8, [.ref 4, .int (nI len)]), .inl (0, 150, .inl tb), .inl (2, 9, .inr (.inl bf))]
  | .inr σ => r = some (.int (if σ.ph = 0 ∧ 0 < σ.ord then nI σ.ord else -10 - nI len)) ∧ ∃ R, rdR R σ ∧ h' = R ++ [.inr (8, [.ref 4, .int (nI len)]), .inl (0, 150, .inl tb), .inl (2, 9, .inr (.inl bf))]
