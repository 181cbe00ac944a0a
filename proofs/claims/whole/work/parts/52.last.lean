/-! RowCounter.lastSteps -/
theorem take_s {L : List Nat} {i m : Nat} (h : L[i]? = some m) : L.take (i + 1) = L.take i ++ [m] := by
  rw [List.take_add_one, h]
  rfl
theorem sumI_drop {L : List Nat} {c g : Nat → Nat} {i na : Nat} (hn : L.Nodup) (hi : L.length ≤ i ∨ na ≤ i) (h : ∀ m, c m ≠ 0 → ∃ j, j < na ∧ L[j]? = some m) : sumI (L.take i) c g = sumI L c g := by
  have e : sumI L c g = sumI (L.take i) c g + sumI (L.drop i) c g := by
    rw [← sumI_app, List.take_append_drop]
  rw [e, sumI_0 g (L.drop i) (fun m hm => ?_), Nat.add_zero]
  rcases Nat.eq_zero_or_pos (c m) with z | z
  · exact z
  · exfalso
    obtain ⟨j, h1, h2⟩ := h m (by omega)
    obtain ⟨k, hk, e2⟩ := List.getElem_of_mem hm
    rw [List.length_drop] at hk
    rw [List.getElem_drop] at e2
    obtain ⟨h3, h4⟩ := List.getElem?_eq_some_iff.mp h2
    have : j = i + k := nd_inj hn h3 (by omega) (h4.trans e2.symm)
    omega
section CL
variable (na : Nat) (wa : Nat → Int32) (nb : Nat) (wb : Nat → Int32)
set_option maxRecDepth 100000 in
theorem l_cLast {G : aG} {P : PS} {M : MS} {α : aZ} (h : zR (P, M) α) (c : Nat → Nat) (hc : ∀ m, c m < 2 ^ 31) (hw : wOK α.2.1.1 c na wa) (hna2 : na < 2 ^ 20) (hd : 2 ≤ gD G) (ggn : gN G = 21) (hcc : ∀ m, c m ≠ 0 → ∃ j, j < na ∧ α.2.1.1[j]? = some m) (hn : α.2.1.1.Nodup)
    (hret : RET G (some (.int (nI (sumI α.2.1.1 c (fun m => pcN (trM (dT α.1) m / 512)))))) (cH na wa nb wb (P, M)) 0 0) :
    ∀ (b i : Nat), α.2.1.1.length ≤ b + i → i ≤ α.2.1.1.length →
    AW 67 G 4 [some (.ref 0), some (.ref 3), some (.int (nI (sumI (α.2.1.1.take i) c (fun m => pcN (trM (dT α.1) m / 512))))), some (.int (nI i))] [] (cH na wa nb wb (P, M)) 0 0 := by
  have hk : M.known = nI α.2.1.1.length := (zR_f h).1
  have hk14 : α.2.1.1.length ≤ 2 ^ 14 := (zR_f h).2.2.2
  intro b
  induction b with
  | zero =>
    intro i hi hi2
    rw [sumI_drop hn (Or.inl (by omega)) hcc]
    have t1 : α.2.1.1.length ≤ i := by omega
    refine wq_aw (S := fun x => x == 4) (by decide) (f := 200) ?_
    simp (disch := first | exact rfl | decide | omega) only [v_67_4, u_67_0, u_67_1, u_67_2, u_67_3, u_67_4, u_67_5, u_67_6, u_67_9, u_67_12, u_67_13, u_67_14, u_67_17, u_67_18, u_67_21, u_67_22, u_67_25, u_67_26, u_67_27, u_67_30, u_67_31, u_67_32, u_67_35, u_67_36, u_67_37, u_67_38, u_67_39, u_67_42, u_67_43, u_67_44, u_67_45, u_67_48, u_67_51, u_67_52, wp_stop, lget, lput1, lput2, kil, hget, hset, vget, vset, fget, fgetC, fput, fputC, iget, igetC, jget, jgetC, qget, qgetC, alen, lenC, oI, oJ, oF, oA, oV, oH, oInc, oIld, oJld, oQld, oR, oLen, oIst, oBst, oJst, oQst, ciOf, rcv, oCp, cat1, cond_true, cond_false, Bool.and_self, Bool.and_true, Bool.true_and, Bool.or_true, Bool.true_or, Bool.or_false, Bool.false_or, Bool.not_false, Bool.not_true, ↓reduceIte, Nat.reduceBEq, Nat.reduceEqDiff, beq_self_eq_true, true_and, and_true, eq_self_iff_true, Nat.reduceAdd, Nat.blt, Nat.ble, z_le, z_lt, z_eq, z_cl, z_add, z_sub, z_mul, z_in, z_lt0, z_ofN, z_m1, z_ltm1, z_m1lt, z_eqm1, z_m1eq, z_m1le, z_lem1, z_beq, nI_0_1, nI_m1lt0, nI_0lem1, not_false_eq_true, not_true_eq_false, forall_const, false_implies, true_implies, implies_true, false_and, and_false, mrg, renc, tra, trv, sg, List.map_cons, List.map_nil, Option.map_some, Option.map_none, Option.toList_some, Option.toList_none, List.cons_append, List.nil_append, List.length_cons, List.length_nil, cH, cF, mHB, mH, mO, mPO, hk, t1]
    rw [← hk]
    exact hret
  | succ b ih =>
    intro i hi hi2
    by_cases t1 : α.2.1.1.length ≤ i
    · rw [sumI_drop hn (Or.inl t1) hcc]
      refine wq_aw (S := fun x => x == 4) (by decide) (f := 200) ?_
      simp (disch := first | exact rfl | decide | omega) only [v_67_4, u_67_0, u_67_1, u_67_2, u_67_3, u_67_4, u_67_5, u_67_6, u_67_9, u_67_12, u_67_13, u_67_14, u_67_17, u_67_18, u_67_21, u_67_22, u_67_25, u_67_26, u_67_27, u_67_30, u_67_31, u_67_32, u_67_35, u_67_36, u_67_37, u_67_38, u_67_39, u_67_42, u_67_43, u_67_44, u_67_45, u_67_48, u_67_51, u_67_52, wp_stop, lget, lput1, lput2, kil, hget, hset, vget, vset, fget, fgetC, fput, fputC, iget, igetC, jget, jgetC, qget, qgetC, alen, lenC, oI, oJ, oF, oA, oV, oH, oInc, oIld, oJld, oQld, oR, oLen, oIst, oBst, oJst, oQst, ciOf, rcv, oCp, cat1, cond_true, cond_false, Bool.and_self, Bool.and_true, Bool.true_and, Bool.or_true, Bool.true_or, Bool.or_false, Bool.false_or, Bool.not_false, Bool.not_true, ↓reduceIte, Nat.reduceBEq, Nat.reduceEqDiff, beq_self_eq_true, true_and, and_true, eq_self_iff_true, Nat.reduceAdd, Nat.blt, Nat.ble, z_le, z_lt, z_eq, z_cl, z_add, z_sub, z_mul, z_in, z_lt0, z_ofN, z_m1, z_ltm1, z_m1lt, z_eqm1, z_m1eq, z_m1le, z_lem1, z_beq, nI_0_1, nI_m1lt0, nI_0lem1, not_false_eq_true, not_true_eq_false, forall_const, false_implies, true_implies, implies_true, false_and, and_false, mrg, renc, tra, trv, sg, List.map_cons, List.map_nil, Option.map_some, Option.map_none, Option.toList_some, Option.toList_none, List.cons_append, List.nil_append, List.length_cons, List.length_nil, cH, cF, mHB, mH, mO, mPO, hk, t1]
      rw [← hk]
      exact hret
    · by_cases t2 : na ≤ i
      · rw [sumI_drop hn (Or.inr t2) hcc]
        refine wq_aw (S := fun x => x == 4) (by decide) (f := 200) ?_
        simp (disch := first | exact rfl | decide | omega) only [v_67_4, u_67_0, u_67_1, u_67_2, u_67_3, u_67_4, u_67_5, u_67_6, u_67_9, u_67_12, u_67_13, u_67_14, u_67_17, u_67_18, u_67_21, u_67_22, u_67_25, u_67_26, u_67_27, u_67_30, u_67_31, u_67_32, u_67_35, u_67_36, u_67_37, u_67_38, u_67_39, u_67_42, u_67_43, u_67_44, u_67_45, u_67_48, u_67_51, u_67_52, wp_stop, lget, lput1, lput2, kil, hget, hset, vget, vset, fget, fgetC, fput, fputC, iget, igetC, jget, jgetC, qget, qgetC, alen, lenC, oI, oJ, oF, oA, oV, oH, oInc, oIld, oJld, oQld, oR, oLen, oIst, oBst, oJst, oQst, ciOf, rcv, oCp, cat1, cond_true, cond_false, Bool.and_self, Bool.and_true, Bool.true_and, Bool.or_true, Bool.true_or, Bool.or_false, Bool.false_or, Bool.not_false, Bool.not_true, ↓reduceIte, Nat.reduceBEq, Nat.reduceEqDiff, beq_self_eq_true, true_and, and_true, eq_self_iff_true, Nat.reduceAdd, Nat.blt, Nat.ble, z_le, z_lt, z_eq, z_cl, z_add, z_sub, z_mul, z_in, z_lt0, z_ofN, z_m1, z_ltm1, z_m1lt, z_eqm1, z_m1eq, z_m1le, z_lem1, z_beq, nI_0_1, nI_m1lt0, nI_0lem1, not_false_eq_true, not_true_eq_false, forall_const, false_implies, true_implies, implies_true, false_and, and_false, mrg, renc, tra, trv, sg, List.map_cons, List.map_nil, Option.map_some, Option.map_none, Option.toList_some, Option.toList_none, List.cons_append, List.nil_append, List.length_cons, List.length_nil, cH, cF, mHB, mH, mO, mPO, hk, t1, t2]
        rw [← hk]
        exact hret
      · obtain ⟨m, hm⟩ : ∃ m, α.2.1.1[i]? = some m := ⟨α.2.1.1[i], List.getElem?_eq_getElem (by omega)⟩
        have e1 : wa i = nI (c m) := by
          have := hw i (by omega)
          rw [hm] at this
          exact this
        have e2 := hc m
        have hn2 := ih (i + 1) (by omega) (by omega)
        rw [take_s hm, sumI_app] at hn2
        simp only [sumI, Nat.add_zero] at hn2
        by_cases q : c m = 0
        · rw [q, Nat.zero_mul, Nat.add_zero] at hn2
          rw [q] at e1
          refine wq_aw (S := fun x => x == 4) (by decide) (f := 200) ?_
          simp (disch := first | exact rfl | decide | omega) only [v_67_4, u_67_0, u_67_1, u_67_2, u_67_3, u_67_4, u_67_5, u_67_6, u_67_9, u_67_12, u_67_13, u_67_14, u_67_17, u_67_18, u_67_21, u_67_22, u_67_25, u_67_26, u_67_27, u_67_30, u_67_31, u_67_32, u_67_35, u_67_36, u_67_37, u_67_38, u_67_39, u_67_42, u_67_43, u_67_44, u_67_45, u_67_48, u_67_51, u_67_52, wp_stop, lget, lput1, lput2, kil, hget, hset, vget, vset, fget, fgetC, fput, fputC, iget, igetC, jget, jgetC, qget, qgetC, alen, lenC, oI, oJ, oF, oA, oV, oH, oInc, oIld, oJld, oQld, oR, oLen, oIst, oBst, oJst, oQst, ciOf, rcv, oCp, cat1, cond_true, cond_false, Bool.and_self, Bool.and_true, Bool.true_and, Bool.or_true, Bool.true_or, Bool.or_false, Bool.false_or, Bool.not_false, Bool.not_true, ↓reduceIte, Nat.reduceBEq, Nat.reduceEqDiff, beq_self_eq_true, true_and, and_true, eq_self_iff_true, Nat.reduceAdd, Nat.blt, Nat.ble, z_le, z_lt, z_eq, z_cl, z_add, z_sub, z_mul, z_in, z_lt0, z_ofN, z_m1, z_ltm1, z_m1lt, z_eqm1, z_m1eq, z_m1le, z_lem1, z_beq, nI_0_1, nI_m1lt0, nI_0lem1, not_false_eq_true, not_true_eq_false, forall_const, false_implies, true_implies, implies_true, false_and, and_false, mrg, renc, tra, trv, sg, List.map_cons, List.map_nil, Option.map_some, Option.map_none, Option.toList_some, Option.toList_none, List.cons_append, List.nil_append, List.length_cons, List.length_nil, cH, cF, mHB, mH, mO, mPO, hk, t1, t2, e1]
          rw [← hk]
          exact hn2
        · refine wq_aw (S := fun x => x == 4) (by decide) (f := 200) ?_
          simp (disch := first | exact rfl | decide | omega) only [v_67_4, u_67_0, u_67_1, u_67_2, u_67_3, u_67_4, u_67_5, u_67_6, u_67_9, u_67_12, u_67_13, u_67_14, u_67_17, u_67_18, u_67_21, u_67_22, u_67_25, u_67_26, u_67_27, u_67_30, u_67_31, u_67_32, u_67_35, u_67_36, u_67_37, u_67_38, u_67_39, u_67_42, u_67_43, u_67_44, u_67_45, u_67_48, u_67_51, u_67_52, wp_stop, lget, lput1, lput2, kil, hget, hset, vget, vset, fget, fgetC, fput, fputC, iget, igetC, jget, jgetC, qget, qgetC, alen, lenC, oI, oJ, oF, oA, oV, oH, oInc, oIld, oJld, oQld, oR, oLen, oIst, oBst, oJst, oQst, ciOf, rcv, oCp, cat1, cond_true, cond_false, Bool.and_self, Bool.and_true, Bool.true_and, Bool.or_true, Bool.true_or, Bool.or_false, Bool.false_or, Bool.not_false, Bool.not_true, ↓reduceIte, Nat.reduceBEq, Nat.reduceEqDiff, beq_self_eq_true, true_and, and_true, eq_self_iff_true, Nat.reduceAdd, Nat.blt, Nat.ble, z_le, z_lt, z_eq, z_cl, z_add, z_sub, z_mul, z_in, z_lt0, z_ofN, z_m1, z_ltm1, z_m1lt, z_eqm1, z_m1eq, z_m1le, z_lem1, z_beq, nI_0_1, nI_m1lt0, nI_0lem1, not_false_eq_true, not_true_eq_false, forall_const, false_implies, true_implies, implies_true, false_and, and_false, mrg, renc, tra, trv, sg, List.map_cons, List.map_nil, Option.map_some, Option.map_none, Option.toList_some, Option.toList_none, List.cons_append, List.nil_append, List.length_cons, List.length_nil, cH, cF, mHB, mH, mO, mPO, hk, t1, t2, e1, q]
          rw [← hk]
          refine CAL.oneN (cF na wa nb wb) (z_lastSteps 0 h hm) (okF_cF _ _ _ _) (fun _ => rfl) (fun r hc' q => hr_same (Z := (P, M)) (fun _ => rfl) q) (by omega) (Nat.zero_le _) (Nat.zero_le _) (Nat.le_of_ble_eq_true rfl) (by rw [ggn]; exact Nat.le_of_ble_eq_true rfl) rfl rfl ?_
          rintro _ Z' ⟨rfl, hZ⟩
          have hZ2 := mH_inj (Z' := (P, M)) hZ
          show WP _ _ _ _ _ _ _ (cF na wa nb wb ++ mHB 3 Z') _ _
          rw [hZ2]
          simp (disch := first | exact rfl | decide | omega) only [u_67_0, u_67_1, u_67_2, u_67_3, u_67_4, u_67_5, u_67_6, u_67_9, u_67_12, u_67_13, u_67_14, u_67_17, u_67_18, u_67_21, u_67_22, u_67_25, u_67_26, u_67_27, u_67_30, u_67_31, u_67_32, u_67_35, u_67_36, u_67_37, u_67_38, u_67_39, u_67_42, u_67_43, u_67_44, u_67_45, u_67_48, u_67_51, u_67_52, wp_stop, lget, lput1, lput2, kil, hget, hset, vget, vset, fget, fgetC, fput, fputC, iget, igetC, jget, jgetC, qget, qgetC, alen, lenC, oI, oJ, oF, oA, oV, oH, oInc, oIld, oJld, oQld, oR, oLen, oIst, oBst, oJst, oQst, ciOf, rcv, oCp, cat1, cond_true, cond_false, Bool.and_self, Bool.and_true, Bool.true_and, Bool.or_true, Bool.true_or, Bool.or_false, Bool.false_or, Bool.not_false, Bool.not_true, ↓reduceIte, Nat.reduceBEq, Nat.reduceEqDiff, beq_self_eq_true, true_and, and_true, eq_self_iff_true, Nat.reduceAdd, Nat.blt, Nat.ble, z_le, z_lt, z_eq, z_cl, z_add, z_sub, z_mul, z_in, z_lt0, z_ofN, z_m1, z_ltm1, z_m1lt, z_eqm1, z_m1eq, z_m1le, z_lem1, z_beq, nI_0_1, nI_m1lt0, nI_0lem1, not_false_eq_true, not_true_eq_false, forall_const, false_implies, true_implies, implies_true, false_and, and_false, mrg, renc, tra, trv, sg, List.map_cons, List.map_nil, Option.map_some, Option.map_none, Option.toList_some, Option.toList_none, List.cons_append, List.nil_append, List.length_cons, List.length_nil, cF, mHB, mH, mO, mPO]
          exact hn2
set_option maxRecDepth 100000 in
theorem c_cLast (d : Nat) {Z : PS × MS} {α : aZ} (h : zR Z α) (c : Nat → Nat) (hc : ∀ m, c m < 2 ^ 31) (hw : wOK α.2.1.1 c na wa) (hna2 : na < 2 ^ 20) (hcc : ∀ m, c m ≠ 0 → ∃ j, j < na ∧ α.2.1.1[j]? = some m) (hn : α.2.1.1.Nodup) :
    aSp (d + 2) 67 [.ref 0, .ref 3] (cH na wa nb wb Z) nomv 0 0 (fun r h' => r = some (.int (nI (sumI α.2.1.1 c (fun m => pcN (trM (dT α.1) m / 512))))) ∧ h' = cH na wa nb wb Z) := by
  refine sp_of (by decide) (Nat.le_of_ble_eq_true rfl) ?_
  generalize hG : ((d + 2, _, nomv, _, _, _) : aG) = G
  have ggd : gD G = d + 2 := by subst hG; rfl
  have ggn : gN G = 21 := by subst hG; rfl
  have ggm : gM G = nomv := by subst hG; rfl
  have ggc : gC G = 0 := by subst hG; rfl
  have ggs : gS G = 0 := by subst hG; rfl
  have hret : RET G (some (.int (nI (sumI α.2.1.1 c (fun m => pcN (trM (dT α.1) m / 512)))))) (cH na wa nb wb Z) 0 0 := by
    subst hG
    exact RET.id ⟨rfl, rfl⟩ (Nat.le_refl _) (Nat.le_refl _)
  clear hG
  obtain ⟨P, M⟩ := Z
  refine wp_aw (S := fun x => x == 4) (by decide) 200 _ _ _ _ _ _ ?_
  simp (disch := first | exact rfl | decide | omega) only [u_67_0, u_67_1, u_67_2, u_67_3, u_67_4, u_67_5, u_67_6, u_67_9, u_67_12, u_67_13, u_67_14, u_67_17, u_67_18, u_67_21, u_67_22, u_67_25, u_67_26, u_67_27, u_67_30, u_67_31, u_67_32, u_67_35, u_67_36, u_67_37, u_67_38, u_67_39, u_67_42, u_67_43, u_67_44, u_67_45, u_67_48, u_67_51, u_67_52, wp_stop, lget, lput1, lput2, kil, hget, hset, vget, vset, fget, fgetC, fput, fputC, iget, igetC, jget, jgetC, qget, qgetC, alen, lenC, oI, oJ, oF, oA, oV, oH, oInc, oIld, oJld, oQld, oR, oLen, oIst, oBst, oJst, oQst, ciOf, rcv, oCp, cat1, cond_true, cond_false, Bool.and_self, Bool.and_true, Bool.true_and, Bool.or_true, Bool.true_or, Bool.or_false, Bool.false_or, Bool.not_false, Bool.not_true, ↓reduceIte, Nat.reduceBEq, Nat.reduceEqDiff, beq_self_eq_true, true_and, and_true, eq_self_iff_true, Nat.reduceAdd, Nat.blt, Nat.ble, z_le, z_lt, z_eq, z_cl, z_add, z_sub, z_mul, z_in, z_lt0, z_ofN, z_m1, z_ltm1, z_m1lt, z_eqm1, z_m1eq, z_m1le, z_lem1, z_beq, nI_0_1, nI_m1lt0, nI_0lem1, not_false_eq_true, not_true_eq_false, forall_const, false_implies, true_implies, implies_true, false_and, and_false, mrg, renc, tra, trv, sg, List.map_cons, List.map_nil, Option.map_some, Option.map_none, Option.toList_some, Option.toList_none, List.cons_append, List.nil_append, List.length_cons, List.length_nil, eL, mL_67, cH, cF, mHB, mH, mO, mPO]
  exact l_cLast na wa nb wb h c hc hw hna2 (by omega) ggn hcc hn hret α.2.1.1.length 0 (by omega) (by omega)
end CL
