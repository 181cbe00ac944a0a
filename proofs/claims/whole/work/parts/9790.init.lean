/-! ResidualJudge's constructor: counter and book -/
abbrev jO (a b : Value) : aC := .inr (9, [.ref 1, .ref 3, .ref 6, .ref 20, .ref 23, a, b, .int 0, .int 0, .int 0])
abbrev cnR : aH := [.inr (6, [.ref 188, .ref 189]), .inl (1, 16, .inl (fun _ => 0)), .inl (1, 16, .inl (fun _ => 0))]
abbrev bkR : aH := [bkN 191 192, .inl (1, 9, .inl (fun _ => 0)), .inl (1, 9, .inl (fun _ => 0))]
set_option maxRecDepth 100000 in
theorem l_init2 {G : aG} (H1 : aH) (hl : H1.length = 186) (hok : ∀ n, 187 ≤ n → okH n nomv H1) (hd : 3 ≤ gD G) (ggn : gN G = 1) (k n : Nat) (hk : k + 6 ≤ gC G) (hn : n + 62 ≤ gS G)
    (hnext : AW 0 G 81 [some (.ref 0)] [] (jO (.ref 187) (.ref 190) :: (H1 ++ (cnR ++ bkR))) (k + 6) (n + 62)) :
    AW 0 G 59 [some (.ref 0)] [] (jO .null .null :: H1) k n := by
  have l0 : ∀ c : aC, (c :: H1).length = 187 := fun c => by rw [List.length_cons, hl]
  have l1 : ∀ c e : aC, (c :: (H1 ++ [e])).length = 188 := fun c e => by rw [List.length_cons, List.length_append, hl]; rfl
  have l3 : ∀ c : aC, (c :: (H1 ++ cnR)).length = 190 := fun c => by rw [List.length_cons, List.length_append, hl]; rfl
  have l4 : ∀ c e : aC, (c :: (H1 ++ (cnR ++ [e]))).length = 191 := fun c e => by rw [List.length_cons, List.length_append, hl]; rfl
  have hg1 : ∀ c e : aC, ∀ r : aH, hget (c :: (H1 ++ e :: r)) 187 = some e := fun c e r => by
    rw [← l0 c]
    exact hget_app (h := c :: H1)
  have hg3 : ∀ c e : aC, hget (c :: (H1 ++ (cnR ++ [e]))) 190 = some e := fun c e => by
    rw [← l3 c]
    have := hget_app (h := c :: (H1 ++ cnR)) (c := e) (r := [])
    rw [List.cons_append, List.append_assoc] at this
    exact this
  refine wp_aw (S := fun x => x == 81) (by decide) 200 _ _ _ _ _ _ ?_
  simp (disch := first | exact rfl | decide | omega) only [u_0_0, u_0_1, u_0_4, u_0_5, u_0_8, u_0_9, u_0_12, u_0_15, u_0_16, u_0_19, u_0_20, u_0_23, u_0_26, u_0_27, u_0_30, u_0_31, u_0_34, u_0_37, u_0_38, u_0_41, u_0_42, u_0_45, u_0_48, u_0_49, u_0_52, u_0_53, u_0_56, u_0_59, u_0_60, u_0_63, u_0_64, u_0_67, u_0_70, u_0_71, u_0_74, u_0_75, u_0_78, u_0_81, wp_stop, lget, lput1, lput2, kil, hget, hset, vget, vset, fget, fgetC, fput, fputC, iget, igetC, jget, jgetC, qget, qgetC, alen, lenC, oI, oJ, oF, oA, oV, oH, oInc, oIld, oJld, oQld, oR, oLen, oIst, oBst, oJst, oQst, ciOf, rcv, oCp, cat1, cond_true, cond_false, Bool.and_self, Bool.and_true, Bool.true_and, Bool.or_true, Bool.true_or, Bool.or_false, Bool.false_or, Bool.not_false, Bool.not_true, ↓reduceIte, Nat.reduceBEq, Nat.reduceEqDiff, beq_self_eq_true, true_and, and_true, eq_self_iff_true, Nat.reduceAdd, Nat.blt, Nat.ble, z_le, z_lt, z_eq, z_cl, z_add, z_sub, z_mul, z_in, z_lt0, z_ofN, z_m1, z_ltm1, z_m1lt, z_eqm1, z_m1eq, z_m1le, z_lem1, z_beq, nI_0_1, nI_m1lt0, nI_0lem1, not_false_eq_true, not_true_eq_false, forall_const, false_implies, true_implies, implies_true, false_and, and_false, mrg, renc, tra, trv, sg, List.map_cons, List.map_nil, Option.map_some, Option.map_none, Option.toList_some, Option.toList_none, List.cons_append, List.nil_append, List.length_cons, List.length_nil, dfl_6, nf_6]
  refine oNew.mkP (by omega) (by omega) (by rw [ggn, l0]; decide) (by rw [l0]; exact ⟨rfl, hok _ (by decide)⟩) (by rw [l0]; rfl) (by rw [l0]; rfl) ?_
  simp (disch := first | exact rfl | decide | omega) only [u_0_0, u_0_1, u_0_4, u_0_5, u_0_8, u_0_9, u_0_12, u_0_15, u_0_16, u_0_19, u_0_20, u_0_23, u_0_26, u_0_27, u_0_30, u_0_31, u_0_34, u_0_37, u_0_38, u_0_41, u_0_42, u_0_45, u_0_48, u_0_49, u_0_52, u_0_53, u_0_56, u_0_59, u_0_60, u_0_63, u_0_64, u_0_67, u_0_70, u_0_71, u_0_74, u_0_75, u_0_78, u_0_81, wp_stop, lget, lput1, lput2, kil, hget, hset, vget, vset, fget, fgetC, fput, fputC, iget, igetC, jget, jgetC, qget, qgetC, alen, lenC, oI, oJ, oF, oA, oV, oH, oInc, oIld, oJld, oQld, oR, oLen, oIst, oBst, oJst, oQst, ciOf, rcv, oCp, cat1, cond_true, cond_false, Bool.and_self, Bool.and_true, Bool.true_and, Bool.or_true, Bool.true_or, Bool.or_false, Bool.false_or, Bool.not_false, Bool.not_true, ↓reduceIte, Nat.reduceBEq, Nat.reduceEqDiff, beq_self_eq_true, true_and, and_true, eq_self_iff_true, Nat.reduceAdd, Nat.blt, Nat.ble, z_le, z_lt, z_eq, z_cl, z_add, z_sub, z_mul, z_in, z_lt0, z_ofN, z_m1, z_ltm1, z_m1lt, z_eqm1, z_m1eq, z_m1le, z_lem1, z_beq, nI_0_1, nI_m1lt0, nI_0lem1, not_false_eq_true, not_true_eq_false, forall_const, false_implies, true_implies, implies_true, false_and, and_false, mrg, renc, tra, trv, sg, List.map_cons, List.map_nil, Option.map_some, Option.map_none, Option.toList_some, Option.toList_none, List.cons_append, List.nil_append, List.length_cons, List.length_nil, l0]
  refine CAL.nmP (c_counterInit 0) [187] rfl rfl (by simp only [List.map_cons, List.map_nil, hg1]; rfl) (by simp) (by rw [l1]; exact ⟨rfl, okH_app (hok _ (by decide)) ⟨rfl, trivial⟩⟩) (fun r hc' q => by obtain ⟨-, rfl⟩ := q; exact Nat.le_of_ble_eq_true rfl) (by omega) (by omega) (by omega) (Nat.le_of_ble_eq_true rfl) (by rw [ggn, l1]; decide) (by rw [l1]; rfl) (by rw [l1]; rfl) ?_
  rintro _ _ ⟨rfl, rfl⟩
  have hmr := mrg_last (h := jO .null .null :: H1) (c := .inr (6, [.null, .null])) (.inr (6, [.ref 1, .ref 2])) [.inl (1, 16, .inl (fun _ => 0)), .inl (1, 16, .inl (fun _ => 0))]
  rw [l0] at hmr
  have hmr2 : mrg (sg [187] (jO .null .null :: (H1 ++ [.inr (6, [.null, .null])])).length) (jO .null .null :: (H1 ++ [.inr (6, [.null, .null])])) [187] (cF 16 (fun _ => 0) 16 (fun _ => 0)) = jO .null .null :: (H1 ++ cnR) := hmr
  rw [hmr2]
  simp (disch := first | exact rfl | decide | omega) only [u_0_0, u_0_1, u_0_4, u_0_5, u_0_8, u_0_9, u_0_12, u_0_15, u_0_16, u_0_19, u_0_20, u_0_23, u_0_26, u_0_27, u_0_30, u_0_31, u_0_34, u_0_37, u_0_38, u_0_41, u_0_42, u_0_45, u_0_48, u_0_49, u_0_52, u_0_53, u_0_56, u_0_59, u_0_60, u_0_63, u_0_64, u_0_67, u_0_70, u_0_71, u_0_74, u_0_75, u_0_78, u_0_81, wp_stop, lget, lput1, lput2, kil, hget, hset, vget, vset, fget, fgetC, fput, fputC, iget, igetC, jget, jgetC, qget, qgetC, alen, lenC, oI, oJ, oF, oA, oV, oH, oInc, oIld, oJld, oQld, oR, oLen, oIst, oBst, oJst, oQst, ciOf, rcv, oCp, cat1, cond_true, cond_false, Bool.and_self, Bool.and_true, Bool.true_and, Bool.or_true, Bool.true_or, Bool.or_false, Bool.false_or, Bool.not_false, Bool.not_true, ↓reduceIte, Nat.reduceBEq, Nat.reduceEqDiff, beq_self_eq_true, true_and, and_true, eq_self_iff_true, Nat.reduceAdd, Nat.blt, Nat.ble, z_le, z_lt, z_eq, z_cl, z_add, z_sub, z_mul, z_in, z_lt0, z_ofN, z_m1, z_ltm1, z_m1lt, z_eqm1, z_m1eq, z_m1le, z_lem1, z_beq, nI_0_1, nI_m1lt0, nI_0lem1, not_false_eq_true, not_true_eq_false, forall_const, false_implies, true_implies, implies_true, false_and, and_false, mrg, renc, tra, trv, sg, List.map_cons, List.map_nil, Option.map_some, Option.map_none, Option.toList_some, Option.toList_none, List.cons_append, List.nil_append, List.length_cons, List.length_nil, dfl_0, nf_0, hg1, cnR]
  refine oNew.mkP (by omega) (by omega) (by rw [ggn, l3]; decide) (by rw [l3]; exact ⟨rfl, okH_app (hok _ (by decide)) ⟨rfl, trivial, trivial, trivial⟩⟩) (by rw [l3]; rfl) (by rw [l3]; rfl) ?_
  have hbi := c_bookInit 0 (jO (.ref 187) .null :: (H1 ++ cnR)) (fun n hn => by
    rw [l3] at hn
    have hb : ∀ j, j < 190 → Nat.blt j n = true := fun j hj => blt_1 (by omega)
    refine ⟨?_, okH_app (hok _ (by omega)) ⟨?_, trivial, trivial, trivial⟩⟩
    · show okS _ _ _ = true
      simp only [okS, okV, nomv, hb 1 (by decide), hb 3 (by decide), hb 6 (by decide), hb 20 (by decide), hb 23 (by decide), hb 187 (by decide)]
      rfl
    · show okS _ _ _ = true
      simp only [okS, okV, nomv, hb 188 (by decide), hb 189 (by decide)]
      rfl)
  rw [l3, List.cons_append, List.append_assoc] at hbi
  have e3 : (jO (.ref 187) .null :: (H1 ++ cnR)).length = 190 := l3 _
  simp (disch := first | exact rfl | decide | omega) only [u_0_0, u_0_1, u_0_4, u_0_5, u_0_8, u_0_9, u_0_12, u_0_15, u_0_16, u_0_19, u_0_20, u_0_23, u_0_26, u_0_27, u_0_30, u_0_31, u_0_34, u_0_37, u_0_38, u_0_41, u_0_42, u_0_45, u_0_48, u_0_49, u_0_52, u_0_53, u_0_56, u_0_59, u_0_60, u_0_63, u_0_64, u_0_67, u_0_70, u_0_71, u_0_74, u_0_75, u_0_78, u_0_81, wp_stop, lget, lput1, lput2, kil, hget, hset, vget, vset, fget, fgetC, fput, fputC, iget, igetC, jget, jgetC, qget, qgetC, alen, lenC, oI, oJ, oF, oA, oV, oH, oInc, oIld, oJld, oQld, oR, oLen, oIst, oBst, oJst, oQst, ciOf, rcv, oCp, cat1, cond_true, cond_false, Bool.and_self, Bool.and_true, Bool.true_and, Bool.or_true, Bool.true_or, Bool.or_false, Bool.false_or, Bool.not_false, Bool.not_true, ↓reduceIte, Nat.reduceBEq, Nat.reduceEqDiff, beq_self_eq_true, true_and, and_true, eq_self_iff_true, Nat.reduceAdd, Nat.blt, Nat.ble, z_le, z_lt, z_eq, z_cl, z_add, z_sub, z_mul, z_in, z_lt0, z_ofN, z_m1, z_ltm1, z_m1lt, z_eqm1, z_m1eq, z_m1le, z_lem1, z_beq, nI_0_1, nI_m1lt0, nI_0lem1, not_false_eq_true, not_true_eq_false, forall_const, false_implies, true_implies, implies_true, false_and, and_false, mrg, renc, tra, trv, sg, List.map_cons, List.map_nil, Option.map_some, Option.map_none, Option.toList_some, Option.toList_none, List.cons_append, List.nil_append, List.length_cons, List.length_nil, l3, List.append_assoc, cnR, hg3]
  refine CAL.dir hbi (by omega) (by omega) (by omega) (Nat.le_of_ble_eq_true rfl) (by rw [ggn]; show 1 ≤ (_ :: _ : aH).length; rw [List.length_cons]; omega) ?_ ?_ ?_
  · show okL (jO (.ref 187) .null :: (H1 ++ (cnR ++ [bk0]))).length nomv _ = true
    rw [l4]
    rfl
  · show okS (jO (.ref 187) .null :: (H1 ++ (cnR ++ [bk0]))).length nomv _ = true
    rw [l4]
    rfl
  rintro _ _ ⟨rfl, rfl⟩
  have hnx : AW 0 G 81 [some (.ref 0)] [] (jO (.ref 187) (.ref 190) :: (H1 ++ (cnR ++ bkR))) (k + 1 + 2 + 1 + 2) (n + 2 + 32 + 10 + 18) := hnext
  simp (disch := first | exact rfl | decide | omega) only [u_0_0, u_0_1, u_0_4, u_0_5, u_0_8, u_0_9, u_0_12, u_0_15, u_0_16, u_0_19, u_0_20, u_0_23, u_0_26, u_0_27, u_0_30, u_0_31, u_0_34, u_0_37, u_0_38, u_0_41, u_0_42, u_0_45, u_0_48, u_0_49, u_0_52, u_0_53, u_0_56, u_0_59, u_0_60, u_0_63, u_0_64, u_0_67, u_0_70, u_0_71, u_0_74, u_0_75, u_0_78, u_0_81, wp_stop, lget, lput1, lput2, kil, hget, hset, vget, vset, fget, fgetC, fput, fputC, iget, igetC, jget, jgetC, qget, qgetC, alen, lenC, oI, oJ, oF, oA, oV, oH, oInc, oIld, oJld, oQld, oR, oLen, oIst, oBst, oJst, oQst, ciOf, rcv, oCp, cat1, cond_true, cond_false, Bool.and_self, Bool.and_true, Bool.true_and, Bool.or_true, Bool.true_or, Bool.or_false, Bool.false_or, Bool.not_false, Bool.not_true, ↓reduceIte, Nat.reduceBEq, Nat.reduceEqDiff, beq_self_eq_true, true_and, and_true, eq_self_iff_true, Nat.reduceAdd, Nat.blt, Nat.ble, z_le, z_lt, z_eq, z_cl, z_add, z_sub, z_mul, z_in, z_lt0, z_ofN, z_m1, z_ltm1, z_m1lt, z_eqm1, z_m1eq, z_m1le, z_lem1, z_beq, nI_0_1, nI_m1lt0, nI_0lem1, not_false_eq_true, not_true_eq_false, forall_const, false_implies, true_implies, implies_true, false_and, and_false, mrg, renc, tra, trv, sg, List.map_cons, List.map_nil, Option.map_some, Option.map_none, Option.toList_some, Option.toList_none, List.cons_append, List.nil_append, List.length_cons, List.length_nil, List.append_assoc, cnR, bkN]
  exact hnx
