/-! ResidualJudge: its cells; what touches no machine -/
abbrev jT : Type := Int32 × (Nat → Int32)
abbrev jP : Type := Int32 × Int32 × (Nat → aS)
abbrev jR : Type := (Nat → Int64) × (Nat → Int32) × Int32 × Int32 × Int32 × Int32 × Int64 × Int32 × Int32 × Int32
abbrev jN : Type := Nat × (Nat → Int32) × Nat × (Nat → Int32)
abbrev jB : Type := Int32 × Int32 × Int32 × Int32 × Int32 × Int32 × Int32 × Int32 × (Nat → Int32) × (Nat → Int32)
/-- refused calls, the text, the scene, the past, the reader, the counter, the book -/
abbrev jS : Type := (Nat × Nat × Nat) × jT × aS × jP × jR × jN × jB
def jF (J : jS) : aH :=
  [.inr (9, [.ref 1, .ref 3, .ref 6, .ref 20, .ref 23, .ref 25, .ref 28, .int (nI J.1.1), .int (nI J.1.2.1), .int (nI J.1.2.2)]),
   .inr (8, [.ref 2, .int J.2.1.1]), .inl (0, 150, .inl J.2.1.2),
   .inr (7, [.ref 4, .ref 5, .int J.2.2.1.2.2.1, .int J.2.2.1.2.2.2]), .inl (2, 9, .inr (.inl J.2.2.1.1)), .inl (1, 20, .inl J.2.2.1.2.1),
   .inr (4, [.ref 7, .int J.2.2.2.1.1, .int J.2.2.2.1.2.1]), .inl (4, 4, .inr (.inr (.inr (.inr (pF 8))))),
   .inr (7, [.ref 9, .ref 10, .int (J.2.2.2.1.2.2 0).2.2.1, .int (J.2.2.2.1.2.2 0).2.2.2]), .inl (2, 9, .inr (.inl (J.2.2.2.1.2.2 0).1)), .inl (1, 20, .inl (J.2.2.2.1.2.2 0).2.1),
   .inr (7, [.ref 12, .ref 13, .int (J.2.2.2.1.2.2 1).2.2.1, .int (J.2.2.2.1.2.2 1).2.2.2]), .inl (2, 9, .inr (.inl (J.2.2.2.1.2.2 1).1)), .inl (1, 20, .inl (J.2.2.2.1.2.2 1).2.1),
   .inr (7, [.ref 15, .ref 16, .int (J.2.2.2.1.2.2 2).2.2.1, .int (J.2.2.2.1.2.2 2).2.2.2]), .inl (2, 9, .inr (.inl (J.2.2.2.1.2.2 2).1)), .inl (1, 20, .inl (J.2.2.2.1.2.2 2).2.1),
   .inr (7, [.ref 18, .ref 19, .int (J.2.2.2.1.2.2 3).2.2.1, .int (J.2.2.2.1.2.2 3).2.2.2]), .inl (2, 9, .inr (.inl (J.2.2.2.1.2.2 3).1)), .inl (1, 20, .inl (J.2.2.2.1.2.2 3).2.1),
   .inr (1, [.ref 21, .ref 22, .int J.2.2.2.2.1.2.2.1, .int J.2.2.2.2.1.2.2.2.1, .int J.2.2.2.2.1.2.2.2.2.1, .int J.2.2.2.2.1.2.2.2.2.2.1, .long J.2.2.2.2.1.2.2.2.2.2.2.1, .int J.2.2.2.2.1.2.2.2.2.2.2.2.1, .int J.2.2.2.2.1.2.2.2.2.2.2.2.2.1, .int J.2.2.2.2.1.2.2.2.2.2.2.2.2.2]), .inl (2, 9, .inr (.inl J.2.2.2.2.1.1)), .inl (1, 24, .inl J.2.2.2.2.1.2.1),
   .inr (3, [.ref 24]), .inl (3, 9, .inr (.inr (.inr (.inr (aF 31))))),
   .inr (6, [.ref 26, .ref 27]), .inl (1, J.2.2.2.2.2.1.1, .inl J.2.2.2.2.2.1.2.1), .inl (1, J.2.2.2.2.2.1.2.2.1, .inl J.2.2.2.2.2.1.2.2.2),
   .inr (0, [.ref 29, .ref 30, .int J.2.2.2.2.2.2.1, .int J.2.2.2.2.2.2.2.1, .int J.2.2.2.2.2.2.2.2.1, .int J.2.2.2.2.2.2.2.2.2.1, .int J.2.2.2.2.2.2.2.2.2.2.1, .int J.2.2.2.2.2.2.2.2.2.2.2.1, .int J.2.2.2.2.2.2.2.2.2.2.2.2.1, .int J.2.2.2.2.2.2.2.2.2.2.2.2.2.1]), .inl (1, 9, .inl J.2.2.2.2.2.2.2.2.2.2.2.2.2.2.1), .inl (1, 9, .inl J.2.2.2.2.2.2.2.2.2.2.2.2.2.2.2)]
theorem pF_okI : ∀ i j, pF 8 i = some j → j < 31 + 18 * 9 ∧ mvI 31 j = false := by
  intro i j hj
  unfold pF at hj
  split at hj
  · have := Option.some.inj hj
    subst this
    refine ⟨by omega, ?_⟩
    unfold mvI
    have : Nat.ble 31 (8 + 3 * i) = false := by
      cases hc : Nat.ble 31 (8 + 3 * i)
      · rfl
      · have := Nat.le_of_ble_eq_true hc
        omega
    rw [this]
    rfl
  · exact absurd hj (by simp)
theorem okF_jF (J : jS) : okF 9 (jF J) := ⟨rfl, rfl, trivial, rfl, trivial, trivial, rfl, pF_okI, rfl, trivial, trivial, rfl, trivial, trivial, rfl, trivial, trivial, rfl, trivial, trivial, rfl, trivial, trivial, rfl, aF_ok, rfl, trivial, trivial, rfl, trivial, trivial, trivial⟩
abbrev jH (J : jS) (PM : Nat → PS × MS) : aH := jF J ++ blks 31 PM 9
theorem jH_len (J : jS) (PM : Nat → PS × MS) : (jH J PM).length = 193 := fb_len (jF J) PM (nb := 9)
section JU
variable (a b e : Nat) (t : jT) (v : aS) (p : jP) (r0 : jR) (cn : jN) (bk : jB) (PM : Nat → PS × MS)
set_option maxRecDepth 100000 in
theorem c_refBad (d : Nat) : aSp d 33 [.ref 0, .int (-2)] (jH ((a, b, e), t, v, p, r0, cn, bk) PM) nomv 0 0 (fun r h' => r = some (.int (-2)) ∧ h' = jH ((a + 1, b, e), t, v, p, r0, cn, bk) PM) := by
  refine sp_of (by decide) (Nat.le_of_ble_eq_true rfl) ?_
  generalize hG : ((d, _, nomv, _, _, _) : aG) = G
  have hret : RET G (some (.int (-2))) (jH ((a + 1, b, e), t, v, p, r0, cn, bk) PM) 0 0 := by
    subst hG
    exact RET.id ⟨rfl, rfl⟩ (Nat.le_refl _) (Nat.le_refl _)
  clear hG
  refine wp_aw (S := fun _ => false) (by decide) 200 _ _ _ _ _ _ ?_
  simp (disch := first | exact rfl | decide | omega) only [u_33_0, u_33_1, u_33_3, u_33_6, u_33_7, u_33_8, u_33_11, u_33_12, u_33_13, u_33_16, u_33_19, u_33_20, u_33_22, u_33_25, u_33_26, u_33_27, u_33_30, u_33_31, u_33_32, u_33_35, u_33_38, u_33_39, u_33_40, u_33_43, u_33_44, u_33_45, u_33_48, u_33_49, wp_stop, lget, lput1, lput2, kil, hget, hset, vget, vset, fget, fgetC, fput, fputC, iget, igetC, jget, jgetC, qget, qgetC, alen, lenC, oI, oJ, oF, oA, oV, oH, oInc, oIld, oJld, oQld, oR, oLen, oIst, oBst, oJst, oQst, ciOf, rcv, oCp, cat1, cond_true, cond_false, Bool.and_self, Bool.and_true, Bool.true_and, Bool.or_true, Bool.true_or, Bool.or_false, Bool.false_or, Bool.not_false, Bool.not_true, ↓reduceIte, Nat.reduceBEq, Nat.reduceEqDiff, beq_self_eq_true, true_and, and_true, eq_self_iff_true, Nat.reduceAdd, Nat.blt, Nat.ble, z_le, z_lt, z_eq, z_cl, z_add, z_sub, z_mul, z_in, z_lt0, z_ofN, z_m1, z_ltm1, z_m1lt, z_eqm1, z_m1eq, z_m1le, z_lem1, z_beq, nI_0_1, nI_m1lt0, nI_0lem1, not_false_eq_true, not_true_eq_false, forall_const, false_implies, true_implies, implies_true, false_and, and_false, mrg, renc, tra, trv, sg, List.map_cons, List.map_nil, Option.map_some, Option.map_none, Option.toList_some, Option.toList_none, List.cons_append, List.nil_append, List.length_cons, List.length_nil, eL, mL_33, jH, jF]
  exact hret
set_option maxRecDepth 100000 in
theorem c_refNo (d : Nat) : aSp d 33 [.ref 0, .int (-3)] (jH ((a, b, e), t, v, p, r0, cn, bk) PM) nomv 0 0 (fun r h' => r = some (.int (-3)) ∧ h' = jH ((a, b + 1, e), t, v, p, r0, cn, bk) PM) := by
  refine sp_of (by decide) (Nat.le_of_ble_eq_true rfl) ?_
  generalize hG : ((d, _, nomv, _, _, _) : aG) = G
  have hret : RET G (some (.int (-3))) (jH ((a, b + 1, e), t, v, p, r0, cn, bk) PM) 0 0 := by
    subst hG
    exact RET.id ⟨rfl, rfl⟩ (Nat.le_refl _) (Nat.le_refl _)
  clear hG
  refine wp_aw (S := fun _ => false) (by decide) 200 _ _ _ _ _ _ ?_
  simp (disch := first | exact rfl | decide | omega) only [u_33_0, u_33_1, u_33_3, u_33_6, u_33_7, u_33_8, u_33_11, u_33_12, u_33_13, u_33_16, u_33_19, u_33_20, u_33_22, u_33_25, u_33_26, u_33_27, u_33_30, u_33_31, u_33_32, u_33_35, u_33_38, u_33_39, u_33_40, u_33_43, u_33_44, u_33_45, u_33_48, u_33_49, wp_stop, lget, lput1, lput2, kil, hget, hset, vget, vset, fget, fgetC, fput, fputC, iget, igetC, jget, jgetC, qget, qgetC, alen, lenC, oI, oJ, oF, oA, oV, oH, oInc, oIld, oJld, oQld, oR, oLen, oIst, oBst, oJst, oQst, ciOf, rcv, oCp, cat1, cond_true, cond_false, Bool.and_self, Bool.and_true, Bool.true_and, Bool.or_true, Bool.true_or, Bool.or_false, Bool.false_or, Bool.not_false, Bool.not_true, ↓reduceIte, Nat.reduceBEq, Nat.reduceEqDiff, beq_self_eq_true, true_and, and_true, eq_self_iff_true, Nat.reduceAdd, Nat.blt, Nat.ble, z_le, z_lt, z_eq, z_cl, z_add, z_sub, z_mul, z_in, z_lt0, z_ofN, z_m1, z_ltm1, z_m1lt, z_eqm1, z_m1eq, z_m1le, z_lem1, z_beq, nI_0_1, nI_m1lt0, nI_0lem1, not_false_eq_true, not_true_eq_false, forall_const, false_implies, true_implies, implies_true, false_and, and_false, mrg, renc, tra, trv, sg, List.map_cons, List.map_nil, Option.map_some, Option.map_none, Option.toList_some, Option.toList_none, List.cons_append, List.nil_append, List.length_cons, List.length_nil, eL, mL_33, jH, jF, show ¬ (-3 : Int32) = -2 by decide]
  exact hret
set_option maxRecDepth 100000 in
theorem c_refFull (d : Nat) : aSp d 33 [.ref 0, .int (-4)] (jH ((a, b, e), t, v, p, r0, cn, bk) PM) nomv 0 0 (fun r h' => r = some (.int (-4)) ∧ h' = jH ((a, b, e + 1), t, v, p, r0, cn, bk) PM) := by
  refine sp_of (by decide) (Nat.le_of_ble_eq_true rfl) ?_
  generalize hG : ((d, _, nomv, _, _, _) : aG) = G
  have hret : RET G (some (.int (-4))) (jH ((a, b, e + 1), t, v, p, r0, cn, bk) PM) 0 0 := by
    subst hG
    exact RET.id ⟨rfl, rfl⟩ (Nat.le_refl _) (Nat.le_refl _)
  clear hG
  refine wp_aw (S := fun _ => false) (by decide) 200 _ _ _ _ _ _ ?_
  simp (disch := first | exact rfl | decide | omega) only [u_33_0, u_33_1, u_33_3, u_33_6, u_33_7, u_33_8, u_33_11, u_33_12, u_33_13, u_33_16, u_33_19, u_33_20, u_33_22, u_33_25, u_33_26, u_33_27, u_33_30, u_33_31, u_33_32, u_33_35, u_33_38, u_33_39, u_33_40, u_33_43, u_33_44, u_33_45, u_33_48, u_33_49, wp_stop, lget, lput1, lput2, kil, hget, hset, vget, vset, fget, fgetC, fput, fputC, iget, igetC, jget, jgetC, qget, qgetC, alen, lenC, oI, oJ, oF, oA, oV, oH, oInc, oIld, oJld, oQld, oR, oLen, oIst, oBst, oJst, oQst, ciOf, rcv, oCp, cat1, cond_true, cond_false, Bool.and_self, Bool.and_true, Bool.true_and, Bool.or_true, Bool.true_or, Bool.or_false, Bool.false_or, Bool.not_false, Bool.not_true, ↓reduceIte, Nat.reduceBEq, Nat.reduceEqDiff, beq_self_eq_true, true_and, and_true, eq_self_iff_true, Nat.reduceAdd, Nat.blt, Nat.ble, z_le, z_lt, z_eq, z_cl, z_add, z_sub, z_mul, z_in, z_lt0, z_ofN, z_m1, z_ltm1, z_m1lt, z_eqm1, z_m1eq, z_m1le, z_lem1, z_beq, nI_0_1, nI_m1lt0, nI_0lem1, not_false_eq_true, not_true_eq_false, forall_const, false_implies, true_implies, implies_true, false_and, and_false, mrg, renc, tra, trv, sg, List.map_cons, List.map_nil, Option.map_some, Option.map_none, Option.toList_some, Option.toList_none, List.cons_append, List.nil_append, List.length_cons, List.length_nil, eL, mL_33, jH, jF, show ¬ (-4 : Int32) = -2 by decide, show ¬ (-4 : Int32) = -3 by decide]
  exact hret
end JU
