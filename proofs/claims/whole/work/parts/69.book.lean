/-! BookJudge: flaws -/
abbrev bF (dp br fl du en le ah de : Int32) (ow st : Nat → Int32) : aH := [.inr (0, [.ref 1, .ref 2, .int dp, .int br, .int fl, .int du, .int en, .int le, .int ah, .int de]), .inl (1, 9, .inl ow), .inl (1, 9, .inl st), .inr (3, [.ref 4]), .inl (3, 9, .inr (.inr (.inr (.inr (aF 5)))))]
abbrev bH (dp br fl du en le ah de : Int32) (ow st : Nat → Int32) (PM : Nat → PS × MS) : aH := bF dp br fl du en le ah de ow st ++ blks 5 PM 9
theorem okF_bF (dp br fl du en le ah de : Int32) (ow st : Nat → Int32) : okF 9 (bF dp br fl du en le ah de ow st) := ⟨rfl, trivial, trivial, rfl, aF_ok, trivial⟩
theorem hg5 {c0 c1 c2 c3 c4 : aC} {PM : Nat → PS × MS} {x : Nat} (hx : x < 9) : hget (c0 :: c1 :: c2 :: c3 :: c4 :: blks 5 PM 9) (5 + 18 * x) = some (renc (5 + 18 * x + ·) (mO (PM x).2)) := by
  have := fb_get [c0, c1, c2, c3, c4] PM (nb := 9) x 0 hx (by decide)
  exact this
theorem bl5 {x : Nat} (hx : x < 9) : Nat.blt (5 + 18 * x) 167 = true := by
  rw [Nat.blt_eq]
  omega
theorem bNb (e : Bool) : (bN e == nI 0 || bN e == nI 1) = true := by cases e <;> decide
section BK
variable (dp br fl du en le ah de : Int32) (ow st : Nat → Int32) (PM : Nat → PS × MS)
set_option maxRecDepth 100000 in
theorem c_tellFlaw (d : Nat) (pl : Int32) (x : Nat) (hx : x < 9) {ν : aN} (h : yR (PM x) ν) {s m : Nat} (hs : ν.2.1.1[s]? = some m) :
    aSp (d + 2) 81 [.ref 0, .int pl, .ref (5 + 18 * x), .int (nI s)] (bH dp br fl du en le ah de ow st PM) nomv 0 0 (fun r h' => r = none ∧ h' = bH dp br pl (nI (trM (dT ν.1) m &&& 255)) (bN ((trM (dT ν.1) m).testBit 8)) le le de ow st PM) := by
  have hdu := y_due d h hs
  have hen := y_isEnding d h hs
  generalize nI (trM (dT ν.1) m &&& 255) = vd at *
  generalize (trM (dT ν.1) m).testBit 8 = ve at *
  refine sp_of (by decide) (Nat.le_of_ble_eq_true rfl) ?_
  generalize hG : ((d + 2, _, nomv, _, _, _) : aG) = G
  have ggd : gD G = d + 2 := by subst hG; rfl
  have ggn : gN G = 167 := by subst hG; exact fb_len (bF dp br fl du en le ah de ow st) PM (nb := 9)
  have hret : RET G none (bH dp br pl vd (bN ve) le le de ow st PM) 0 0 := by
    subst hG
    exact RET.id ⟨rfl, rfl⟩ (Nat.le_refl _) (Nat.le_refl _)
  clear hG
  have hb := bl5 hx
  have hbe := bNb ve
  refine wp_aw (S := fun _ => false) (by decide) 200 _ _ _ _ _ _ ?_
  simp (disch := first | exact rfl | decide | omega) only [u_81_0, u_81_1, u_81_2, u_81_5, u_81_6, u_81_7, u_81_8, u_81_11, u_81_14, u_81_15, u_81_16, u_81_17, u_81_20, u_81_23, u_81_24, u_81_25, u_81_28, u_81_31, wp_stop, lget, lput1, lput2, kil, hget, hset, vget, vset, fget, fgetC, fput, fputC, iget, igetC, jget, jgetC, qget, qgetC, alen, lenC, oI, oJ, oF, oA, oV, oH, oInc, oIld, oJld, oQld, oR, oLen, oIst, oBst, oJst, oQst, ciOf, rcv, oCp, cat1, cond_true, cond_false, Bool.and_self, Bool.and_true, Bool.true_and, Bool.or_true, Bool.true_or, Bool.or_false, Bool.false_or, Bool.not_false, Bool.not_true, ↓reduceIte, Nat.reduceBEq, Nat.reduceEqDiff, beq_self_eq_true, true_and, and_true, eq_self_iff_true, Nat.reduceAdd, Nat.blt, Nat.ble, z_le, z_lt, z_eq, z_cl, z_add, z_sub, z_mul, z_in, z_lt0, z_ofN, z_m1, z_ltm1, z_m1lt, z_eqm1, z_m1eq, z_m1le, z_lem1, z_beq, nI_0_1, nI_m1lt0, nI_0lem1, not_false_eq_true, not_true_eq_false, forall_const, false_implies, true_implies, implies_true, false_and, and_false, mrg, renc, tra, trv, sg, List.map_cons, List.map_nil, Option.map_some, Option.map_none, Option.toList_some, Option.toList_none, List.cons_append, List.nil_append, List.length_cons, List.length_nil, eL, mL_81, bH, bF, hg5, mO]
  show CAL _ _ _ (.ref ((bF dp br pl du en le ah de ow st).length + 18 * x) :: _) _ _ _ (bF dp br pl du en le ah de ow st ++ blks (bF dp br pl du en le ah de ow st).length PM 9) _ _
  refine CAL.blkR hdu hx (okF_bF ..) (fun _ => rfl) (fun _ => rfl) (by rw [ggd]; omega) (Nat.zero_le _) (Nat.zero_le _) (Nat.le_of_ble_eq_true rfl) (by rw [ggn]; exact Nat.le_of_ble_eq_true rfl) (by show okL 167 nomv _ = true; simp only [okL, okV, hb, nomv]; rfl) rfl ?_
  simp (disch := first | exact rfl | decide | omega) only [u_81_0, u_81_1, u_81_2, u_81_5, u_81_6, u_81_7, u_81_8, u_81_11, u_81_14, u_81_15, u_81_16, u_81_17, u_81_20, u_81_23, u_81_24, u_81_25, u_81_28, u_81_31, wp_stop, lget, lput1, lput2, kil, hget, hset, vget, vset, fget, fgetC, fput, fputC, iget, igetC, jget, jgetC, qget, qgetC, alen, lenC, oI, oJ, oF, oA, oV, oH, oInc, oIld, oJld, oQld, oR, oLen, oIst, oBst, oJst, oQst, ciOf, rcv, oCp, cat1, cond_true, cond_false, Bool.and_self, Bool.and_true, Bool.true_and, Bool.or_true, Bool.true_or, Bool.or_false, Bool.false_or, Bool.not_false, Bool.not_true, ↓reduceIte, Nat.reduceBEq, Nat.reduceEqDiff, beq_self_eq_true, true_and, and_true, eq_self_iff_true, Nat.reduceAdd, Nat.blt, Nat.ble, z_le, z_lt, z_eq, z_cl, z_add, z_sub, z_mul, z_in, z_lt0, z_ofN, z_m1, z_ltm1, z_m1lt, z_eqm1, z_m1eq, z_m1le, z_lem1, z_beq, nI_0_1, nI_m1lt0, nI_0lem1, not_false_eq_true, not_true_eq_false, forall_const, false_implies, true_implies, implies_true, false_and, and_false, mrg, renc, tra, trv, sg, List.map_cons, List.map_nil, Option.map_some, Option.map_none, Option.toList_some, Option.toList_none, List.cons_append, List.nil_append, List.length_cons, List.length_nil, bF, hg5, mO]
  show CAL _ _ _ (.ref ((bF dp br pl vd en le ah de ow st).length + 18 * x) :: _) _ _ _ (bF dp br pl vd en le ah de ow st ++ blks (bF dp br pl vd en le ah de ow st).length PM 9) _ _
  refine CAL.blkR hen hx (okF_bF ..) (fun _ => rfl) (fun _ => rfl) (by rw [ggd]; omega) (Nat.zero_le _) (Nat.zero_le _) (Nat.le_of_ble_eq_true rfl) (by rw [ggn]; exact Nat.le_of_ble_eq_true rfl) (by show okL 167 nomv _ = true; simp only [okL, okV, hb, nomv]; rfl) rfl ?_
  simp (disch := first | exact rfl | decide | omega) only [u_81_0, u_81_1, u_81_2, u_81_5, u_81_6, u_81_7, u_81_8, u_81_11, u_81_14, u_81_15, u_81_16, u_81_17, u_81_20, u_81_23, u_81_24, u_81_25, u_81_28, u_81_31, wp_stop, lget, lput1, lput2, kil, hget, hset, vget, vset, fget, fgetC, fput, fputC, iget, igetC, jget, jgetC, qget, qgetC, alen, lenC, oI, oJ, oF, oA, oV, oH, oInc, oIld, oJld, oQld, oR, oLen, oIst, oBst, oJst, oQst, ciOf, rcv, oCp, cat1, cond_true, cond_false, Bool.and_self, Bool.and_true, Bool.true_and, Bool.or_true, Bool.true_or, Bool.or_false, Bool.false_or, Bool.not_false, Bool.not_true, ↓reduceIte, Nat.reduceBEq, Nat.reduceEqDiff, beq_self_eq_true, true_and, and_true, eq_self_iff_true, Nat.reduceAdd, Nat.blt, Nat.ble, z_le, z_lt, z_eq, z_cl, z_add, z_sub, z_mul, z_in, z_lt0, z_ofN, z_m1, z_ltm1, z_m1lt, z_eqm1, z_m1eq, z_m1le, z_lem1, z_beq, nI_0_1, nI_m1lt0, nI_0lem1, not_false_eq_true, not_true_eq_false, forall_const, false_implies, true_implies, implies_true, false_and, and_false, mrg, renc, tra, trv, sg, List.map_cons, List.map_nil, Option.map_some, Option.map_none, Option.toList_some, Option.toList_none, List.cons_append, List.nil_append, List.length_cons, List.length_nil, bF, hbe, pB]
  exact hret
end BK
