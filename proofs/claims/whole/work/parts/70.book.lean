/-! BookJudge: ends -/
/-- a flaw: its place, what was due, whether it could end, letters ahead -/
abbrev aQ : Type := Option (Nat × Nat × Bool × Nat)
def fv : aQ → Int32 × Int32 × Int32 × Int32
  | none => (-1, nI 0, nI 1, nI 0)
  | some (p, u, e, a) => (nI p, nI u, bN e, nI a)
def bv : Option Nat → Int32
  | none => -1
  | some b => nI b
abbrev bQ (dp : Int32) (br : Option Nat) (q : aQ) (le de : Int32) (ow st : Nat → Int32) (PM : Nat → PS × MS) : aH := bH dp (bv br) (fv q).1 (fv q).2.1 (fv q).2.2.1 le (fv q).2.2.2 de ow st PM
def qOK (q : aQ) : Prop := ∀ t, q = some t → t.1 < 2 ^ 20
/-- an end at a place -/
noncomputable def eaA (q : aQ) (pl : Nat) (p : Int64) (m le : Nat) : aQ := match q with
  | some t => some t
  | none => if (trM (dT p) m).testBit 8 = true then none else some (pl, trM (dT p) m &&& 255, (trM (dT p) m).testBit 8, le)
theorem eaA_ok {q : aQ} {pl : Nat} {p : Int64} {m le : Nat} (h : qOK q) (hp : pl < 2 ^ 20) : qOK (eaA q pl p m le) := by
  intro t ht
  cases q with
  | some t2 => exact h t ht
  | none =>
    unfold eaA at ht
    simp only at ht
    split at ht
    · exact absurd ht (by simp)
    · have := Option.some.inj ht
      rw [← this]
      exact hp
section BK
variable (dp : Int32) (br : Option Nat) (de : Int32) (ow st : Nat → Int32) (PM : Nat → PS × MS)
set_option maxRecDepth 100000 in
theorem c_endAt (d : Nat) (q : aQ) (hq : qOK q) (le pl : Nat) (x : Nat) (hx : x < 9) {ν : aN} (h : yR (PM x) ν) {s m : Nat} (hs : ν.2.1.1[s]? = some m) :
    aSp (d + 3) 80 [.ref 0, .int (nI pl), .ref (5 + 18 * x), .int (nI s)] (bQ dp br q (nI le) de ow st PM) nomv 0 0 (fun r h' => r = none ∧ h' = bQ dp br (eaA q pl ν.1 m le) (nI le) de ow st PM) := by
  have hen := y_isEnding (d + 1) h hs
  have htl := c_tellFlaw dp (bv br) (-1) (nI 0) (nI 1) (nI le) (nI 0) de ow st PM d (nI pl) x hx h hs
  refine sp_of (by decide) (Nat.le_of_ble_eq_true rfl) ?_
  generalize hG : ((d + 3, _, nomv, _, _, _) : aG) = G
  have ggd : gD G = d + 3 := by subst hG; rfl
  have ggn : gN G = 167 := by subst hG; exact fb_len (bF dp (bv br) (fv q).1 (fv q).2.1 (fv q).2.2.1 (nI le) (fv q).2.2.2 de ow st) PM (nb := 9)
  have hret : RET G none (bQ dp br (eaA q pl ν.1 m le) (nI le) de ow st PM) 0 0 := by
    subst hG
    exact RET.id ⟨rfl, rfl⟩ (Nat.le_refl _) (Nat.le_refl _)
  clear hG
  have hb := bl5 hx
  cases q with
  | some t =>
    obtain ⟨p, u, e, a⟩ := t
    have hp : p < 2 ^ 20 := hq _ rfl
    refine wp_aw (S := fun _ => false) (by decide) 200 _ _ _ _ _ _ ?_
    simp (disch := first | exact rfl | decide | omega) only [u_80_0, u_80_1, u_80_4, u_80_5, u_80_8, u_80_9, u_80_10, u_80_13, u_80_16, u_80_17, u_80_18, u_80_19, u_80_20, u_80_23, wp_stop, lget, lput1, lput2, kil, hget, hset, vget, vset, fget, fgetC, fput, fputC, iget, igetC, jget, jgetC, qget, qgetC, alen, lenC, oI, oJ, oF, oA, oV, oH, oInc, oIld, oJld, oQld, oR, oLen, oIst, oBst, oJst, oQst, ciOf, rcv, oCp, cat1, cond_true, cond_false, Bool.and_self, Bool.and_true, Bool.true_and, Bool.or_true, Bool.true_or, Bool.or_false, Bool.false_or, Bool.not_false, Bool.not_true, ↓reduceIte, Nat.reduceBEq, Nat.reduceEqDiff, beq_self_eq_true, true_and, and_true, eq_self_iff_true, Nat.reduceAdd, Nat.blt, Nat.ble, z_le, z_lt, z_eq, z_cl, z_add, z_sub, z_mul, z_in, z_lt0, z_ofN, z_m1, z_ltm1, z_m1lt, z_eqm1, z_m1eq, z_m1le, z_lem1, z_beq, nI_0_1, nI_m1lt0, nI_0lem1, not_false_eq_true, not_true_eq_false, forall_const, false_implies, true_implies, implies_true, false_and, and_false, mrg, renc, tra, trv, sg, List.map_cons, List.map_nil, Option.map_some, Option.map_none, Option.toList_some, Option.toList_none, List.cons_append, List.nil_append, List.length_cons, List.length_nil, eL, mL_80, bQ, bH, bF, fv]
    exact hret
  | none =>
    unfold eaA at hret
    simp only at hret
    by_cases he : (trM (dT ν.1) m).testBit 8 = true
    · rw [if_pos he] at hret
      rw [he, bNt] at hen
      refine wp_aw (S := fun _ => false) (by decide) 200 _ _ _ _ _ _ ?_
      simp (disch := first | exact rfl | decide | omega) only [u_80_0, u_80_1, u_80_4, u_80_5, u_80_8, u_80_9, u_80_10, u_80_13, u_80_16, u_80_17, u_80_18, u_80_19, u_80_20, u_80_23, wp_stop, lget, lput1, lput2, kil, hget, hset, vget, vset, fget, fgetC, fput, fputC, iget, igetC, jget, jgetC, qget, qgetC, alen, lenC, oI, oJ, oF, oA, oV, oH, oInc, oIld, oJld, oQld, oR, oLen, oIst, oBst, oJst, oQst, ciOf, rcv, oCp, cat1, cond_true, cond_false, Bool.and_self, Bool.and_true, Bool.true_and, Bool.or_true, Bool.true_or, Bool.or_false, Bool.false_or, Bool.not_false, Bool.not_true, ↓reduceIte, Nat.reduceBEq, Nat.reduceEqDiff, beq_self_eq_true, true_and, and_true, eq_self_iff_true, Nat.reduceAdd, Nat.blt, Nat.ble, z_le, z_lt, z_eq, z_cl, z_add, z_sub, z_mul, z_in, z_lt0, z_ofN, z_m1, z_ltm1, z_m1lt, z_eqm1, z_m1eq, z_m1le, z_lem1, z_beq, nI_0_1, nI_m1lt0, nI_0lem1, not_false_eq_true, not_true_eq_false, forall_const, false_implies, true_implies, implies_true, false_and, and_false, mrg, renc, tra, trv, sg, List.map_cons, List.map_nil, Option.map_some, Option.map_none, Option.toList_some, Option.toList_none, List.cons_append, List.nil_append, List.length_cons, List.length_nil, eL, mL_80, bQ, bH, bF, fv, hg5, mO]
      show CAL _ _ _ (.ref ((bF dp (bv br) (-1) (nI 0) (nI 1) (nI le) (nI 0) de ow st).length + 18 * x) :: _) _ _ _ (bF dp (bv br) (-1) (nI 0) (nI 1) (nI le) (nI 0) de ow st ++ blks (bF dp (bv br) (-1) (nI 0) (nI 1) (nI le) (nI 0) de ow st).length PM 9) _ _
      refine CAL.blkR hen hx (okF_bF ..) (fun _ => rfl) (fun _ => rfl) (by rw [ggd]; omega) (Nat.zero_le _) (Nat.zero_le _) (Nat.le_of_ble_eq_true rfl) (by rw [ggn]; exact Nat.le_of_ble_eq_true rfl) (by show okL 167 nomv _ = true; simp only [okL, okV, hb, nomv]; rfl) rfl ?_
      simp (disch := first | exact rfl | decide | omega) only [u_80_0, u_80_1, u_80_4, u_80_5, u_80_8, u_80_9, u_80_10, u_80_13, u_80_16, u_80_17, u_80_18, u_80_19, u_80_20, u_80_23, wp_stop, lget, lput1, lput2, kil, hget, hset, vget, vset, fget, fgetC, fput, fputC, iget, igetC, jget, jgetC, qget, qgetC, alen, lenC, oI, oJ, oF, oA, oV, oH, oInc, oIld, oJld, oQld, oR, oLen, oIst, oBst, oJst, oQst, ciOf, rcv, oCp, cat1, cond_true, cond_false, Bool.and_self, Bool.and_true, Bool.true_and, Bool.or_true, Bool.true_or, Bool.or_false, Bool.false_or, Bool.not_false, Bool.not_true, ↓reduceIte, Nat.reduceBEq, Nat.reduceEqDiff, beq_self_eq_true, true_and, and_true, eq_self_iff_true, Nat.reduceAdd, Nat.blt, Nat.ble, z_le, z_lt, z_eq, z_cl, z_add, z_sub, z_mul, z_in, z_lt0, z_ofN, z_m1, z_ltm1, z_m1lt, z_eqm1, z_m1eq, z_m1le, z_lem1, z_beq, nI_0_1, nI_m1lt0, nI_0lem1, not_false_eq_true, not_true_eq_false, forall_const, false_implies, true_implies, implies_true, false_and, and_false, mrg, renc, tra, trv, sg, List.map_cons, List.map_nil, Option.map_some, Option.map_none, Option.toList_some, Option.toList_none, List.cons_append, List.nil_append, List.length_cons, List.length_nil, bF, n10]
      exact hret
    · rw [if_neg he] at hret
      rw [Bool.not_eq_true] at he
      rw [he, bNf] at hen
      refine wp_aw (S := fun _ => false) (by decide) 200 _ _ _ _ _ _ ?_
      simp (disch := first | exact rfl | decide | omega) only [u_80_0, u_80_1, u_80_4, u_80_5, u_80_8, u_80_9, u_80_10, u_80_13, u_80_16, u_80_17, u_80_18, u_80_19, u_80_20, u_80_23, wp_stop, lget, lput1, lput2, kil, hget, hset, vget, vset, fget, fgetC, fput, fputC, iget, igetC, jget, jgetC, qget, qgetC, alen, lenC, oI, oJ, oF, oA, oV, oH, oInc, oIld, oJld, oQld, oR, oLen, oIst, oBst, oJst, oQst, ciOf, rcv, oCp, cat1, cond_true, cond_false, Bool.and_self, Bool.and_true, Bool.true_and, Bool.or_true, Bool.true_or, Bool.or_false, Bool.false_or, Bool.not_false, Bool.not_true, ↓reduceIte, Nat.reduceBEq, Nat.reduceEqDiff, beq_self_eq_true, true_and, and_true, eq_self_iff_true, Nat.reduceAdd, Nat.blt, Nat.ble, z_le, z_lt, z_eq, z_cl, z_add, z_sub, z_mul, z_in, z_lt0, z_ofN, z_m1, z_ltm1, z_m1lt, z_eqm1, z_m1eq, z_m1le, z_lem1, z_beq, nI_0_1, nI_m1lt0, nI_0lem1, not_false_eq_true, not_true_eq_false, forall_const, false_implies, true_implies, implies_true, false_and, and_false, mrg, renc, tra, trv, sg, List.map_cons, List.map_nil, Option.map_some, Option.map_none, Option.toList_some, Option.toList_none, List.cons_append, List.nil_append, List.length_cons, List.length_nil, eL, mL_80, bQ, bH, bF, fv, hg5, mO]
      show CAL _ _ _ (.ref ((bF dp (bv br) (-1) (nI 0) (nI 1) (nI le) (nI 0) de ow st).length + 18 * x) :: _) _ _ _ (bF dp (bv br) (-1) (nI 0) (nI 1) (nI le) (nI 0) de ow st ++ blks (bF dp (bv br) (-1) (nI 0) (nI 1) (nI le) (nI 0) de ow st).length PM 9) _ _
      refine CAL.blkR hen hx (okF_bF ..) (fun _ => rfl) (fun _ => rfl) (by rw [ggd]; omega) (Nat.zero_le _) (Nat.zero_le _) (Nat.le_of_ble_eq_true rfl) (by rw [ggn]; exact Nat.le_of_ble_eq_true rfl) (by show okL 167 nomv _ = true; simp only [okL, okV, hb, nomv]; rfl) rfl ?_
      simp (disch := first | exact rfl | decide | omega) only [u_80_0, u_80_1, u_80_4, u_80_5, u_80_8, u_80_9, u_80_10, u_80_13, u_80_16, u_80_17, u_80_18, u_80_19, u_80_20, u_80_23, wp_stop, lget, lput1, lput2, kil, hget, hset, vget, vset, fget, fgetC, fput, fputC, iget, igetC, jget, jgetC, qget, qgetC, alen, lenC, oI, oJ, oF, oA, oV, oH, oInc, oIld, oJld, oQld, oR, oLen, oIst, oBst, oJst, oQst, ciOf, rcv, oCp, cat1, cond_true, cond_false, Bool.and_self, Bool.and_true, Bool.true_and, Bool.or_true, Bool.true_or, Bool.or_false, Bool.false_or, Bool.not_false, Bool.not_true, ↓reduceIte, Nat.reduceBEq, Nat.reduceEqDiff, beq_self_eq_true, true_and, and_true, eq_self_iff_true, Nat.reduceAdd, Nat.blt, Nat.ble, z_le, z_lt, z_eq, z_cl, z_add, z_sub, z_mul, z_in, z_lt0, z_ofN, z_m1, z_ltm1, z_m1lt, z_eqm1, z_m1eq, z_m1le, z_lem1, z_beq, nI_0_1, nI_m1lt0, nI_0lem1, not_false_eq_true, not_true_eq_false, forall_const, false_implies, true_implies, implies_true, false_and, and_false, mrg, renc, tra, trv, sg, List.map_cons, List.map_nil, Option.map_some, Option.map_none, Option.toList_some, Option.toList_none, List.cons_append, List.nil_append, List.length_cons, List.length_nil, bF]
      refine CAL.dir htl (by rw [ggd]; omega) (Nat.zero_le _) (Nat.zero_le _) (Nat.le_of_ble_eq_true rfl) (by rw [ggn]; exact Nat.le_of_ble_eq_true rfl) (by show okL 167 nomv _ = true; simp only [okL, okV, hb, nomv]; rfl) rfl ?_
      rintro _ _ ⟨rfl, rfl⟩
      simp (disch := first | exact rfl | decide | omega) only [u_80_0, u_80_1, u_80_4, u_80_5, u_80_8, u_80_9, u_80_10, u_80_13, u_80_16, u_80_17, u_80_18, u_80_19, u_80_20, u_80_23, wp_stop, lget, lput1, lput2, kil, hget, hset, vget, vset, fget, fgetC, fput, fputC, iget, igetC, jget, jgetC, qget, qgetC, alen, lenC, oI, oJ, oF, oA, oV, oH, oInc, oIld, oJld, oQld, oR, oLen, oIst, oBst, oJst, oQst, ciOf, rcv, oCp, cat1, cond_true, cond_false, Bool.and_self, Bool.and_true, Bool.true_and, Bool.or_true, Bool.true_or, Bool.or_false, Bool.false_or, Bool.not_false, Bool.not_true, ↓reduceIte, Nat.reduceBEq, Nat.reduceEqDiff, beq_self_eq_true, true_and, and_true, eq_self_iff_true, Nat.reduceAdd, Nat.blt, Nat.ble, z_le, z_lt, z_eq, z_cl, z_add, z_sub, z_mul, z_in, z_lt0, z_ofN, z_m1, z_ltm1, z_m1lt, z_eqm1, z_m1eq, z_m1le, z_lem1, z_beq, nI_0_1, nI_m1lt0, nI_0lem1, not_false_eq_true, not_true_eq_false, forall_const, false_implies, true_implies, implies_true, false_and, and_false, mrg, renc, tra, trv, sg, List.map_cons, List.map_nil, Option.map_some, Option.map_none, Option.toList_some, Option.toList_none, List.cons_append, List.nil_append, List.length_cons, List.length_nil, bH, bF]
      exact hret
/-- the end of a part without brackets -/
noncomputable def ebA (ν : Nat → aN) (br : Option Nat) (q : aQ) (pl le : Nat) : aQ := match br with
  | none => q
  | some b => eaA q pl (ν b).1 1 le
set_option maxRecDepth 100000 in
theorem c_endBare (d : Nat) (q : aQ) (hq : qOK q) (le pl : Nat) (ν : Nat → aN) (h : ∀ x, x < 9 → yR (PM x) (ν x)) (hb : ∀ b, br = some b → b < 9) :
    aSp (d + 4) 79 [.ref 0, .ref 3, .int (nI pl)] (bQ dp br q (nI le) de ow st PM) nomv 0 0 (fun r h' => r = none ∧ h' = bQ dp none (ebA ν br q pl le) (nI le) de ow st PM) := by
  refine sp_of (by decide) (Nat.le_of_ble_eq_true rfl) ?_
  generalize hG : ((d + 4, _, nomv, _, _, _) : aG) = G
  have ggd : gD G = d + 4 := by subst hG; rfl
  have ggn : gN G = 167 := by subst hG; exact fb_len (bF dp (bv br) (fv q).1 (fv q).2.1 (fv q).2.2.1 (nI le) (fv q).2.2.2 de ow st) PM (nb := 9)
  have hret : RET G none (bQ dp none (ebA ν br q pl le) (nI le) de ow st PM) 0 0 := by
    subst hG
    exact RET.id ⟨rfl, rfl⟩ (Nat.le_refl _) (Nat.le_refl _)
  clear hG
  cases br with
  | none =>
    refine wp_aw (S := fun _ => false) (by decide) 200 _ _ _ _ _ _ ?_
    simp (disch := first | exact rfl | decide | omega) only [u_79_0, u_79_1, u_79_4, u_79_5, u_79_8, u_79_9, u_79_10, u_79_11, u_79_12, u_79_15, u_79_18, u_79_19, u_79_22, u_79_23, u_79_24, u_79_27, wp_stop, lget, lput1, lput2, kil, hget, hset, vget, vset, fget, fgetC, fput, fputC, iget, igetC, jget, jgetC, qget, qgetC, alen, lenC, oI, oJ, oF, oA, oV, oH, oInc, oIld, oJld, oQld, oR, oLen, oIst, oBst, oJst, oQst, ciOf, rcv, oCp, cat1, cond_true, cond_false, Bool.and_self, Bool.and_true, Bool.true_and, Bool.or_true, Bool.true_or, Bool.or_false, Bool.false_or, Bool.not_false, Bool.not_true, ↓reduceIte, Nat.reduceBEq, Nat.reduceEqDiff, beq_self_eq_true, true_and, and_true, eq_self_iff_true, Nat.reduceAdd, Nat.blt, Nat.ble, z_le, z_lt, z_eq, z_cl, z_add, z_sub, z_mul, z_in, z_lt0, z_ofN, z_m1, z_ltm1, z_m1lt, z_eqm1, z_m1eq, z_m1le, z_lem1, z_beq, nI_0_1, nI_m1lt0, nI_0lem1, not_false_eq_true, not_true_eq_false, forall_const, false_implies, true_implies, implies_true, false_and, and_false, mrg, renc, tra, trv, sg, List.map_cons, List.map_nil, Option.map_some, Option.map_none, Option.toList_some, Option.toList_none, List.cons_append, List.nil_append, List.length_cons, List.length_nil, eL, mL_79, bQ, bH, bF, bv]
    exact hret
  | some b =>
    have hb9 := hb b rfl
    have hea := c_endAt dp (some b) de ow st PM d q hq le pl b hb9 (h b hb9) (y_ok (h b hb9)).2.2.2.1
    have hret2 : RET G none (bQ dp none (eaA q pl (ν b).1 1 le) (nI le) de ow st PM) 0 0 := hret
    clear hret
    generalize eaA q pl (ν b).1 1 le = q2 at *
    have hat := c_at (d + 2) (bF dp (nI b) (fv q).1 (fv q).2.1 (fv q).2.2.1 (nI le) (fv q).2.2.2 de ow st ++ blks 5 PM 9) 3 4 (aF 5) b (5 + 18 * b) hb9 rfl rfl (aF_k hb9)
    refine wp_aw (S := fun _ => false) (by decide) 200 _ _ _ _ _ _ ?_
    simp (disch := first | exact rfl | decide | omega) only [u_79_0, u_79_1, u_79_4, u_79_5, u_79_8, u_79_9, u_79_10, u_79_11, u_79_12, u_79_15, u_79_18, u_79_19, u_79_22, u_79_23, u_79_24, u_79_27, wp_stop, lget, lput1, lput2, kil, hget, hset, vget, vset, fget, fgetC, fput, fputC, iget, igetC, jget, jgetC, qget, qgetC, alen, lenC, oI, oJ, oF, oA, oV, oH, oInc, oIld, oJld, oQld, oR, oLen, oIst, oBst, oJst, oQst, ciOf, rcv, oCp, cat1, cond_true, cond_false, Bool.and_self, Bool.and_true, Bool.true_and, Bool.or_true, Bool.true_or, Bool.or_false, Bool.false_or, Bool.not_false, Bool.not_true, ↓reduceIte, Nat.reduceBEq, Nat.reduceEqDiff, beq_self_eq_true, true_and, and_true, eq_self_iff_true, Nat.reduceAdd, Nat.blt, Nat.ble, z_le, z_lt, z_eq, z_cl, z_add, z_sub, z_mul, z_in, z_lt0, z_ofN, z_m1, z_ltm1, z_m1lt, z_eqm1, z_m1eq, z_m1le, z_lem1, z_beq, nI_0_1, nI_m1lt0, nI_0lem1, not_false_eq_true, not_true_eq_false, forall_const, false_implies, true_implies, implies_true, false_and, and_false, mrg, renc, tra, trv, sg, List.map_cons, List.map_nil, Option.map_some, Option.map_none, Option.toList_some, Option.toList_none, List.cons_append, List.nil_append, List.length_cons, List.length_nil, eL, mL_79, bQ, bH, bF, bv]
    refine CAL.dir hat (by rw [ggd]; omega) (Nat.zero_le _) (Nat.zero_le _) (Nat.le_of_ble_eq_true rfl) (by rw [ggn]; exact Nat.le_of_ble_eq_true rfl) rfl rfl ?_
    rintro _ _ ⟨rfl, rfl⟩
    simp (disch := first | exact rfl | decide | omega) only [u_79_0, u_79_1, u_79_4, u_79_5, u_79_8, u_79_9, u_79_10, u_79_11, u_79_12, u_79_15, u_79_18, u_79_19, u_79_22, u_79_23, u_79_24, u_79_27, wp_stop, lget, lput1, lput2, kil, hget, hset, vget, vset, fget, fgetC, fput, fputC, iget, igetC, jget, jgetC, qget, qgetC, alen, lenC, oI, oJ, oF, oA, oV, oH, oInc, oIld, oJld, oQld, oR, oLen, oIst, oBst, oJst, oQst, ciOf, rcv, oCp, cat1, cond_true, cond_false, Bool.and_self, Bool.and_true, Bool.true_and, Bool.or_true, Bool.true_or, Bool.or_false, Bool.false_or, Bool.not_false, Bool.not_true, ↓reduceIte, Nat.reduceBEq, Nat.reduceEqDiff, beq_self_eq_true, true_and, and_true, eq_self_iff_true, Nat.reduceAdd, Nat.blt, Nat.ble, z_le, z_lt, z_eq, z_cl, z_add, z_sub, z_mul, z_in, z_lt0, z_ofN, z_m1, z_ltm1, z_m1lt, z_eqm1, z_m1eq, z_m1le, z_lem1, z_beq, nI_0_1, nI_m1lt0, nI_0lem1, not_false_eq_true, not_true_eq_false, forall_const, false_implies, true_implies, implies_true, false_and, and_false, mrg, renc, tra, trv, sg, List.map_cons, List.map_nil, Option.map_some, Option.map_none, Option.toList_some, Option.toList_none, List.cons_append, List.nil_append, List.length_cons, List.length_nil, bF]
    refine CAL.dir hea (by rw [ggd]; omega) (Nat.zero_le _) (Nat.zero_le _) (Nat.le_of_ble_eq_true rfl) (by rw [ggn]; exact Nat.le_of_ble_eq_true rfl) rfl rfl ?_
    rintro _ _ ⟨rfl, rfl⟩
    simp (disch := first | exact rfl | decide | omega) only [u_79_0, u_79_1, u_79_4, u_79_5, u_79_8, u_79_9, u_79_10, u_79_11, u_79_12, u_79_15, u_79_18, u_79_19, u_79_22, u_79_23, u_79_24, u_79_27, wp_stop, lget, lput1, lput2, kil, hget, hset, vget, vset, fget, fgetC, fput, fputC, iget, igetC, jget, jgetC, qget, qgetC, alen, lenC, oI, oJ, oF, oA, oV, oH, oInc, oIld, oJld, oQld, oR, oLen, oIst, oBst, oJst, oQst, ciOf, rcv, oCp, cat1, cond_true, cond_false, Bool.and_self, Bool.and_true, Bool.true_and, Bool.or_true, Bool.true_or, Bool.or_false, Bool.false_or, Bool.not_false, Bool.not_true, ↓reduceIte, Nat.reduceBEq, Nat.reduceEqDiff, beq_self_eq_true, true_and, and_true, eq_self_iff_true, Nat.reduceAdd, Nat.blt, Nat.ble, z_le, z_lt, z_eq, z_cl, z_add, z_sub, z_mul, z_in, z_lt0, z_ofN, z_m1, z_ltm1, z_m1lt, z_eqm1, z_m1eq, z_m1le, z_lem1, z_beq, nI_0_1, nI_m1lt0, nI_0lem1, not_false_eq_true, not_true_eq_false, forall_const, false_implies, true_implies, implies_true, false_and, and_false, mrg, renc, tra, trv, sg, List.map_cons, List.map_nil, Option.map_some, Option.map_none, Option.toList_some, Option.toList_none, List.cons_append, List.nil_append, List.length_cons, List.length_nil, bQ, bH, bF, bv]
    exact hret2
set_option maxRecDepth 100000 in
theorem c_endRow (d dep : Nat) (hdp : dep < 9) (q : aQ) (hq : qOK q) (le pl x s m : Nat) (hx : x < 9) (hw : ow dep = nI x) (hst : st dep = nI s) {ν : aN} (h : yR (PM x) ν) (hs : ν.2.1.1[s]? = some m) :
    aSp (d + 4) 84 [.ref 0, .ref 3, .int (nI pl)] (bQ (nI dep) br q (nI le) de ow st PM) nomv 0 0 (fun r h' => r = none ∧ h' = bQ (nI dep) br (eaA q pl ν.1 m le) (nI le) de ow st PM) := by
  refine sp_of (by decide) (Nat.le_of_ble_eq_true rfl) ?_
  generalize hG : ((d + 4, _, nomv, _, _, _) : aG) = G
  have ggd : gD G = d + 4 := by subst hG; rfl
  have ggn : gN G = 167 := by subst hG; exact fb_len (bF (nI dep) (bv br) (fv q).1 (fv q).2.1 (fv q).2.2.1 (nI le) (fv q).2.2.2 de ow st) PM (nb := 9)
  have hret : RET G none (bQ (nI dep) br (eaA q pl ν.1 m le) (nI le) de ow st PM) 0 0 := by
    subst hG
    exact RET.id ⟨rfl, rfl⟩ (Nat.le_refl _) (Nat.le_refl _)
  clear hG
  have hea := c_endAt (nI dep) br de ow st PM d q hq le pl x hx h hs
  have hat := c_at (d + 2) (bF (nI dep) (bv br) (fv q).1 (fv q).2.1 (fv q).2.2.1 (nI le) (fv q).2.2.2 de ow st ++ blks 5 PM 9) 3 4 (aF 5) x (5 + 18 * x) hx rfl rfl (aF_k hx)
  refine wp_aw (S := fun _ => false) (by decide) 200 _ _ _ _ _ _ ?_
  simp (disch := first | exact rfl | decide | omega) only [u_84_0, u_84_1, u_84_2, u_84_3, u_84_4, u_84_7, u_84_8, u_84_11, u_84_12, u_84_15, u_84_16, u_84_19, u_84_20, u_84_23, u_84_24, u_84_27, wp_stop, lget, lput1, lput2, kil, hget, hset, vget, vset, fget, fgetC, fput, fputC, iget, igetC, jget, jgetC, qget, qgetC, alen, lenC, oI, oJ, oF, oA, oV, oH, oInc, oIld, oJld, oQld, oR, oLen, oIst, oBst, oJst, oQst, ciOf, rcv, oCp, cat1, cond_true, cond_false, Bool.and_self, Bool.and_true, Bool.true_and, Bool.or_true, Bool.true_or, Bool.or_false, Bool.false_or, Bool.not_false, Bool.not_true, ↓reduceIte, Nat.reduceBEq, Nat.reduceEqDiff, beq_self_eq_true, true_and, and_true, eq_self_iff_true, Nat.reduceAdd, Nat.blt, Nat.ble, z_le, z_lt, z_eq, z_cl, z_add, z_sub, z_mul, z_in, z_lt0, z_ofN, z_m1, z_ltm1, z_m1lt, z_eqm1, z_m1eq, z_m1le, z_lem1, z_beq, nI_0_1, nI_m1lt0, nI_0lem1, not_false_eq_true, not_true_eq_false, forall_const, false_implies, true_implies, implies_true, false_and, and_false, mrg, renc, tra, trv, sg, List.map_cons, List.map_nil, Option.map_some, Option.map_none, Option.toList_some, Option.toList_none, List.cons_append, List.nil_append, List.length_cons, List.length_nil, eL, mL_84, bQ, bH, bF, hw, hst]
  refine CAL.dir hat (by rw [ggd]; omega) (Nat.zero_le _) (Nat.zero_le _) (Nat.le_of_ble_eq_true rfl) (by rw [ggn]; exact Nat.le_of_ble_eq_true rfl) rfl rfl ?_
  rintro _ _ ⟨rfl, rfl⟩
  simp (disch := first | exact rfl | decide | omega) only [u_84_0, u_84_1, u_84_2, u_84_3, u_84_4, u_84_7, u_84_8, u_84_11, u_84_12, u_84_15, u_84_16, u_84_19, u_84_20, u_84_23, u_84_24, u_84_27, wp_stop, lget, lput1, lput2, kil, hget, hset, vget, vset, fget, fgetC, fput, fputC, iget, igetC, jget, jgetC, qget, qgetC, alen, lenC, oI, oJ, oF, oA, oV, oH, oInc, oIld, oJld, oQld, oR, oLen, oIst, oBst, oJst, oQst, ciOf, rcv, oCp, cat1, cond_true, cond_false, Bool.and_self, Bool.and_true, Bool.true_and, Bool.or_true, Bool.true_or, Bool.or_false, Bool.false_or, Bool.not_false, Bool.not_true, ↓reduceIte, Nat.reduceBEq, Nat.reduceEqDiff, beq_self_eq_true, true_and, and_true, eq_self_iff_true, Nat.reduceAdd, Nat.blt, Nat.ble, z_le, z_lt, z_eq, z_cl, z_add, z_sub, z_mul, z_in, z_lt0, z_ofN, z_m1, z_ltm1, z_m1lt, z_eqm1, z_m1eq, z_m1le, z_lem1, z_beq, nI_0_1, nI_m1lt0, nI_0lem1, not_false_eq_true, not_true_eq_false, forall_const, false_implies, true_implies, implies_true, false_and, and_false, mrg, renc, tra, trv, sg, List.map_cons, List.map_nil, Option.map_some, Option.map_none, Option.toList_some, Option.toList_none, List.cons_append, List.nil_append, List.length_cons, List.length_nil, bF, hw, hst]
  refine CAL.dir hea (by rw [ggd]; omega) (Nat.zero_le _) (Nat.zero_le _) (Nat.le_of_ble_eq_true rfl) (by rw [ggn]; exact Nat.le_of_ble_eq_true rfl) rfl rfl ?_
  rintro _ _ ⟨rfl, rfl⟩
  simp (disch := first | exact rfl | decide | omega) only [u_84_0, u_84_1, u_84_2, u_84_3, u_84_4, u_84_7, u_84_8, u_84_11, u_84_12, u_84_15, u_84_16, u_84_19, u_84_20, u_84_23, u_84_24, u_84_27, wp_stop, lget, lput1, lput2, kil, hget, hset, vget, vset, fget, fgetC, fput, fputC, iget, igetC, jget, jgetC, qget, qgetC, alen, lenC, oI, oJ, oF, oA, oV, oH, oInc, oIld, oJld, oQld, oR, oLen, oIst, oBst, oJst, oQst, ciOf, rcv, oCp, cat1, cond_true, cond_false, Bool.and_self, Bool.and_true, Bool.true_and, Bool.or_true, Bool.true_or, Bool.or_false, Bool.false_or, Bool.not_false, Bool.not_true, ↓reduceIte, Nat.reduceBEq, Nat.reduceEqDiff, beq_self_eq_true, true_and, and_true, eq_self_iff_true, Nat.reduceAdd, Nat.blt, Nat.ble, z_le, z_lt, z_eq, z_cl, z_add, z_sub, z_mul, z_in, z_lt0, z_ofN, z_m1, z_ltm1, z_m1lt, z_eqm1, z_m1eq, z_m1le, z_lem1, z_beq, nI_0_1, nI_m1lt0, nI_0lem1, not_false_eq_true, not_true_eq_false, forall_const, false_implies, true_implies, implies_true, false_and, and_false, mrg, renc, tra, trv, sg, List.map_cons, List.map_nil, Option.map_some, Option.map_none, Option.toList_some, Option.toList_none, List.cons_append, List.nil_append, List.length_cons, List.length_nil]
  exact hret
end BK
