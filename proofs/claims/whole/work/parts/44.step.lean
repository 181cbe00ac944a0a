/-! Machine.step -/
theorem stA_old {W : Nat} {A : aM} {m : Nat} (h : m ∈ A.1) : stA W A m = A := if_pos h
theorem get_mem {L : List Nat} {i m : Nat} (h : L[i]? = some m) : m ∈ L := List.mem_of_getElem? h
theorem stA_uS {W : Nat} {A : aM} {m : Nat} (h : pw2 A.2.1) (h3 : pw3 A.2.2) (h1 : 1 ≤ W) (h4 : W ≤ 4) : uS A ≤ uS (stA W A m) ∧ uC A ≤ uC (stA W A m) ∧ (m ∉ A.1 → rmS A.1.length A.2.1 A.2.2 W ≤ uS (stA W A m) - uS A ∧ rmC A.1.length A.2.1 A.2.2 W ≤ uC (stA W A m) - uC A) := by
  have hc := rm_cost (k := A.1.length) h h3 h1 h4
  unfold stA uS uC
  split
  next q => exact ⟨Nat.le_refl _, Nat.le_refl _, fun z => absurd q z⟩
  next q =>
    dsimp only
    exact ⟨by omega, by omega, fun _ => ⟨by omega, by omega⟩⟩
section ST
variable (root : Int32) (S : Nat) (sorts mc lv : Int32) (kd sa la sp sh : Nat → Int32) (N : Nat) (ptr : Nat → Int32) (nm : Nat) (mo ms me : Nat → Int32)
variable (pat : Int64) (W : Nat) (counted : Int32) (co : Nat → Int32) (gm : Nat → List (Nat × Nat)) (T : Nat → Nat)
/-- a machine that knows A -/
abbrev mA (A : aM) (ft : Int32) (se : Nat → Int64) (nx tr ol nw : Nat → Int32) (fo : Nat → Int64) : aH := mH (pP root S sorts mc lv kd sa la sp sh N ptr nm mo ms me) (mM pat W A.1.length ft counted A.2.2 se A.2.1 nx tr ol nw fo co)
set_option maxRecDepth 100000 in
theorem c_stepNo (d : Nat) (A : aM) (ft : Int32) (se : Nat → Int64) (nx tr ol nw : Nat → Int32) (fo : Nat → Int64) (s x m : Nat) (hs : A.1[s]? = some m) (hx : x < 8) (hI : mcI S W gm T A se nx tr ol nw) (hdue : (trM T m).testBit x = false) :
    aSp (d + 2) 71 [.ref 0, .int (nI s), .int (nI x)] (mA root S sorts mc lv kd sa la sp sh N ptr nm mo ms me pat W counted co A ft se nx tr ol nw fo) nomv 0 0 (fun r h' => r = some (.int (-1)) ∧ h' = mA root S sorts mc lv kd sa la sp sh N ptr nm mo ms me pat W counted co A ft se nx tr ol nw fo) := by
  obtain ⟨⟨w1, w4, wS, wS2⟩, ⟨b1, b2, b3, b4, b5, b6⟩, hnd, hlt, hst, hch⟩ := hI
  obtain ⟨-, h2, -⟩ := hst s m hs
  have hsl := gget_lt hs
  refine sp_of (by decide) (Nat.le_of_ble_eq_true rfl) ?_
  generalize hG : ((d + 2, _, nomv, _, _, _) : aG) = G
  have ggd : gD G = d + 2 := by subst hG; rfl
  have ggn : gN G = 18 := by subst hG; rfl
  have ggm : gM G = nomv := by subst hG; rfl
  have ggc : gC G = 0 := by subst hG; rfl
  have ggs : gS G = 0 := by subst hG; rfl
  have hret : RET G (some (.int (-1))) (mA root S sorts mc lv kd sa la sp sh N ptr nm mo ms me pat W counted co A ft se nx tr ol nw fo) 0 0 := by
    subst hG
    exact RET.id ⟨rfl, rfl⟩ (Nat.le_refl _) (Nat.le_refl _)
  clear hG
  have t1 : ¬ x < 0 := by omega
  have t2 : ¬ 8 ≤ x := by omega
  have t3 := (due0 (v := trM T m) hx).mpr hdue
  refine wp_aw (S := fun _ => false) (by decide) 200 _ _ _ _ _ _ ?_
  simp (disch := first | exact rfl | decide | omega) only [u_71_0, u_71_1, u_71_4, u_71_5, u_71_7, u_71_10, u_71_11, u_71_12, u_71_15, u_71_16, u_71_17, u_71_18, u_71_19, u_71_22, u_71_23, u_71_24, u_71_25, u_71_28, u_71_29, u_71_31, u_71_32, u_71_33, u_71_34, u_71_35, u_71_36, u_71_37, u_71_39, u_71_42, u_71_43, u_71_44, u_71_45, u_71_48, u_71_49, u_71_52, u_71_53, u_71_54, u_71_57, u_71_58, u_71_60, u_71_61, u_71_62, u_71_63, u_71_64, u_71_65, u_71_66, wp_stop, lget, lput1, lput2, kil, hget, hset, vget, vset, fget, fgetC, fput, fputC, iget, igetC, jget, jgetC, qget, qgetC, alen, lenC, oI, oJ, oF, oA, oV, oH, oInc, oIld, oJld, oQld, oR, oLen, oIst, oBst, oJst, oQst, ciOf, rcv, oCp, cat1, cond_true, cond_false, Bool.and_self, Bool.and_true, Bool.true_and, Bool.or_true, Bool.true_or, Bool.or_false, Bool.false_or, Bool.not_false, Bool.not_true, ↓reduceIte, Nat.reduceBEq, Nat.reduceEqDiff, beq_self_eq_true, true_and, and_true, eq_self_iff_true, Nat.reduceAdd, Nat.blt, Nat.ble, z_le, z_lt, z_eq, z_cl, z_add, z_sub, z_mul, z_in, z_lt0, z_ofN, z_m1, z_ltm1, z_m1lt, z_eqm1, z_m1eq, z_m1le, z_lem1, z_beq, nI_0_1, nI_m1lt0, nI_0lem1, not_false_eq_true, not_true_eq_false, forall_const, false_implies, true_implies, implies_true, false_and, and_false, mrg, renc, tra, trv, sg, List.map_cons, List.map_nil, Option.map_some, Option.map_none, Option.toList_some, Option.toList_none, List.cons_append, List.nil_append, List.length_cons, List.length_nil, eL, mL_71, mH, mO, t1, t2]
  refine CAL.dir (c_due d (pP root S sorts mc lv kd sa la sp sh N ptr nm mo ms me) (mM pat W A.1.length ft counted A.2.2 se A.2.1 nx tr ol nw fo co) s A.1.length rfl b1 (by show A.2.1 < 2 ^ 20; omega) hsl) (by rw [ggd]; omega) (by rw [ggc]; omega) (by rw [ggs]; omega) (Nat.le_of_ble_eq_true rfl) (by rw [ggn]; exact Nat.le_of_ble_eq_true rfl) rfl rfl ?_
  rintro _ _ ⟨rfl, rfl⟩
  simp (disch := first | exact rfl | decide | omega) only [u_71_0, u_71_1, u_71_4, u_71_5, u_71_7, u_71_10, u_71_11, u_71_12, u_71_15, u_71_16, u_71_17, u_71_18, u_71_19, u_71_22, u_71_23, u_71_24, u_71_25, u_71_28, u_71_29, u_71_31, u_71_32, u_71_33, u_71_34, u_71_35, u_71_36, u_71_37, u_71_39, u_71_42, u_71_43, u_71_44, u_71_45, u_71_48, u_71_49, u_71_52, u_71_53, u_71_54, u_71_57, u_71_58, u_71_60, u_71_61, u_71_62, u_71_63, u_71_64, u_71_65, u_71_66, wp_stop, lget, lput1, lput2, kil, hget, hset, vget, vset, fget, fgetC, fput, fputC, iget, igetC, jget, jgetC, qget, qgetC, alen, lenC, oI, oJ, oF, oA, oV, oH, oInc, oIld, oJld, oQld, oR, oLen, oIst, oBst, oJst, oQst, ciOf, rcv, oCp, cat1, cond_true, cond_false, Bool.and_self, Bool.and_true, Bool.true_and, Bool.or_true, Bool.true_or, Bool.or_false, Bool.false_or, Bool.not_false, Bool.not_true, ↓reduceIte, Nat.reduceBEq, Nat.reduceEqDiff, beq_self_eq_true, true_and, and_true, eq_self_iff_true, Nat.reduceAdd, Nat.blt, Nat.ble, z_le, z_lt, z_eq, z_cl, z_add, z_sub, z_mul, z_in, z_lt0, z_ofN, z_m1, z_ltm1, z_m1lt, z_eqm1, z_m1eq, z_m1le, z_lem1, z_beq, nI_0_1, nI_m1lt0, nI_0lem1, not_false_eq_true, not_true_eq_false, forall_const, false_implies, true_implies, implies_true, false_and, and_false, mrg, renc, tra, trv, sg, List.map_cons, List.map_nil, Option.map_some, Option.map_none, Option.toList_some, Option.toList_none, List.cons_append, List.nil_append, List.length_cons, List.length_nil, mM, MS.pat, MS.words, MS.known, MS.ft, MS.counted, MS.nse, MS.se, MS.nnx, MS.nx, MS.ntr, MS.tr, MS.nol, MS.ol, MS.nw, MS.fo, MS.co, h2, t3]
  exact hret
set_option maxRecDepth 100000 in
theorem c_step (d : Nat) (A : aM) (ft : Int32) (se : Nat → Int64) (nx tr ol nw : Nat → Int32) (fo : Nat → Int64) (s x m : Nat) (hs : A.1[s]? = some m) (hx : x < 8) (hpl : plG S N nm mo ms me gm) (hT : ∀ t, t < S → ptr t = nI (T t)) (hI : mcI S W gm T A se nx tr ol nw) (hdue : (trM T m).testBit x = true) (hlen : (stA W A (dltM gm x m)).1.length ≤ 2 ^ 14) :
    aSp (d + 6) 71 [.ref 0, .int (nI s), .int (nI x)] (mA root S sorts mc lv kd sa la sp sh N ptr nm mo ms me pat W counted co A ft se nx tr ol nw fo) mvM (uC (stA W A (dltM gm x m)) - uC A) (uS (stA W A (dltM gm x m)) - uS A)
      (fun r h' => ∃ j ft' se' nx' tr' ol' nw' fo', (stA W A (dltM gm x m)).1[j]? = some (dltM gm x m) ∧ r = some (.int (nI j)) ∧ h' = mA root S sorts mc lv kd sa la sp sh N ptr nm mo ms me pat W counted co (stA W A (dltM gm x m)) ft' se' nx' tr' ol' nw' fo' ∧ mcI S W gm T (stA W A (dltM gm x m)) se' nx' tr' ol' nw') := by
  have hI0 := hI
  obtain ⟨⟨w1, w4, wS, wS2⟩, ⟨b1, b2, b3, b4, b5, b6⟩, hnd, hlt, hst, hch⟩ := hI
  obtain ⟨h1, h2, h3⟩ := hst s m hs
  have hsl := gget_lt hs
  have hcost := stA_uS (m := dltM gm x m) b5 b6 w1 w4
  refine sp_of (by decide) (Nat.le_of_ble_eq_true rfl) ?_
  generalize hG : ((d + 6, _, mvM, _, _, _) : aG) = G
  have ggd : gD G = d + 6 := by subst hG; rfl
  have ggn : gN G = 18 := by subst hG; rfl
  have ggm : gM G = mvM := by subst hG; rfl
  have ggc : gC G = uC (stA W A (dltM gm x m)) - uC A := by subst hG; rfl
  have ggs : gS G = uS (stA W A (dltM gm x m)) - uS A := by subst hG; rfl
  have hret : ∀ j ft' se' nx' tr' ol' nw' fo' k0 n0, (stA W A (dltM gm x m)).1[j]? = some (dltM gm x m) → mcI S W gm T (stA W A (dltM gm x m)) se' nx' tr' ol' nw' → k0 ≤ uC (stA W A (dltM gm x m)) - uC A → n0 ≤ uS (stA W A (dltM gm x m)) - uS A → RET G (some (.int (nI j))) (mA root S sorts mc lv kd sa la sp sh N ptr nm mo ms me pat W counted co (stA W A (dltM gm x m)) ft' se' nx' tr' ol' nw' fo') k0 n0 := by
    subst hG
    exact fun j ft' se' nx' tr' ol' nw' fo' k0 n0 q1 q2 q3 q4 => RET.id ⟨j, ft', se', nx', tr', ol', nw', fo', q1, rfl, rfl, q2⟩ q3 q4
  clear hG
  have t1 : ¬ x < 0 := by omega
  have t2 : ¬ 8 ≤ x := by omega
  have t3 : ¬ (nI (trM T m) &&& nI 255 &&& nI 1 <<< (nI x &&& 31) = nI 0) := fun z => by
    rw [(due0 hx).mp z] at hdue
    exact absurd hdue (by decide)
  have e1 : s * 8 + x = 8 * s + x := by omega
  have t4 : 8 * s + x < 8 * A.2.1 := by omega
  rcases h3 x hx with hn2 | ⟨j, hj1, hj2⟩
  · have hm2 := hlt m (get_mem hs)
    have hgS : ∀ p, p < S → ∀ m ∈ gm p, m.2 < S := fun p hp => by
      obtain ⟨a, -, -, -, -, q⟩ := hpl.2.2.2.2 p hp
      exact q
    have hpw : plW (fun w => se (s * W + w)) W = bitsOf 256 m := by
      rw [plW_bits W h1]
      exact (bitsOf_ext (show 64 * W ≤ 256 by omega) (Nat.lt_of_lt_of_le hm2 (Nat.pow_le_pow_right (by decide) wS))).symm
    have hmem : ∀ p ∈ bitsOf 256 m, p < S := by
      intro p hp
      rcases Nat.lt_or_ge p S with z | z
      · exact z
      · have := (mem_bitsOf.mp hp).2
        rw [Nat.testBit_lt_two_pow (Nat.lt_of_lt_of_le hm2 (Nat.pow_le_pow_right (by decide) z))] at this
        exact absurd this (by decide)
    have hS2 : ∀ w, w < W → ∀ t ∈ bitsOf 64 (se (s * W + w)).toBitVec.toNat, w * 64 + t < S := by
      intro w hw t ht
      rw [h1 w hw, bl_lN_nat (wdM_lt _ _)] at ht
      obtain ⟨q1, q2⟩ := mem_bitsOf.mp ht
      rw [wdM_bit, Bool.and_eq_true] at q2
      exact hmem _ (mem_bitsOf.mpr ⟨by omega, by rw [show w * 64 + t = t + 64 * w by omega]; exact q2.2⟩)
    have hkt : (s + 1) * W ≤ A.1.length * W := Nat.mul_le_mul_right W hsl
    rw [Nat.succ_mul] at hkt
    have hd2 := dltM_lt (gm := gm) (x := x) hm2 hgS
    refine wp_aw (S := fun _ => false) (by decide) 200 _ _ _ _ _ _ ?_
    simp (disch := first | exact rfl | decide | omega) only [u_71_0, u_71_1, u_71_4, u_71_5, u_71_7, u_71_10, u_71_11, u_71_12, u_71_15, u_71_16, u_71_17, u_71_18, u_71_19, u_71_22, u_71_23, u_71_24, u_71_25, u_71_28, u_71_29, u_71_31, u_71_32, u_71_33, u_71_34, u_71_35, u_71_36, u_71_37, u_71_39, u_71_42, u_71_43, u_71_44, u_71_45, u_71_48, u_71_49, u_71_52, u_71_53, u_71_54, u_71_57, u_71_58, u_71_60, u_71_61, u_71_62, u_71_63, u_71_64, u_71_65, u_71_66, wp_stop, lget, lput1, lput2, kil, hget, hset, vget, vset, fget, fgetC, fput, fputC, iget, igetC, jget, jgetC, qget, qgetC, alen, lenC, oI, oJ, oF, oA, oV, oH, oInc, oIld, oJld, oQld, oR, oLen, oIst, oBst, oJst, oQst, ciOf, rcv, oCp, cat1, cond_true, cond_false, Bool.and_self, Bool.and_true, Bool.true_and, Bool.or_true, Bool.true_or, Bool.or_false, Bool.false_or, Bool.not_false, Bool.not_true, ↓reduceIte, Nat.reduceBEq, Nat.reduceEqDiff, beq_self_eq_true, true_and, and_true, eq_self_iff_true, Nat.reduceAdd, Nat.blt, Nat.ble, z_le, z_lt, z_eq, z_cl, z_add, z_sub, z_mul, z_in, z_lt0, z_ofN, z_m1, z_ltm1, z_m1lt, z_eqm1, z_m1eq, z_m1le, z_lem1, z_beq, nI_0_1, nI_m1lt0, nI_0lem1, not_false_eq_true, not_true_eq_false, forall_const, false_implies, true_implies, implies_true, false_and, and_false, mrg, renc, tra, trv, sg, List.map_cons, List.map_nil, Option.map_some, Option.map_none, Option.toList_some, Option.toList_none, List.cons_append, List.nil_append, List.length_cons, List.length_nil, eL, mL_71, mH, mO, t1, t2]
    refine CAL.dir (c_due d (pP root S sorts mc lv kd sa la sp sh N ptr nm mo ms me) (mM pat W A.1.length ft counted A.2.2 se A.2.1 nx tr ol nw fo co) s A.1.length rfl b1 (by show A.2.1 < 2 ^ 20; omega) hsl) (by rw [ggd]; omega) (by rw [ggc]; omega) (by rw [ggs]; omega) (Nat.le_of_ble_eq_true rfl) (by rw [ggn]; exact Nat.le_of_ble_eq_true rfl) rfl rfl ?_
    rintro _ _ ⟨rfl, rfl⟩
    simp (disch := first | exact rfl | decide | omega) only [u_71_0, u_71_1, u_71_4, u_71_5, u_71_7, u_71_10, u_71_11, u_71_12, u_71_15, u_71_16, u_71_17, u_71_18, u_71_19, u_71_22, u_71_23, u_71_24, u_71_25, u_71_28, u_71_29, u_71_31, u_71_32, u_71_33, u_71_34, u_71_35, u_71_36, u_71_37, u_71_39, u_71_42, u_71_43, u_71_44, u_71_45, u_71_48, u_71_49, u_71_52, u_71_53, u_71_54, u_71_57, u_71_58, u_71_60, u_71_61, u_71_62, u_71_63, u_71_64, u_71_65, u_71_66, wp_stop, lget, lput1, lput2, kil, hget, hset, vget, vset, fget, fgetC, fput, fputC, iget, igetC, jget, jgetC, qget, qgetC, alen, lenC, oI, oJ, oF, oA, oV, oH, oInc, oIld, oJld, oQld, oR, oLen, oIst, oBst, oJst, oQst, ciOf, rcv, oCp, cat1, cond_true, cond_false, Bool.and_self, Bool.and_true, Bool.true_and, Bool.or_true, Bool.true_or, Bool.or_false, Bool.false_or, Bool.not_false, Bool.not_true, ↓reduceIte, Nat.reduceBEq, Nat.reduceEqDiff, beq_self_eq_true, true_and, and_true, eq_self_iff_true, Nat.reduceAdd, Nat.blt, Nat.ble, z_le, z_lt, z_eq, z_cl, z_add, z_sub, z_mul, z_in, z_lt0, z_ofN, z_m1, z_ltm1, z_m1lt, z_eqm1, z_m1eq, z_m1le, z_lem1, z_beq, nI_0_1, nI_m1lt0, nI_0lem1, not_false_eq_true, not_true_eq_false, forall_const, false_implies, true_implies, implies_true, false_and, and_false, mrg, renc, tra, trv, sg, List.map_cons, List.map_nil, Option.map_some, Option.map_none, Option.toList_some, Option.toList_none, List.cons_append, List.nil_append, List.length_cons, List.length_nil, mM, MS.pat, MS.words, MS.known, MS.ft, MS.counted, MS.nse, MS.se, MS.nnx, MS.nx, MS.ntr, MS.tr, MS.nol, MS.ol, MS.nw, MS.fo, MS.co, h2, t3, e1, hn2]
    refine CAL.dir (c_findTargets root S sorts mc lv kd sa la sp sh N ptr nm mo ms me pat W A.1.length counted A.2.2 se A.2.1 nx tr ol nw co d ft fo gm hpl s x hx w4 (by omega) (by omega) (by omega) hS2) (by rw [ggd]; omega) (by rw [ggc]; omega) (by rw [ggs]; omega) (Nat.le_of_ble_eq_true rfl) (by rw [ggn]; exact Nat.le_of_ble_eq_true rfl) rfl rfl ?_
    rintro _ _ ⟨rfl, g, hg, rfl⟩
    rw [hpw]
    have hrep : repS ((bitsOf 256 m).foldl (tgF ptr x gm) (g, nI 0)) (dltM gm x m) (trM T (dltM gm x m)) := by
      have := tgF_rep (x := x) wS2 hT hgS (bitsOf 256 m) (g, nI 0) 0 0 hmem ⟨fun j hj => (hg j hj).trans (by simp [wdM]), rfl⟩
      rw [dltM_tr (T := T) wS2 hm2 hgS] at this
      exact this
    generalize (bitsOf 256 m).foldl (tgF ptr x gm) (g, nI 0) = z at hrep ⊢
    obtain ⟨zf, zt⟩ := z
    simp (disch := first | exact rfl | decide | omega) only [u_71_0, u_71_1, u_71_4, u_71_5, u_71_7, u_71_10, u_71_11, u_71_12, u_71_15, u_71_16, u_71_17, u_71_18, u_71_19, u_71_22, u_71_23, u_71_24, u_71_25, u_71_28, u_71_29, u_71_31, u_71_32, u_71_33, u_71_34, u_71_35, u_71_36, u_71_37, u_71_39, u_71_42, u_71_43, u_71_44, u_71_45, u_71_48, u_71_49, u_71_52, u_71_53, u_71_54, u_71_57, u_71_58, u_71_60, u_71_61, u_71_62, u_71_63, u_71_64, u_71_65, u_71_66, wp_stop, lget, lput1, lput2, kil, hget, hset, vget, vset, fget, fgetC, fput, fputC, iget, igetC, jget, jgetC, qget, qgetC, alen, lenC, oI, oJ, oF, oA, oV, oH, oInc, oIld, oJld, oQld, oR, oLen, oIst, oBst, oJst, oQst, ciOf, rcv, oCp, cat1, cond_true, cond_false, Bool.and_self, Bool.and_true, Bool.true_and, Bool.or_true, Bool.true_or, Bool.or_false, Bool.false_or, Bool.not_false, Bool.not_true, ↓reduceIte, Nat.reduceBEq, Nat.reduceEqDiff, beq_self_eq_true, true_and, and_true, eq_self_iff_true, Nat.reduceAdd, Nat.blt, Nat.ble, z_le, z_lt, z_eq, z_cl, z_add, z_sub, z_mul, z_in, z_lt0, z_ofN, z_m1, z_ltm1, z_m1lt, z_eqm1, z_m1eq, z_m1le, z_lem1, z_beq, nI_0_1, nI_m1lt0, nI_0lem1, not_false_eq_true, not_true_eq_false, forall_const, false_implies, true_implies, implies_true, false_and, and_false, mrg, renc, tra, trv, sg, List.map_cons, List.map_nil, Option.map_some, Option.map_none, Option.toList_some, Option.toList_none, List.cons_append, List.nil_append, List.length_cons, List.length_nil, mH, mO, mM, MS.pat, MS.words, MS.known, MS.ft, MS.counted, MS.nse, MS.se, MS.nnx, MS.nx, MS.ntr, MS.tr, MS.nol, MS.ol, MS.nw, MS.fo, MS.co, ftH]
    by_cases hin : dltM gm x m ∈ A.1
    · obtain ⟨j, hj⟩ := List.mem_iff_getElem?.mp hin
      have hsm : sameW se zf W j = true := sameW_iff.mpr (fun w hw => by rw [(hst j _ hj).1 w hw]; exact (hrep.1 w (by omega)).symm)
      refine CAL.dir (c_foundO pat W A.1.length zt counted A.2.2 se A.2.1 nx tr ol nw zf co d (pP root S sorts mc lv kd sa la sp sh N ptr nm mo ms me) j (gget_lt hj) hsm w1 w4 b1 (by omega) (by omega) b4 hch) (by rw [ggd]; omega) (by rw [ggc]; omega) (by rw [ggs]; omega) (Nat.le_of_ble_eq_true rfl) (by rw [ggn]; exact Nat.le_of_ble_eq_true rfl) rfl rfl ?_
      rintro _ _ ⟨t, ht, htm, rfl, rfl⟩
      simp (disch := first | exact rfl | decide | omega) only [u_71_0, u_71_1, u_71_4, u_71_5, u_71_7, u_71_10, u_71_11, u_71_12, u_71_15, u_71_16, u_71_17, u_71_18, u_71_19, u_71_22, u_71_23, u_71_24, u_71_25, u_71_28, u_71_29, u_71_31, u_71_32, u_71_33, u_71_34, u_71_35, u_71_36, u_71_37, u_71_39, u_71_42, u_71_43, u_71_44, u_71_45, u_71_48, u_71_49, u_71_52, u_71_53, u_71_54, u_71_57, u_71_58, u_71_60, u_71_61, u_71_62, u_71_63, u_71_64, u_71_65, u_71_66, wp_stop, lget, lput1, lput2, kil, hget, hset, vget, vset, fget, fgetC, fput, fputC, iget, igetC, jget, jgetC, qget, qgetC, alen, lenC, oI, oJ, oF, oA, oV, oH, oInc, oIld, oJld, oQld, oR, oLen, oIst, oBst, oJst, oQst, ciOf, rcv, oCp, cat1, cond_true, cond_false, Bool.and_self, Bool.and_true, Bool.true_and, Bool.or_true, Bool.true_or, Bool.or_false, Bool.false_or, Bool.not_false, Bool.not_true, ↓reduceIte, Nat.reduceBEq, Nat.reduceEqDiff, beq_self_eq_true, true_and, and_true, eq_self_iff_true, Nat.reduceAdd, Nat.blt, Nat.ble, z_le, z_lt, z_eq, z_cl, z_add, z_sub, z_mul, z_in, z_lt0, z_ofN, z_m1, z_ltm1, z_m1lt, z_eqm1, z_m1eq, z_m1le, z_lem1, z_beq, nI_0_1, nI_m1lt0, nI_0lem1, not_false_eq_true, not_true_eq_false, forall_const, false_implies, true_implies, implies_true, false_and, and_false, mrg, renc, tra, trv, sg, List.map_cons, List.map_nil, Option.map_some, Option.map_none, Option.toList_some, Option.toList_none, List.cons_append, List.nil_append, List.length_cons, List.length_nil, mH, mO, mM, MS.pat, MS.words, MS.known, MS.ft, MS.counted, MS.nse, MS.se, MS.nnx, MS.nx, MS.ntr, MS.tr, MS.nol, MS.ol, MS.nw, MS.fo, MS.co, e1]
      have htl : A.1[t]? = some (dltM gm x m) := by
        have e : A.1[t]? = some A.1[t] := List.getElem?_eq_getElem ht
        rw [e]
        congr 1
        refine wdM_inj (W := W) (Nat.lt_of_lt_of_le (hlt _ (List.getElem_mem ht)) (Nat.pow_le_pow_right (by decide) wS)) (Nat.lt_of_lt_of_le hd2 (Nat.pow_le_pow_right (by decide) wS)) (fun w hw => ?_)
        have q := sameW_iff.mp htm w hw
        rw [(hst t _ e).1 w hw, show zf w = _ from hrep.1 w (by omega)] at q
        exact lN_inj64 (wdM_lt _ _) (wdM_lt _ _) q
      have hfin := hret t zt se (upd nx (8 * s + x) (nI t)) tr ol nw zf 0 0
      rw [stA_old hin] at hfin
      exact hfin htl (mcI_nx hI0 hs hx htl) (Nat.zero_le _) (Nat.zero_le _)
    · have hno : ∀ t, t < A.1.length → sameW se zf W t = false := by
        intro t ht
        rw [← Bool.not_eq_true]
        intro q
        apply hin
        have e : A.1[t]? = some A.1[t] := List.getElem?_eq_getElem ht
        have : A.1[t] = dltM gm x m := by
          refine wdM_inj (W := W) (Nat.lt_of_lt_of_le (hlt _ (List.getElem_mem ht)) (Nat.pow_le_pow_right (by decide) wS)) (Nat.lt_of_lt_of_le hd2 (Nat.pow_le_pow_right (by decide) wS)) (fun w hw => ?_)
          have q := sameW_iff.mp q w hw
          rw [(hst t _ e).1 w hw, show zf w = _ from hrep.1 w (by omega)] at q
          exact lN_inj64 (wdM_lt _ _) (wdM_lt _ _) q
        rw [← this]
        exact List.getElem_mem ht
      have hA : stA W A (dltM gm x m) = (A.1 ++ [dltM gm x m], rmT A.1.length A.2.1, rmE A.1.length A.2.1 A.2.2 W) := if_neg hin
      have hl2 : A.1.length + 1 ≤ 2 ^ 14 := by
        rw [hA] at hlen
        simpa using hlen
      have n0 : 0 < A.2.1 := by omega
      obtain ⟨c1, c2⟩ := hcost.2.2 hin
      refine CAL.dirM (c_foundN pat W A.1.length zt counted A.2.2 se A.2.1 nx tr ol nw zf co d (pP root S sorts mc lv kd sa la sp sh N ptr nm mo ms me) hno w1 w4 b1 n0 (by omega) (by omega) (by omega) b4 hch) (by rw [ggd]; omega) (by rw [ggc]; omega) (by rw [ggs]; omega) (Nat.le_of_ble_eq_true rfl) (by rw [ggn]; exact Nat.le_of_ble_eq_true rfl) (fun j _ q => by rw [← ggm]; exact q) rfl rfl ?_
      rintro _ _ ⟨rfl, se', nx', tr', ol', rfl, hq⟩
      have hnew := mcI_new hI0 hin hd2 hrep hl2 hq
      have t5 : 8 * s + x < 8 * rmT A.1.length A.2.1 := by
        have : A.2.1 ≤ rmT A.1.length A.2.1 := by unfold rmT; split <;> omega
        omega
      have t6 : 8 * rmT A.1.length A.2.1 < 2 ^ 31 := by
        have : rmT A.1.length A.2.1 ≤ 2 * A.2.1 := by unfold rmT; split <;> omega
        omega
      simp (disch := first | exact rfl | decide | omega) only [u_71_0, u_71_1, u_71_4, u_71_5, u_71_7, u_71_10, u_71_11, u_71_12, u_71_15, u_71_16, u_71_17, u_71_18, u_71_19, u_71_22, u_71_23, u_71_24, u_71_25, u_71_28, u_71_29, u_71_31, u_71_32, u_71_33, u_71_34, u_71_35, u_71_36, u_71_37, u_71_39, u_71_42, u_71_43, u_71_44, u_71_45, u_71_48, u_71_49, u_71_52, u_71_53, u_71_54, u_71_57, u_71_58, u_71_60, u_71_61, u_71_62, u_71_63, u_71_64, u_71_65, u_71_66, wp_stop, lget, lput1, lput2, kil, hget, hset, vget, vset, fget, fgetC, fput, fputC, iget, igetC, jget, jgetC, qget, qgetC, alen, lenC, oI, oJ, oF, oA, oV, oH, oInc, oIld, oJld, oQld, oR, oLen, oIst, oBst, oJst, oQst, ciOf, rcv, oCp, cat1, cond_true, cond_false, Bool.and_self, Bool.and_true, Bool.true_and, Bool.or_true, Bool.true_or, Bool.or_false, Bool.false_or, Bool.not_false, Bool.not_true, ↓reduceIte, Nat.reduceBEq, Nat.reduceEqDiff, beq_self_eq_true, true_and, and_true, eq_self_iff_true, Nat.reduceAdd, Nat.blt, Nat.ble, z_le, z_lt, z_eq, z_cl, z_add, z_sub, z_mul, z_in, z_lt0, z_ofN, z_m1, z_ltm1, z_m1lt, z_eqm1, z_m1eq, z_m1le, z_lem1, z_beq, nI_0_1, nI_m1lt0, nI_0lem1, not_false_eq_true, not_true_eq_false, forall_const, false_implies, true_implies, implies_true, false_and, and_false, mrg, renc, tra, trv, sg, List.map_cons, List.map_nil, Option.map_some, Option.map_none, Option.toList_some, Option.toList_none, List.cons_append, List.nil_append, List.length_cons, List.length_nil, mH, mO, mM, MS.pat, MS.words, MS.known, MS.ft, MS.counted, MS.nse, MS.se, MS.nnx, MS.nx, MS.ntr, MS.tr, MS.nol, MS.ol, MS.nw, MS.fo, MS.co, e1]
      have hjn : (stA W A (dltM gm x m)).1[A.1.length]? = some (dltM gm x m) := by
        rw [hA]
        simp
      have hsn : (stA W A (dltM gm x m)).1[s]? = some m := by
        rw [hA]
        show (A.1 ++ [dltM gm x m])[s]? = some m
        rw [List.getElem?_append_left hsl]
        exact hs
      have hfin := hret A.1.length zt se' (upd nx' (8 * s + x) (nI A.1.length)) tr' ol' (upd nw (chnW zf W) (nI A.1.length)) zf (0 + rmC A.1.length A.2.1 A.2.2 W) (0 + rmS A.1.length A.2.1 A.2.2 W) hjn (mcI_nx hnew hsn hx hjn) (by omega) (by omega)
      rw [hA] at hfin
      have hll : (A.1 ++ [dltM gm x m]).length = A.1.length + 1 := by simp
      unfold mA at hfin
      rw [hll] at hfin
      exact hfin
  · have hin := get_mem hj1
    have hjl := gget_lt hj1
    have t5 : ¬ nI j = -2 := (z_eqm2 (by omega)).mp
    have hfin := hret j ft se nx tr ol nw fo 0 0
    rw [stA_old hin] at hfin
    refine wp_aw (S := fun _ => false) (by decide) 200 _ _ _ _ _ _ ?_
    simp (disch := first | exact rfl | decide | omega) only [u_71_0, u_71_1, u_71_4, u_71_5, u_71_7, u_71_10, u_71_11, u_71_12, u_71_15, u_71_16, u_71_17, u_71_18, u_71_19, u_71_22, u_71_23, u_71_24, u_71_25, u_71_28, u_71_29, u_71_31, u_71_32, u_71_33, u_71_34, u_71_35, u_71_36, u_71_37, u_71_39, u_71_42, u_71_43, u_71_44, u_71_45, u_71_48, u_71_49, u_71_52, u_71_53, u_71_54, u_71_57, u_71_58, u_71_60, u_71_61, u_71_62, u_71_63, u_71_64, u_71_65, u_71_66, wp_stop, lget, lput1, lput2, kil, hget, hset, vget, vset, fget, fgetC, fput, fputC, iget, igetC, jget, jgetC, qget, qgetC, alen, lenC, oI, oJ, oF, oA, oV, oH, oInc, oIld, oJld, oQld, oR, oLen, oIst, oBst, oJst, oQst, ciOf, rcv, oCp, cat1, cond_true, cond_false, Bool.and_self, Bool.and_true, Bool.true_and, Bool.or_true, Bool.true_or, Bool.or_false, Bool.false_or, Bool.not_false, Bool.not_true, ↓reduceIte, Nat.reduceBEq, Nat.reduceEqDiff, beq_self_eq_true, true_and, and_true, eq_self_iff_true, Nat.reduceAdd, Nat.blt, Nat.ble, z_le, z_lt, z_eq, z_cl, z_add, z_sub, z_mul, z_in, z_lt0, z_ofN, z_m1, z_ltm1, z_m1lt, z_eqm1, z_m1eq, z_m1le, z_lem1, z_beq, nI_0_1, nI_m1lt0, nI_0lem1, not_false_eq_true, not_true_eq_false, forall_const, false_implies, true_implies, implies_true, false_and, and_false, mrg, renc, tra, trv, sg, List.map_cons, List.map_nil, Option.map_some, Option.map_none, Option.toList_some, Option.toList_none, List.cons_append, List.nil_append, List.length_cons, List.length_nil, eL, mL_71, mH, mO, t1, t2]
    refine CAL.dir (c_due d (pP root S sorts mc lv kd sa la sp sh N ptr nm mo ms me) (mM pat W A.1.length ft counted A.2.2 se A.2.1 nx tr ol nw fo co) s A.1.length rfl b1 (by show A.2.1 < 2 ^ 20; omega) hsl) (by rw [ggd]; omega) (by rw [ggc]; omega) (by rw [ggs]; omega) (Nat.le_of_ble_eq_true rfl) (by rw [ggn]; exact Nat.le_of_ble_eq_true rfl) rfl rfl ?_
    rintro _ _ ⟨rfl, rfl⟩
    simp (disch := first | exact rfl | decide | omega) only [u_71_0, u_71_1, u_71_4, u_71_5, u_71_7, u_71_10, u_71_11, u_71_12, u_71_15, u_71_16, u_71_17, u_71_18, u_71_19, u_71_22, u_71_23, u_71_24, u_71_25, u_71_28, u_71_29, u_71_31, u_71_32, u_71_33, u_71_34, u_71_35, u_71_36, u_71_37, u_71_39, u_71_42, u_71_43, u_71_44, u_71_45, u_71_48, u_71_49, u_71_52, u_71_53, u_71_54, u_71_57, u_71_58, u_71_60, u_71_61, u_71_62, u_71_63, u_71_64, u_71_65, u_71_66, wp_stop, lget, lput1, lput2, kil, hget, hset, vget, vset, fget, fgetC, fput, fputC, iget, igetC, jget, jgetC, qget, qgetC, alen, lenC, oI, oJ, oF, oA, oV, oH, oInc, oIld, oJld, oQld, oR, oLen, oIst, oBst, oJst, oQst, ciOf, rcv, oCp, cat1, cond_true, cond_false, Bool.and_self, Bool.and_true, Bool.true_and, Bool.or_true, Bool.true_or, Bool.or_false, Bool.false_or, Bool.not_false, Bool.not_true, ↓reduceIte, Nat.reduceBEq, Nat.reduceEqDiff, beq_self_eq_true, true_and, and_true, eq_self_iff_true, Nat.reduceAdd, Nat.blt, Nat.ble, z_le, z_lt, z_eq, z_cl, z_add, z_sub, z_mul, z_in, z_lt0, z_ofN, z_m1, z_ltm1, z_m1lt, z_eqm1, z_m1eq, z_m1le, z_lem1, z_beq, nI_0_1, nI_m1lt0, nI_0lem1, not_false_eq_true, not_true_eq_false, forall_const, false_implies, true_implies, implies_true, false_and, and_false, mrg, renc, tra, trv, sg, List.map_cons, List.map_nil, Option.map_some, Option.map_none, Option.toList_some, Option.toList_none, List.cons_append, List.nil_append, List.length_cons, List.length_nil, mM, MS.pat, MS.words, MS.known, MS.ft, MS.counted, MS.nse, MS.se, MS.nnx, MS.nx, MS.ntr, MS.tr, MS.nol, MS.ol, MS.nw, MS.fo, MS.co, h2, t3, e1, hj2, t5]
    exact hfin hj1 hI0 (Nat.zero_le _) (Nat.zero_le _)
end ST
