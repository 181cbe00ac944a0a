/-! Machine.newStand -/
theorem CAL.dirM {G : aG} {K : aK} {μ' : Nat} {av : List Value} {pc : Nat} {ls : aL} {st : List Value} {h : aH} {k n : Nat} {d' mc' ms' : Nat} {mv' : Nat → Bool} {Post' : Option Value → aH → Prop} (hS : aSp d' μ' av h mv' mc' ms' Post') (hd : d' + 1 ≤ gD G) (hk : k + mc' ≤ gC G) (hn : n + ms' ≤ gS G) (hw : (st.map fun v => v.category).sum ≤ 8) (hN : gN G ≤ h.length) (hmv : ∀ j, j < gN G → gM G j = false → mv' j = false) (hl : okL h.length mv' ls = true) (hs : okS h.length mv' st = true) (kk : ∀ r h', Post' r h' → K pc ls (r.toList ++ st) h' (k + mc') (n + ms')) : CAL G K μ' av pc ls st h k n :=
  ⟨d', mv', mc', ms', Post', hS, hd, hk, hn, hw, hN, hmv, hl, hs, kk⟩
section NS
variable (pat : Int64) (W k : Nat) (ft counted : Int32) (nse : Nat) (se : Nat → Int64) (nt : Nat) (nx tr ol nw : Nat → Int32) (fo : Nat → Int64) (co : Nat → Int32)
/-- the rows with one stand more -/
def nsK (c : Nat) (se' : Nat → Int64) (nx' tr' ol' : Nat → Int32) : Prop := (∀ i, i < k * W → se' i = se i) ∧ (∀ w, w < W → se' (k * W + w) = fo w) ∧ (∀ i, i < 8 * k → nx' i = nx i) ∧ (∀ x, x < 8 → nx' (8 * k + x) = -2) ∧ (∀ i, i < k → tr' i = tr i) ∧ tr' k = ft ∧ (∀ i, i < k → ol' i = ol i) ∧ ol' k = nw c
set_option maxRecDepth 100000 in
theorem l_ns2 {G : aG} (P : PS) (c k0 n0 : Nat) (hc : c < 64) (hk : k < nt) (hn : nt ≤ 2 ^ 18) (Q : (Nat → Int32) → Prop)
    (hret : ∀ nx', (∀ i, i < 8 * k → nx' i = nx i) → (∀ x, x < 8 → nx' (8 * k + x) = -2) → RET G (some (.int (nI k))) (mH P (mM pat W (k + 1) ft counted nse se nt nx' (upd tr k ft) (upd ol k (nw c)) (upd nw c (nI k)) fo co)) k0 n0) :
    ∀ (m x : Nat) (nx' : Nat → Int32), x + m = 8 → (∀ i, i < 8 * k → nx' i = nx i) → (∀ y, y < x → nx' (8 * k + y) = -2) →
    AW 27 G 56 [some (.ref 0), some (.int (nI c)), some (.int (nI k)), some (.int (nI x))] [] (mH P (mM pat W (k + 1) ft counted nse se nt nx' tr ol nw fo co)) k0 n0 := by
  intro m
  induction m with
  | zero =>
    intro x nx' hx h1 h2
    have t1 : 8 ≤ x := by omega
    refine wq_aw (S := fun x => x == 56) (by decide) (f := 200) ?_
    simp (disch := first | exact rfl | decide | omega) only [v_27_21, v_27_56, u_27_0, u_27_1, u_27_4, u_27_5, u_27_8, u_27_9, u_27_10, u_27_11, u_27_14, u_27_15, u_27_16, u_27_19, u_27_20, u_27_21, u_27_22, u_27_23, u_27_26, u_27_29, u_27_30, u_27_33, u_27_34, u_27_35, u_27_38, u_27_39, u_27_40, u_27_41, u_27_42, u_27_45, u_27_46, u_27_47, u_27_48, u_27_51, u_27_54, u_27_55, u_27_56, u_27_57, u_27_59, u_27_62, u_27_63, u_27_66, u_27_67, u_27_69, u_27_70, u_27_71, u_27_72, u_27_74, u_27_75, u_27_78, u_27_81, u_27_82, u_27_85, u_27_86, u_27_87, u_27_90, u_27_91, u_27_92, u_27_95, u_27_96, u_27_97, u_27_100, u_27_101, u_27_102, u_27_103, u_27_104, u_27_107, u_27_108, u_27_109, u_27_110, u_27_111, wp_stop, lget, lput1, lput2, kil, hget, hset, vget, vset, fget, fgetC, fput, fputC, iget, igetC, jget, jgetC, qget, qgetC, alen, lenC, oI, oJ, oF, oA, oV, oH, oInc, oIld, oJld, oQld, oR, oLen, oIst, oBst, oJst, oQst, ciOf, rcv, oCp, cat1, cond_true, cond_false, Bool.and_self, Bool.and_true, Bool.true_and, Bool.or_true, Bool.true_or, Bool.or_false, Bool.false_or, Bool.not_false, Bool.not_true, ↓reduceIte, Nat.reduceBEq, Nat.reduceEqDiff, beq_self_eq_true, true_and, and_true, eq_self_iff_true, Nat.reduceAdd, Nat.blt, Nat.ble, z_le, z_lt, z_eq, z_cl, z_add, z_sub, z_mul, z_in, z_lt0, z_ofN, z_m1, z_ltm1, z_m1lt, z_eqm1, z_m1eq, z_m1le, z_lem1, z_beq, nI_0_1, nI_m1lt0, nI_0lem1, not_false_eq_true, not_true_eq_false, forall_const, false_implies, true_implies, implies_true, false_and, and_false, mrg, renc, tra, trv, sg, List.map_cons, List.map_nil, Option.map_some, Option.map_none, Option.toList_some, Option.toList_none, List.cons_append, List.nil_append, List.length_cons, List.length_nil, mH, mO, mM, MS.pat, MS.words, MS.known, MS.ft, MS.counted, MS.nse, MS.se, MS.nnx, MS.nx, MS.ntr, MS.tr, MS.nol, MS.ol, MS.nw, MS.fo, MS.co, t1]
    exact hret nx' h1 (fun y hy => h2 y (by omega))
  | succ m ih =>
    intro x nx' hx h1 h2
    have t1 : ¬ 8 ≤ x := by omega
    have e1 : k * 8 + x = 8 * k + x := by omega
    have t2 : 8 * k + x < 8 * nt := by omega
    refine wq_aw (S := fun x => x == 56) (by decide) (f := 200) ?_
    simp (disch := first | exact rfl | decide | omega) only [v_27_21, v_27_56, u_27_0, u_27_1, u_27_4, u_27_5, u_27_8, u_27_9, u_27_10, u_27_11, u_27_14, u_27_15, u_27_16, u_27_19, u_27_20, u_27_21, u_27_22, u_27_23, u_27_26, u_27_29, u_27_30, u_27_33, u_27_34, u_27_35, u_27_38, u_27_39, u_27_40, u_27_41, u_27_42, u_27_45, u_27_46, u_27_47, u_27_48, u_27_51, u_27_54, u_27_55, u_27_56, u_27_57, u_27_59, u_27_62, u_27_63, u_27_66, u_27_67, u_27_69, u_27_70, u_27_71, u_27_72, u_27_74, u_27_75, u_27_78, u_27_81, u_27_82, u_27_85, u_27_86, u_27_87, u_27_90, u_27_91, u_27_92, u_27_95, u_27_96, u_27_97, u_27_100, u_27_101, u_27_102, u_27_103, u_27_104, u_27_107, u_27_108, u_27_109, u_27_110, u_27_111, wp_stop, lget, lput1, lput2, kil, hget, hset, vget, vset, fget, fgetC, fput, fputC, iget, igetC, jget, jgetC, qget, qgetC, alen, lenC, oI, oJ, oF, oA, oV, oH, oInc, oIld, oJld, oQld, oR, oLen, oIst, oBst, oJst, oQst, ciOf, rcv, oCp, cat1, cond_true, cond_false, Bool.and_self, Bool.and_true, Bool.true_and, Bool.or_true, Bool.true_or, Bool.or_false, Bool.false_or, Bool.not_false, Bool.not_true, ↓reduceIte, Nat.reduceBEq, Nat.reduceEqDiff, beq_self_eq_true, true_and, and_true, eq_self_iff_true, Nat.reduceAdd, Nat.blt, Nat.ble, z_le, z_lt, z_eq, z_cl, z_add, z_sub, z_mul, z_in, z_lt0, z_ofN, z_m1, z_ltm1, z_m1lt, z_eqm1, z_m1eq, z_m1le, z_lem1, z_beq, nI_0_1, nI_m1lt0, nI_0lem1, not_false_eq_true, not_true_eq_false, forall_const, false_implies, true_implies, implies_true, false_and, and_false, mrg, renc, tra, trv, sg, List.map_cons, List.map_nil, Option.map_some, Option.map_none, Option.toList_some, Option.toList_none, List.cons_append, List.nil_append, List.length_cons, List.length_nil, mH, mO, mM, MS.pat, MS.words, MS.known, MS.ft, MS.counted, MS.nse, MS.se, MS.nnx, MS.nx, MS.ntr, MS.tr, MS.nol, MS.ol, MS.nw, MS.fo, MS.co, t1, e1]
    refine ih (x + 1) (upd nx' (8 * k + x) (-2)) (by omega) (fun i hi => by rw [upd_n (by omega)]; exact h1 i hi) (fun y hy => ?_)
    by_cases q : y = x
    · subst q
      exact upd_s
    · rw [upd_n (by omega)]
      exact h2 y (by omega)
set_option maxRecDepth 100000 in
theorem l_ns1 {G : aG} (P : PS) (c k0 n0 : Nat) (hc : c < 64) (hk : k < nt) (hn : nt ≤ 2 ^ 18) (hW4 : W ≤ 4) (hkw : k * W + W ≤ nse) (hns : nse ≤ 2 ^ 20)
    (hgo : ∀ se', (∀ i, i < k * W → se' i = se i) → (∀ w, w < W → se' (k * W + w) = fo w) → AW 27 G 56 [some (.ref 0), some (.int (nI c)), some (.int (nI k)), some (.int (nI 0))] [] (mH P (mM pat W (k + 1) ft counted nse se' nt nx tr ol nw fo co)) k0 n0) :
    ∀ (m w : Nat) (se' : Nat → Int64), w + m = W → (∀ i, i < k * W → se' i = se i) → (∀ v, v < w → se' (k * W + v) = fo v) →
    AW 27 G 21 [some (.ref 0), some (.int (nI c)), some (.int (nI k)), some (.int (nI w))] [] (mH P (mM pat W (k + 1) ft counted nse se' nt nx tr ol nw fo co)) k0 n0 := by
  intro m
  induction m with
  | zero =>
    intro w se' hw h1 h2
    have t1 : W ≤ w := by omega
    refine wq_aw (S := fun x => x == 21 || x == 56) (by decide) (f := 200) ?_
    simp (disch := first | exact rfl | decide | omega) only [v_27_21, v_27_56, u_27_0, u_27_1, u_27_4, u_27_5, u_27_8, u_27_9, u_27_10, u_27_11, u_27_14, u_27_15, u_27_16, u_27_19, u_27_20, u_27_21, u_27_22, u_27_23, u_27_26, u_27_29, u_27_30, u_27_33, u_27_34, u_27_35, u_27_38, u_27_39, u_27_40, u_27_41, u_27_42, u_27_45, u_27_46, u_27_47, u_27_48, u_27_51, u_27_54, u_27_55, u_27_56, u_27_57, u_27_59, u_27_62, u_27_63, u_27_66, u_27_67, u_27_69, u_27_70, u_27_71, u_27_72, u_27_74, u_27_75, u_27_78, u_27_81, u_27_82, u_27_85, u_27_86, u_27_87, u_27_90, u_27_91, u_27_92, u_27_95, u_27_96, u_27_97, u_27_100, u_27_101, u_27_102, u_27_103, u_27_104, u_27_107, u_27_108, u_27_109, u_27_110, u_27_111, wp_stop, lget, lput1, lput2, kil, hget, hset, vget, vset, fget, fgetC, fput, fputC, iget, igetC, jget, jgetC, qget, qgetC, alen, lenC, oI, oJ, oF, oA, oV, oH, oInc, oIld, oJld, oQld, oR, oLen, oIst, oBst, oJst, oQst, ciOf, rcv, oCp, cat1, cond_true, cond_false, Bool.and_self, Bool.and_true, Bool.true_and, Bool.or_true, Bool.true_or, Bool.or_false, Bool.false_or, Bool.not_false, Bool.not_true, ↓reduceIte, Nat.reduceBEq, Nat.reduceEqDiff, beq_self_eq_true, true_and, and_true, eq_self_iff_true, Nat.reduceAdd, Nat.blt, Nat.ble, z_le, z_lt, z_eq, z_cl, z_add, z_sub, z_mul, z_in, z_lt0, z_ofN, z_m1, z_ltm1, z_m1lt, z_eqm1, z_m1eq, z_m1le, z_lem1, z_beq, nI_0_1, nI_m1lt0, nI_0lem1, not_false_eq_true, not_true_eq_false, forall_const, false_implies, true_implies, implies_true, false_and, and_false, mrg, renc, tra, trv, sg, List.map_cons, List.map_nil, Option.map_some, Option.map_none, Option.toList_some, Option.toList_none, List.cons_append, List.nil_append, List.length_cons, List.length_nil, mH, mO, mM, MS.pat, MS.words, MS.known, MS.ft, MS.counted, MS.nse, MS.se, MS.nnx, MS.nx, MS.ntr, MS.tr, MS.nol, MS.ol, MS.nw, MS.fo, MS.co, t1]
    exact hgo se' h1 (fun v hv => h2 v (by omega))
  | succ m ih =>
    intro w se' hw h1 h2
    have t1 : ¬ W ≤ w := by omega
    have t2 : w < 4 := by omega
    have t3 : k * W + w < nse := by omega
    have t4 : k * W + w < 2 ^ 31 := by omega
    refine wq_aw (S := fun x => x == 21 || x == 56) (by decide) (f := 200) ?_
    simp (disch := first | exact rfl | decide | omega) only [v_27_21, v_27_56, u_27_0, u_27_1, u_27_4, u_27_5, u_27_8, u_27_9, u_27_10, u_27_11, u_27_14, u_27_15, u_27_16, u_27_19, u_27_20, u_27_21, u_27_22, u_27_23, u_27_26, u_27_29, u_27_30, u_27_33, u_27_34, u_27_35, u_27_38, u_27_39, u_27_40, u_27_41, u_27_42, u_27_45, u_27_46, u_27_47, u_27_48, u_27_51, u_27_54, u_27_55, u_27_56, u_27_57, u_27_59, u_27_62, u_27_63, u_27_66, u_27_67, u_27_69, u_27_70, u_27_71, u_27_72, u_27_74, u_27_75, u_27_78, u_27_81, u_27_82, u_27_85, u_27_86, u_27_87, u_27_90, u_27_91, u_27_92, u_27_95, u_27_96, u_27_97, u_27_100, u_27_101, u_27_102, u_27_103, u_27_104, u_27_107, u_27_108, u_27_109, u_27_110, u_27_111, wp_stop, lget, lput1, lput2, kil, hget, hset, vget, vset, fget, fgetC, fput, fputC, iget, igetC, jget, jgetC, qget, qgetC, alen, lenC, oI, oJ, oF, oA, oV, oH, oInc, oIld, oJld, oQld, oR, oLen, oIst, oBst, oJst, oQst, ciOf, rcv, oCp, cat1, cond_true, cond_false, Bool.and_self, Bool.and_true, Bool.true_and, Bool.or_true, Bool.true_or, Bool.or_false, Bool.false_or, Bool.not_false, Bool.not_true, ↓reduceIte, Nat.reduceBEq, Nat.reduceEqDiff, beq_self_eq_true, true_and, and_true, eq_self_iff_true, Nat.reduceAdd, Nat.blt, Nat.ble, z_le, z_lt, z_eq, z_cl, z_add, z_sub, z_mul, z_in, z_lt0, z_ofN, z_m1, z_ltm1, z_m1lt, z_eqm1, z_m1eq, z_m1le, z_lem1, z_beq, nI_0_1, nI_m1lt0, nI_0lem1, not_false_eq_true, not_true_eq_false, forall_const, false_implies, true_implies, implies_true, false_and, and_false, mrg, renc, tra, trv, sg, List.map_cons, List.map_nil, Option.map_some, Option.map_none, Option.toList_some, Option.toList_none, List.cons_append, List.nil_append, List.length_cons, List.length_nil, mH, mO, mM, MS.pat, MS.words, MS.known, MS.ft, MS.counted, MS.nse, MS.se, MS.nnx, MS.nx, MS.ntr, MS.tr, MS.nol, MS.ol, MS.nw, MS.fo, MS.co, t1]
    refine ih (w + 1) (vp_updL se' (k * W + w) (fo w)) (by omega) (fun i hi => by rw [updL_n (by omega)]; exact h1 i hi) (fun v hv => ?_)
    by_cases q : v = w
    · subst q
      exact updL_s
    · rw [updL_n (by omega)]
      exact h2 v (by omega)
set_option maxRecDepth 100000 in
theorem c_newStand (d : Nat) (P : PS) (c : Nat) (hc : c < 64) (hW1 : 1 ≤ W) (hW4 : W ≤ 4) (hk : k ≤ nt) (hn0 : 0 < nt) (hn : nt ≤ 2 ^ 17) (hse : nse ≤ 2 ^ 20) (hkw : k * W ≤ nse) :
    aSp (d + 3) 27 [.ref 0, .int (nI c)] (mH P (mM pat W k ft counted nse se nt nx tr ol nw fo co)) mvM (rmC k nt nse W) (rmS k nt nse W)
      (fun r h' => r = some (.int (nI k)) ∧ ∃ se' nx' tr' ol', h' = mH P (mM pat W (k + 1) ft counted (rmE k nt nse W) se' (rmT k nt) nx' tr' ol' (upd nw c (nI k)) fo co) ∧ nsK W k ft se nx tr ol nw fo c se' nx' tr' ol') := by
  refine sp_of (by decide) (Nat.le_of_ble_eq_true rfl) ?_
  generalize hG : ((d + 3, _, mvM, _, _, _) : aG) = G
  have ggd : gD G = d + 3 := by subst hG; rfl
  have ggn : gN G = 18 := by subst hG; rfl
  have ggm : gM G = mvM := by subst hG; rfl
  have ggc : gC G = rmC k nt nse W := by subst hG; rfl
  have ggs : gS G = rmS k nt nse W := by subst hG; rfl
  have hgp : gP G = (fun r h' => r = some (.int (nI k)) ∧ ∃ se' nx' tr' ol', h' = mH P (mM pat W (k + 1) ft counted (rmE k nt nse W) se' (rmT k nt) nx' tr' ol' (upd nw c (nI k)) fo co) ∧ nsK W k ft se nx tr ol nw fo c se' nx' tr' ol') := by subst hG; rfl
  clear hG
  have hW2 : nt * W ≤ nt * 4 := Nat.mul_le_mul_left nt hW4
  have hW5 : 2 * nt * W = 2 * (nt * W) := Nat.mul_assoc ..
  have hkt : k < rmT k nt ∧ rmT k nt ≤ 2 ^ 18 := by
    unfold rmT
    split <;> omega
  have hkt3 : rmT k nt * W ≤ 2 ^ 20 := by
    unfold rmT
    split <;> omega
  have hkt2 : (k + 1) * W ≤ rmT k nt * W := Nat.mul_le_mul_right W hkt.1
  have hkt4 : (k + 1) * W = k * W + W := Nat.succ_mul ..
  have hE : rmT k nt * W ≤ rmE k nt nse W ∧ rmE k nt nse W ≤ 2 ^ 20 := by
    unfold rmE
    split <;> omega
  refine wp_aw (S := fun x => x == 21 || x == 56) (by decide) 200 _ _ _ _ _ _ ?_
  simp (disch := first | exact rfl | decide | omega) only [u_27_0, u_27_1, u_27_4, u_27_5, u_27_8, u_27_9, u_27_10, u_27_11, u_27_14, u_27_15, u_27_16, u_27_19, u_27_20, u_27_21, u_27_22, u_27_23, u_27_26, u_27_29, u_27_30, u_27_33, u_27_34, u_27_35, u_27_38, u_27_39, u_27_40, u_27_41, u_27_42, u_27_45, u_27_46, u_27_47, u_27_48, u_27_51, u_27_54, u_27_55, u_27_56, u_27_57, u_27_59, u_27_62, u_27_63, u_27_66, u_27_67, u_27_69, u_27_70, u_27_71, u_27_72, u_27_74, u_27_75, u_27_78, u_27_81, u_27_82, u_27_85, u_27_86, u_27_87, u_27_90, u_27_91, u_27_92, u_27_95, u_27_96, u_27_97, u_27_100, u_27_101, u_27_102, u_27_103, u_27_104, u_27_107, u_27_108, u_27_109, u_27_110, u_27_111, wp_stop, lget, lput1, lput2, kil, hget, hset, vget, vset, fget, fgetC, fput, fputC, iget, igetC, jget, jgetC, qget, qgetC, alen, lenC, oI, oJ, oF, oA, oV, oH, oInc, oIld, oJld, oQld, oR, oLen, oIst, oBst, oJst, oQst, ciOf, rcv, oCp, cat1, cond_true, cond_false, Bool.and_self, Bool.and_true, Bool.true_and, Bool.or_true, Bool.true_or, Bool.or_false, Bool.false_or, Bool.not_false, Bool.not_true, ↓reduceIte, Nat.reduceBEq, Nat.reduceEqDiff, beq_self_eq_true, true_and, and_true, eq_self_iff_true, Nat.reduceAdd, Nat.blt, Nat.ble, z_le, z_lt, z_eq, z_cl, z_add, z_sub, z_mul, z_in, z_lt0, z_ofN, z_m1, z_ltm1, z_m1lt, z_eqm1, z_m1eq, z_m1le, z_lem1, z_beq, nI_0_1, nI_m1lt0, nI_0lem1, not_false_eq_true, not_true_eq_false, forall_const, false_implies, true_implies, implies_true, false_and, and_false, mrg, renc, tra, trv, sg, List.map_cons, List.map_nil, Option.map_some, Option.map_none, Option.toList_some, Option.toList_none, List.cons_append, List.nil_append, List.length_cons, List.length_nil, eL, mL_27, mH, mO, mM, MS.pat, MS.words, MS.known, MS.ft, MS.counted, MS.nse, MS.se, MS.nnx, MS.nx, MS.ntr, MS.tr, MS.nol, MS.ol, MS.nw, MS.fo, MS.co]
  refine CAL.dirM (c_makeRoom pat W k ft counted nse se nt nx tr ol nw fo co d P hW1 hW4 hk hn0 hn hse) (by rw [ggd]; omega) (by rw [ggc]; omega) (by rw [ggs]; omega) (Nat.le_of_ble_eq_true rfl) (by rw [ggn]; exact Nat.le_refl _) (fun j _ q => by rw [← ggm]; exact q) rfl rfl ?_
  rintro _ _ ⟨rfl, se1, nx1, tr1, ol1, rfl, hk1, hk2, hk3, hk4⟩
  simp (disch := first | exact rfl | decide | omega) only [u_27_0, u_27_1, u_27_4, u_27_5, u_27_8, u_27_9, u_27_10, u_27_11, u_27_14, u_27_15, u_27_16, u_27_19, u_27_20, u_27_21, u_27_22, u_27_23, u_27_26, u_27_29, u_27_30, u_27_33, u_27_34, u_27_35, u_27_38, u_27_39, u_27_40, u_27_41, u_27_42, u_27_45, u_27_46, u_27_47, u_27_48, u_27_51, u_27_54, u_27_55, u_27_56, u_27_57, u_27_59, u_27_62, u_27_63, u_27_66, u_27_67, u_27_69, u_27_70, u_27_71, u_27_72, u_27_74, u_27_75, u_27_78, u_27_81, u_27_82, u_27_85, u_27_86, u_27_87, u_27_90, u_27_91, u_27_92, u_27_95, u_27_96, u_27_97, u_27_100, u_27_101, u_27_102, u_27_103, u_27_104, u_27_107, u_27_108, u_27_109, u_27_110, u_27_111, wp_stop, lget, lput1, lput2, kil, hget, hset, vget, vset, fget, fgetC, fput, fputC, iget, igetC, jget, jgetC, qget, qgetC, alen, lenC, oI, oJ, oF, oA, oV, oH, oInc, oIld, oJld, oQld, oR, oLen, oIst, oBst, oJst, oQst, ciOf, rcv, oCp, cat1, cond_true, cond_false, Bool.and_self, Bool.and_true, Bool.true_and, Bool.or_true, Bool.true_or, Bool.or_false, Bool.false_or, Bool.not_false, Bool.not_true, ↓reduceIte, Nat.reduceBEq, Nat.reduceEqDiff, beq_self_eq_true, true_and, and_true, eq_self_iff_true, Nat.reduceAdd, Nat.blt, Nat.ble, z_le, z_lt, z_eq, z_cl, z_add, z_sub, z_mul, z_in, z_lt0, z_ofN, z_m1, z_ltm1, z_m1lt, z_eqm1, z_m1eq, z_m1le, z_lem1, z_beq, nI_0_1, nI_m1lt0, nI_0lem1, not_false_eq_true, not_true_eq_false, forall_const, false_implies, true_implies, implies_true, false_and, and_false, mrg, renc, tra, trv, sg, List.map_cons, List.map_nil, Option.map_some, Option.map_none, Option.toList_some, Option.toList_none, List.cons_append, List.nil_append, List.length_cons, List.length_nil, mH, mO, mM, MS.pat, MS.words, MS.known, MS.ft, MS.counted, MS.nse, MS.se, MS.nnx, MS.nx, MS.ntr, MS.tr, MS.nol, MS.ol, MS.nw, MS.fo, MS.co]
  refine l_ns1 pat W k ft counted _ se1 _ nx1 tr1 ol1 nw fo co P c _ _ hc hkt.1 hkt.2 hW4 (by omega) hE.2 (fun se2 q1 q2 => ?_) W 0 se1 (by omega) (fun _ _ => rfl) (fun v hv => absurd hv (by omega))
  refine l_ns2 pat W k ft counted _ se2 _ nx1 tr1 ol1 nw fo co P c _ _ hc hkt.1 hkt.2 (fun _ => True) (fun nx2 r1 r2 => ?_) 8 0 nx1 (by omega) (fun _ _ => rfl) (fun v hv => absurd hv (by omega))
  refine RET.id ?_ (by rw [ggc]; omega) (by rw [ggs]; omega)
  rw [hgp]
  refine ⟨rfl, _, _, _, _, rfl, fun i hi => ?_, q2, fun i hi => ?_, r2, fun i hi => ?_, upd_s, fun i hi => ?_, upd_s⟩
  · rw [q1 i hi, hk1 i (by omega)]
  · rw [r1 i hi, hk2 i (by omega)]
  · rw [upd_n (by omega), hk3 i (by omega)]
  · rw [upd_n (by omega), hk4 i (by omega)]
end NS
