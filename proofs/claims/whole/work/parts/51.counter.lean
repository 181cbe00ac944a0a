/-! RowCounter: begin, lastSteps -/
abbrev cF (na : Nat) (wa : Nat → Int32) (nb : Nat) (wb : Nat → Int32) : aH := [.inr (6, [.ref 1, .ref 2]), .inl (1, na, .inl wa), .inl (1, nb, .inl wb)]
abbrev cH (na : Nat) (wa : Nat → Int32) (nb : Nat) (wb : Nat → Int32) (Z : PS × MS) : aH := cF na wa nb wb ++ mHB 3 Z
theorem okF_cF (na : Nat) (wa : Nat → Int32) (nb : Nat) (wb : Nat → Int32) : okF 1 (cF na wa nb wb) := ⟨rfl, trivial, trivial, trivial⟩
/-- ways of the stands: as many as the counts of their sets -/
def wOK (L : List Nat) (c : Nat → Nat) (na : Nat) (wa : Nat → Int32) : Prop := ∀ i, i < na → wa i = nI (match L[i]? with | some m => c m | none => 0)
/-- a machine's counts changed -/
def coZ (α : aZ) (c : Int32) (co : Nat → Int32) : aZ := (α.1, α.2.1, α.2.2.1, α.2.2.2.1, c, co)
def coU (Z : PS × MS) (c : Int32) (co : Nat → Int32) : PS × MS := (Z.1, (Z.2.pat, Z.2.words, Z.2.known, Z.2.ft, c, Z.2.nse, Z.2.se, Z.2.nnx, Z.2.nx, Z.2.ntr, Z.2.tr, Z.2.nol, Z.2.ol, Z.2.nw, Z.2.fo, co))
theorem coZ_R {Z : PS × MS} {α : aZ} (h : zR Z α) (c : Int32) (co : Nat → Int32) : zR (coU Z c co) (coZ α c co) := by
  obtain ⟨mc, lv, kd, sa, la, sp, sh, ptr, mo, ms, me, ft, se, nx, tr, ol, nw, fo, rfl, hq⟩ := h
  exact ⟨mc, lv, kd, sa, la, sp, sh, ptr, mo, ms, me, ft, se, nx, tr, ol, nw, fo, rfl, hq⟩
theorem zR_f {Z : PS × MS} {α : aZ} (h : zR Z α) : Z.2.known = nI α.2.1.1.length ∧ Z.2.counted = α.2.2.2.2.1 ∧ Z.2.co = α.2.2.2.2.2 ∧ α.2.1.1.length ≤ 2 ^ 14 := by
  obtain ⟨mc, lv, kd, sa, la, sp, sh, ptr, mo, ms, me, ft, se, nx, tr, ol, nw, fo, rfl, hq⟩ := h
  refine ⟨rfl, rfl, rfl, ?_⟩
  obtain ⟨-, -, -, -, -, -, -, hI⟩ := hq
  exact Nat.le_trans hI.2.1.1 hI.2.1.2.1
/-- rows of a machine's answers -/
theorem hr_same {Z : PS × MS} {v : Value} {r : Option Value} {hc' : aH} (hv : ∀ ρ, trv ρ v = v) (h : r = some v ∧ hc' = mH Z.1 Z.2) : (∃ Z : PS × MS, hc' = mH Z.1 Z.2) ∧ ∀ ρ, r.map (trv ρ) = r := by
  obtain ⟨rfl, rfl⟩ := h
  exact ⟨⟨Z, rfl⟩, fun ρ => by rw [Option.map_some, hv]⟩
theorem mH_inj {Z Z' : PS × MS} (h : mH Z.1 Z.2 = mH Z'.1 Z'.2) : mHB 3 Z = mHB 3 Z' := by
  unfold mHB
  rw [h]
set_option maxRecDepth 100000 in
theorem c_cBegin (d : Nat) (na : Nat) (wa : Nat → Int32) (nb : Nat) (wb : Nat → Int32) {Z : PS × MS} {α : aZ} (h : zR Z α) (m : Nat) (h0 : α.2.1.1[0]? = some m) (hna : 0 < na) (hna2 : na < 2 ^ 20) :
    aSp (d + 2) 66 [.ref 0, .ref 3] (cH na wa nb wb Z) nomv 0 0 (fun r h' => r = none ∧ ∃ wa', h' = cH na wa' nb wb (coU Z Z.2.counted (upd Z.2.co 0 (bN ((trM (dT α.1) m).testBit 8)))) ∧ wa' 0 = nI 1 ∧ ∀ i, 0 < i → i < na → wa' i = nI 0) := by
  refine sp_of (by decide) (Nat.le_of_ble_eq_true rfl) ?_
  generalize hG : ((d + 2, _, nomv, _, _, _) : aG) = G
  have ggd : gD G = d + 2 := by subst hG; rfl
  have ggn : gN G = 21 := by subst hG; rfl
  have ggm : gM G = nomv := by subst hG; rfl
  have ggc : gC G = 0 := by subst hG; rfl
  have ggs : gS G = 0 := by subst hG; rfl
  have hret : ∀ wa', wa' 0 = nI 1 → (∀ i, 0 < i → i < na → wa' i = nI 0) → RET G none (cH na wa' nb wb (coU Z Z.2.counted (upd Z.2.co 0 (bN ((trM (dT α.1) m).testBit 8))))) 0 0 := by
    subst hG
    exact fun wa' q1 q2 => RET.id ⟨rfl, wa', rfl, q1, q2⟩ (Nat.le_refl _) (Nat.le_refl _)
  clear hG
  have hz := z_isEnding d h h0
  generalize (trM (dT α.1) m).testBit 8 = e at hret hz
  obtain ⟨P, M⟩ := Z
  refine wp_aw (S := fun _ => false) (by decide) 200 _ _ _ _ _ _ ?_
  simp (disch := first | exact rfl | decide | omega) only [u_66_0, u_66_1, u_66_4, u_66_5, u_66_8, u_66_9, u_66_12, u_66_13, u_66_14, u_66_15, u_66_16, u_66_19, u_66_20, u_66_21, u_66_22, u_66_25, u_66_28, u_66_29, u_66_32, u_66_33, u_66_34, wp_stop, lget, lput1, lput2, kil, hget, hset, vget, vset, fget, fgetC, fput, fputC, iget, igetC, jget, jgetC, qget, qgetC, alen, lenC, oI, oJ, oF, oA, oV, oH, oInc, oIld, oJld, oQld, oR, oLen, oIst, oBst, oJst, oQst, ciOf, rcv, oCp, cat1, cond_true, cond_false, Bool.and_self, Bool.and_true, Bool.true_and, Bool.or_true, Bool.true_or, Bool.or_false, Bool.false_or, Bool.not_false, Bool.not_true, ↓reduceIte, Nat.reduceBEq, Nat.reduceEqDiff, beq_self_eq_true, true_and, and_true, eq_self_iff_true, Nat.reduceAdd, Nat.blt, Nat.ble, z_le, z_lt, z_eq, z_cl, z_add, z_sub, z_mul, z_in, z_lt0, z_ofN, z_m1, z_ltm1, z_m1lt, z_eqm1, z_m1eq, z_m1le, z_lem1, z_beq, nI_0_1, nI_m1lt0, nI_0lem1, not_false_eq_true, not_true_eq_false, forall_const, false_implies, true_implies, implies_true, false_and, and_false, mrg, renc, tra, trv, sg, List.map_cons, List.map_nil, Option.map_some, Option.map_none, Option.toList_some, Option.toList_none, List.cons_append, List.nil_append, List.length_cons, List.length_nil, eL, mL_66, cH, cF, mHB, mH, mO, mPO]
  refine CAL.nm (c_fillI d (nI 0) na wa (by omega)) [1] rfl rfl rfl (by decide) rfl ?_ (by rw [ggd]; omega) (by rw [ggc]; omega) (by rw [ggs]; omega) (Nat.le_of_ble_eq_true rfl) (by rw [ggn]; exact Nat.le_of_ble_eq_true rfl) rfl rfl ?_
  · rintro r hc' ⟨-, g, rfl, -⟩
    exact Nat.le_of_ble_eq_true rfl
  rintro _ _ ⟨rfl, g, rfl, hg⟩
  simp (disch := first | exact rfl | decide | omega) only [u_66_0, u_66_1, u_66_4, u_66_5, u_66_8, u_66_9, u_66_12, u_66_13, u_66_14, u_66_15, u_66_16, u_66_19, u_66_20, u_66_21, u_66_22, u_66_25, u_66_28, u_66_29, u_66_32, u_66_33, u_66_34, wp_stop, lget, lput1, lput2, kil, hget, hset, vget, vset, fget, fgetC, fput, fputC, iget, igetC, jget, jgetC, qget, qgetC, alen, lenC, oI, oJ, oF, oA, oV, oH, oInc, oIld, oJld, oQld, oR, oLen, oIst, oBst, oJst, oQst, ciOf, rcv, oCp, cat1, cond_true, cond_false, Bool.and_self, Bool.and_true, Bool.true_and, Bool.or_true, Bool.true_or, Bool.or_false, Bool.false_or, Bool.not_false, Bool.not_true, ↓reduceIte, Nat.reduceBEq, Nat.reduceEqDiff, beq_self_eq_true, true_and, and_true, eq_self_iff_true, Nat.reduceAdd, Nat.blt, Nat.ble, z_le, z_lt, z_eq, z_cl, z_add, z_sub, z_mul, z_in, z_lt0, z_ofN, z_m1, z_ltm1, z_m1lt, z_eqm1, z_m1eq, z_m1le, z_lem1, z_beq, nI_0_1, nI_m1lt0, nI_0lem1, not_false_eq_true, not_true_eq_false, forall_const, false_implies, true_implies, implies_true, false_and, and_false, mrg, renc, tra, trv, sg, List.map_cons, List.map_nil, Option.map_some, Option.map_none, Option.toList_some, Option.toList_none, List.cons_append, List.nil_append, List.length_cons, List.length_nil]
  refine CAL.oneN (cF na (upd g 0 (nI 1)) nb wb) hz (okF_cF _ _ _ _) (fun _ => rfl) (fun r hc' q => hr_same (Z := (P, M)) (fun _ => rfl) q) (by rw [ggd]; omega) (by rw [ggc]; omega) (by rw [ggs]; omega) (Nat.le_of_ble_eq_true rfl) (by rw [ggn]; exact Nat.le_of_ble_eq_true rfl) rfl rfl ?_
  rintro _ Z' ⟨rfl, hZ⟩
  have hZ2 := mH_inj (Z' := (P, M)) hZ
  show WP _ _ _ _ _ _ _ (cF na (upd g 0 (nI 1)) nb wb ++ mHB 3 Z') _ _
  rw [hZ2]
  have hfin := hret (upd g 0 (nI 1)) upd_s (fun i h1 h2 => by rw [upd_n (by omega), hg i h2])
  cases e
  · have e1 : bN false = nI 0 := rfl
    simp (disch := first | exact rfl | decide | omega) only [u_66_0, u_66_1, u_66_4, u_66_5, u_66_8, u_66_9, u_66_12, u_66_13, u_66_14, u_66_15, u_66_16, u_66_19, u_66_20, u_66_21, u_66_22, u_66_25, u_66_28, u_66_29, u_66_32, u_66_33, u_66_34, wp_stop, lget, lput1, lput2, kil, hget, hset, vget, vset, fget, fgetC, fput, fputC, iget, igetC, jget, jgetC, qget, qgetC, alen, lenC, oI, oJ, oF, oA, oV, oH, oInc, oIld, oJld, oQld, oR, oLen, oIst, oBst, oJst, oQst, ciOf, rcv, oCp, cat1, cond_true, cond_false, Bool.and_self, Bool.and_true, Bool.true_and, Bool.or_true, Bool.true_or, Bool.or_false, Bool.false_or, Bool.not_false, Bool.not_true, ↓reduceIte, Nat.reduceBEq, Nat.reduceEqDiff, beq_self_eq_true, true_and, and_true, eq_self_iff_true, Nat.reduceAdd, Nat.blt, Nat.ble, z_le, z_lt, z_eq, z_cl, z_add, z_sub, z_mul, z_in, z_lt0, z_ofN, z_m1, z_ltm1, z_m1lt, z_eqm1, z_m1eq, z_m1le, z_lem1, z_beq, nI_0_1, nI_m1lt0, nI_0lem1, not_false_eq_true, not_true_eq_false, forall_const, false_implies, true_implies, implies_true, false_and, and_false, mrg, renc, tra, trv, sg, List.map_cons, List.map_nil, Option.map_some, Option.map_none, Option.toList_some, Option.toList_none, List.cons_append, List.nil_append, List.length_cons, List.length_nil, cF, mHB, mH, mO, mPO, e1]
    exact hfin
  · have e1 : bN true = nI 1 := rfl
    simp (disch := first | exact rfl | decide | omega) only [u_66_0, u_66_1, u_66_4, u_66_5, u_66_8, u_66_9, u_66_12, u_66_13, u_66_14, u_66_15, u_66_16, u_66_19, u_66_20, u_66_21, u_66_22, u_66_25, u_66_28, u_66_29, u_66_32, u_66_33, u_66_34, wp_stop, lget, lput1, lput2, kil, hget, hset, vget, vset, fget, fgetC, fput, fputC, iget, igetC, jget, jgetC, qget, qgetC, alen, lenC, oI, oJ, oF, oA, oV, oH, oInc, oIld, oJld, oQld, oR, oLen, oIst, oBst, oJst, oQst, ciOf, rcv, oCp, cat1, cond_true, cond_false, Bool.and_self, Bool.and_true, Bool.true_and, Bool.or_true, Bool.true_or, Bool.or_false, Bool.false_or, Bool.not_false, Bool.not_true, ↓reduceIte, Nat.reduceBEq, Nat.reduceEqDiff, beq_self_eq_true, true_and, and_true, eq_self_iff_true, Nat.reduceAdd, Nat.blt, Nat.ble, z_le, z_lt, z_eq, z_cl, z_add, z_sub, z_mul, z_in, z_lt0, z_ofN, z_m1, z_ltm1, z_m1lt, z_eqm1, z_m1eq, z_m1le, z_lem1, z_beq, nI_0_1, nI_m1lt0, nI_0lem1, not_false_eq_true, not_true_eq_false, forall_const, false_implies, true_implies, implies_true, false_and, and_false, mrg, renc, tra, trv, sg, List.map_cons, List.map_nil, Option.map_some, Option.map_none, Option.toList_some, Option.toList_none, List.cons_append, List.nil_append, List.length_cons, List.length_nil, cF, mHB, mH, mO, mPO, e1, show ¬ (1 : Nat) = 0 by decide]
    exact hfin
