/-! Shares; ResidualJudge.bitsOf, BookJudge.share -/
def shB (x : UInt32) : Bool := Nat.ble 8388608 x.toNat && Nat.ble x.toNat 1065353216
theorem sh_ok0 : ∀ b, b < 75 → ∀ a, a < b + 1 → shB (FP.fdiv (FP.i2f (nI (a + 1))) (FP.i2f (nI (b + 1)))) = true := by decide +kernel
theorem sh_ok1 : ∀ b, b < 40 → ∀ a, a < b + 76 → shB (FP.fdiv (FP.i2f (nI (a + 1))) (FP.i2f (nI (b + 76)))) = true := by decide +kernel
theorem sh_ok2 : ∀ b, b < 35 → ∀ a, a < b + 116 → shB (FP.fdiv (FP.i2f (nI (a + 1))) (FP.i2f (nI (b + 116)))) = true := by decide +kernel
theorem sh_0 : ∀ b, b < 150 → FP.fdiv (FP.i2f (nI 0)) (FP.i2f (nI (b + 1))) = 0 := by decide +kernel
def shR (s : UInt32) : Prop := s = 0 ∨ (8388608 ≤ s.toNat ∧ s.toNat ≤ 1065353216)
theorem sh_R {a b : Nat} (h1 : 1 ≤ b) (h2 : b ≤ 150) (h3 : a ≤ b) : shR (FP.fdiv (FP.i2f (nI a)) (FP.i2f (nI b))) := by
  by_cases q : a = 0
  · subst q
    have := sh_0 (b - 1) (by omega)
    rw [show b - 1 + 1 = b by omega] at this
    exact Or.inl this
  have hb : shB (FP.fdiv (FP.i2f (nI a)) (FP.i2f (nI b))) = true := by
    rcases Nat.lt_or_ge b 76 with z | z
    · have := sh_ok0 (b - 1) (by omega) (a - 1) (by omega)
      rwa [show b - 1 + 1 = b by omega, show a - 1 + 1 = a by omega] at this
    rcases Nat.lt_or_ge b 116 with z | z
    · have := sh_ok1 (b - 76) (by omega) (a - 1) (by omega)
      rwa [show b - 76 + 76 = b by omega, show a - 1 + 1 = a by omega] at this
    · have := sh_ok2 (b - 116) (by omega) (a - 1) (by omega)
      rwa [show b - 116 + 116 = b by omega, show a - 1 + 1 = a by omega] at this
  unfold shB at hb
  rw [Bool.and_eq_true] at hb
  exact Or.inr ⟨Nat.le_of_ble_eq_true hb.1, Nat.le_of_ble_eq_true hb.2⟩
theorem shR_n {s : UInt32} (h : shR s) : vf_n32 s := by
  rcases h with rfl | ⟨-, h⟩
  · exact fd_n32 (by decide)
  · exact fd_n32 (by omega)
theorem cv_lt : Op.cmpValue (some .lt) .g = -1 := rfl
theorem cv_eqg : nI 0 ≤ Op.cmpValue (some .eq) .g := by decide
theorem cv_gtg : nI 0 ≤ Op.cmpValue (some .gt) .g := by decide
theorem cv_gt0 : ¬ Op.cmpValue (some .gt) .g ≤ nI 0 := by decide
theorem cv_ltl : Op.cmpValue (some .lt) .l ≤ nI 0 := by decide
theorem cv_eql : Op.cmpValue (some .eq) .l ≤ nI 0 := by decide
theorem sl23 : ∀ e, e < 128 → nI e <<< (nI 23 &&& 31) = nI (e * 8388608) := by decide +kernel
theorem fd_fin {x : UInt32} {e T : Nat} (he : e < 128) (hT : T < 8388608) (hx : x.toNat = 127 * 8388608 + T) : vf_n32 (FP.fsub x FP.fconst1) ∧ vf_n32 (FP.fmul (FP.fsub x FP.fconst1) 1258291200) ∧ (nI e <<< (nI 23 &&& 31)) ||| FP.f2i (FP.fmul (FP.fsub x FP.fconst1) 1258291200) = nI (e * 8388608 + T) := by
  rw [sl23 e he]
  by_cases q : T = 0
  · subst q
    have hx1 : x = FP.fconst1 := UInt32.toNat_inj.mp hx
    subst hx1
    have e1 : FP.fsub FP.fconst1 FP.fconst1 = 0 := by decide
    have e2 : FP.fmul 0 1258291200 = 0 := by decide
    have e3 : FP.f2i 0 = nI 0 := by decide
    rw [e1, e2, e3, fa_or, Nat.or_zero]
    exact ⟨fd_n32 (by decide), fd_n32 (by decide), by rw [Nat.add_zero]⟩
  · obtain ⟨j, hj, hc, hc2⟩ := fd_log (by omega) hT
    have h1 := fd_sub (by omega) hT hj hc hc2 hx
    have h2 := fd_mul (E := 127 - j) (by omega) (by omega) (by omega) h1
    rw [show 127 - j + 23 = 150 - j by omega] at h2
    have h3 := fd_f2i hj hT hc hc2 h2
    rw [h3, fa_or]
    refine ⟨fd_n32 (by rw [h1]; omega), fd_n32 (by rw [h2]; omega), ?_⟩
    have h4 := Nat.shiftLeft_add_eq_or_of_lt (i := 23) (show T < 2 ^ 23 from hT) e
    rw [Nat.shiftLeft_eq] at h4
    rw [show e * 8388608 = e * 2 ^ 23 from rfl, ← h4]
set_option maxRecDepth 100000 in
theorem l_bits {G : aG} (s : UInt32) (h : aH) (E0 T : Nat) (h0 : 1 ≤ E0) (h02 : E0 ≤ 127) (hT : T < 8388608) (hret : RET G (some (.int (nI (E0 * 8388608 + T)))) h 0 0) :
    ∀ (j E e : Nat) (x : UInt32), E + j = 127 → E0 ≤ E → e + E = E0 + 127 → x.toNat = E * 8388608 + T → AW 88 G 19 [some (.float s), some (.float x), some (.int (nI e))] [] h 0 0 := by
  intro j
  induction j with
  | zero =>
    intro E e x hj hE he hx
    have e1 : E = 127 := by omega
    have e2 : e = E0 := by omega
    subst e1 e2
    obtain ⟨f1, f2, f3⟩ := fd_fin (e := e) (by omega) hT hx
    have f4 : nI 0 ≤ Op.cmpValue (FP.fcmp x FP.fconst1) .g := by
      rw [fd_ge hT hx]
      by_cases q : T = 0
      · rw [if_pos q]
        exact cv_eqg
      · rw [if_neg q]
        exact cv_gtg
    refine wq_aw (S := fun x => x == 19) (by decide) (f := 200) ?_
    simp (disch := first | exact rfl | decide | omega) only [v_88_19, u_88_0, u_88_1, u_88_2, u_88_3, u_88_6, u_88_7, u_88_8, u_88_9, u_88_12, u_88_13, u_88_14, u_88_15, u_88_16, u_88_18, u_88_19, u_88_20, u_88_21, u_88_22, u_88_25, u_88_26, u_88_27, u_88_30, u_88_31, u_88_32, u_88_33, u_88_34, u_88_37, u_88_40, u_88_41, u_88_43, u_88_44, u_88_45, u_88_46, u_88_47, u_88_49, u_88_50, u_88_51, u_88_52, wp_stop, lget, lput1, lput2, kil, hget, hset, vget, vset, fget, fgetC, fput, fputC, iget, igetC, jget, jgetC, qget, qgetC, alen, lenC, oI, oJ, oF, oA, oV, oH, oInc, oIld, oJld, oQld, oR, oLen, oIst, oBst, oJst, oQst, ciOf, rcv, oCp, cat1, cond_true, cond_false, Bool.and_self, Bool.and_true, Bool.true_and, Bool.or_true, Bool.true_or, Bool.or_false, Bool.false_or, Bool.not_false, Bool.not_true, ↓reduceIte, Nat.reduceBEq, Nat.reduceEqDiff, beq_self_eq_true, true_and, and_true, eq_self_iff_true, Nat.reduceAdd, Nat.blt, Nat.ble, z_le, z_lt, z_eq, z_cl, z_add, z_sub, z_mul, z_in, z_lt0, z_ofN, z_m1, z_ltm1, z_m1lt, z_eqm1, z_m1eq, z_m1le, z_lem1, z_beq, nI_0_1, nI_m1lt0, nI_0lem1, not_false_eq_true, not_true_eq_false, forall_const, false_implies, true_implies, implies_true, false_and, and_false, mrg, renc, tra, trv, sg, List.map_cons, List.map_nil, Option.map_some, Option.map_none, Option.toList_some, Option.toList_none, List.cons_append, List.nil_append, List.length_cons, List.length_nil, f1, f2, f3, f4]
    exact hret
  | succ j ih =>
    intro E e x hj hE he hx
    have f1 := fd_lt (by omega) (by omega) hT hx
    have f2 := fd_dbl (by omega) (by omega) hT hx
    have f3 : vf_n32 (FP.fmul x FP.fconst2) := fd_n32 (by rw [f2]; omega)
    have hf := ih (E + 1) (e - 1) _ (by omega) (by omega) (by omega) f2
    have t1 : ¬ e ≤ 1 := by omega
    refine wq_aw (S := fun x => x == 19) (by decide) (f := 200) ?_
    simp (disch := first | exact rfl | decide | omega) only [v_88_19, u_88_0, u_88_1, u_88_2, u_88_3, u_88_6, u_88_7, u_88_8, u_88_9, u_88_12, u_88_13, u_88_14, u_88_15, u_88_16, u_88_18, u_88_19, u_88_20, u_88_21, u_88_22, u_88_25, u_88_26, u_88_27, u_88_30, u_88_31, u_88_32, u_88_33, u_88_34, u_88_37, u_88_40, u_88_41, u_88_43, u_88_44, u_88_45, u_88_46, u_88_47, u_88_49, u_88_50, u_88_51, u_88_52, wp_stop, lget, lput1, lput2, kil, hget, hset, vget, vset, fget, fgetC, fput, fputC, iget, igetC, jget, jgetC, qget, qgetC, alen, lenC, oI, oJ, oF, oA, oV, oH, oInc, oIld, oJld, oQld, oR, oLen, oIst, oBst, oJst, oQst, ciOf, rcv, oCp, cat1, cond_true, cond_false, Bool.and_self, Bool.and_true, Bool.true_and, Bool.or_true, Bool.true_or, Bool.or_false, Bool.false_or, Bool.not_false, Bool.not_true, ↓reduceIte, Nat.reduceBEq, Nat.reduceEqDiff, beq_self_eq_true, true_and, and_true, eq_self_iff_true, Nat.reduceAdd, Nat.blt, Nat.ble, z_le, z_lt, z_eq, z_cl, z_add, z_sub, z_mul, z_in, z_lt0, z_ofN, z_m1, z_ltm1, z_m1lt, z_eqm1, z_m1eq, z_m1le, z_lem1, z_beq, nI_0_1, nI_m1lt0, nI_0lem1, not_false_eq_true, not_true_eq_false, forall_const, false_implies, true_implies, implies_true, false_and, and_false, mrg, renc, tra, trv, sg, List.map_cons, List.map_nil, Option.map_some, Option.map_none, Option.toList_some, Option.toList_none, List.cons_append, List.nil_append, List.length_cons, List.length_nil, f1, cv_lt, f3, t1]
    exact hf
set_option maxRecDepth 100000 in
theorem c_bitsOf (d : Nat) (s : UInt32) (hs : shR s) (h : aH) : aSp d 88 [.float s] h nomv 0 0 (fun r h' => r = some (.int (nI s.toNat)) ∧ h' = h) := by
  refine sp_of (by decide) (Nat.le_of_ble_eq_true rfl) ?_
  generalize hG : ((d, _, nomv, _, _, _) : aG) = G
  have hret : RET G (some (.int (nI s.toNat))) h 0 0 := by
    subst hG
    exact RET.id ⟨rfl, rfl⟩ (Nat.le_refl _) (Nat.le_refl _)
  clear hG
  rcases hs with rfl | ⟨h1, h2⟩
  · have f1 : Op.cmpValue (FP.fcmp 0 FP.fconst0) .g ≤ nI 0 := by decide
    have e : nI (0 : UInt32).toNat = nI 0 := rfl
    rw [e] at hret
    refine wp_aw (S := fun x => x == 19) (by decide) 200 _ _ _ _ _ _ ?_
    simp (disch := first | exact rfl | decide | omega) only [u_88_0, u_88_1, u_88_2, u_88_3, u_88_6, u_88_7, u_88_8, u_88_9, u_88_12, u_88_13, u_88_14, u_88_15, u_88_16, u_88_18, u_88_19, u_88_20, u_88_21, u_88_22, u_88_25, u_88_26, u_88_27, u_88_30, u_88_31, u_88_32, u_88_33, u_88_34, u_88_37, u_88_40, u_88_41, u_88_43, u_88_44, u_88_45, u_88_46, u_88_47, u_88_49, u_88_50, u_88_51, u_88_52, wp_stop, lget, lput1, lput2, kil, hget, hset, vget, vset, fget, fgetC, fput, fputC, iget, igetC, jget, jgetC, qget, qgetC, alen, lenC, oI, oJ, oF, oA, oV, oH, oInc, oIld, oJld, oQld, oR, oLen, oIst, oBst, oJst, oQst, ciOf, rcv, oCp, cat1, cond_true, cond_false, Bool.and_self, Bool.and_true, Bool.true_and, Bool.or_true, Bool.true_or, Bool.or_false, Bool.false_or, Bool.not_false, Bool.not_true, ↓reduceIte, Nat.reduceBEq, Nat.reduceEqDiff, beq_self_eq_true, true_and, and_true, eq_self_iff_true, Nat.reduceAdd, Nat.blt, Nat.ble, z_le, z_lt, z_eq, z_cl, z_add, z_sub, z_mul, z_in, z_lt0, z_ofN, z_m1, z_ltm1, z_m1lt, z_eqm1, z_m1eq, z_m1le, z_lem1, z_beq, nI_0_1, nI_m1lt0, nI_0lem1, not_false_eq_true, not_true_eq_false, forall_const, false_implies, true_implies, implies_true, false_and, and_false, mrg, renc, tra, trv, sg, List.map_cons, List.map_nil, Option.map_some, Option.map_none, Option.toList_some, Option.toList_none, List.cons_append, List.nil_append, List.length_cons, List.length_nil, eL, mL_88, f1]
    exact hret
  · obtain ⟨E, T, hT, hx⟩ : ∃ E T, T < 8388608 ∧ s.toNat = E * 8388608 + T := ⟨s.toNat / 8388608, s.toNat % 8388608, by omega, by omega⟩
    rw [hx] at hret
    have f1 : ¬ Op.cmpValue (FP.fcmp s FP.fconst0) .g ≤ nI 0 := by
      rw [fd_gt0 (by omega) (by omega) hT hx]
      exact cv_gt0
    have f2 : Op.cmpValue (FP.fcmp s FP.fconst1) .l ≤ nI 0 := by
      by_cases q : E < 127
      · rw [fd_lt (by omega) q hT hx]
        exact cv_ltl
      · have e1 : E = 127 := by omega
        subst e1
        rw [fd_ge hT hx, if_pos (by omega)]
        exact cv_eql
    have hf := l_bits s h E T (by omega) (by omega) hT hret (127 - E) E 127 s (by omega) (by omega) (by omega) hx
    refine wp_aw (S := fun x => x == 19) (by decide) 200 _ _ _ _ _ _ ?_
    simp (disch := first | exact rfl | decide | omega) only [u_88_0, u_88_1, u_88_2, u_88_3, u_88_6, u_88_7, u_88_8, u_88_9, u_88_12, u_88_13, u_88_14, u_88_15, u_88_16, u_88_18, u_88_19, u_88_20, u_88_21, u_88_22, u_88_25, u_88_26, u_88_27, u_88_30, u_88_31, u_88_32, u_88_33, u_88_34, u_88_37, u_88_40, u_88_41, u_88_43, u_88_44, u_88_45, u_88_46, u_88_47, u_88_49, u_88_50, u_88_51, u_88_52, wp_stop, lget, lput1, lput2, kil, hget, hset, vget, vset, fget, fgetC, fput, fputC, iget, igetC, jget, jgetC, qget, qgetC, alen, lenC, oI, oJ, oF, oA, oV, oH, oInc, oIld, oJld, oQld, oR, oLen, oIst, oBst, oJst, oQst, ciOf, rcv, oCp, cat1, cond_true, cond_false, Bool.and_self, Bool.and_true, Bool.true_and, Bool.or_true, Bool.true_or, Bool.or_false, Bool.false_or, Bool.not_false, Bool.not_true, ↓reduceIte, Nat.reduceBEq, Nat.reduceEqDiff, beq_self_eq_true, true_and, and_true, eq_self_iff_true, Nat.reduceAdd, Nat.blt, Nat.ble, z_le, z_lt, z_eq, z_cl, z_add, z_sub, z_mul, z_in, z_lt0, z_ofN, z_m1, z_ltm1, z_m1lt, z_eqm1, z_m1eq, z_m1le, z_lem1, z_beq, nI_0_1, nI_m1lt0, nI_0lem1, not_false_eq_true, not_true_eq_false, forall_const, false_implies, true_implies, implies_true, false_and, and_false, mrg, renc, tra, trv, sg, List.map_cons, List.map_nil, Option.map_some, Option.map_none, Option.toList_some, Option.toList_none, List.cons_append, List.nil_append, List.length_cons, List.length_nil, eL, mL_88, f1, f2]
    exact hf
