/-! RowCounter.stepOn: the outer loop -/
def tauX : Nat → Nat := fun j => if j = 1 then 2 else if j = 2 then 1 else j
section ON2
variable (na : Nat) (wa : Nat → Int32) (c : Nat → Nat) (p : Int64)
set_option maxRecDepth 100000 in
theorem l_on2 {G : aG} (hc : ∀ m, c m < 2 ^ 31) (hna : na < 2 ^ 20) (βF : bS) (hF : βF.1.2.1.1.length ≤ 2 ^ 14) (hd : 7 ≤ gD G) (ggn : gN G = 21) (ggm : gM G = mvC) (kn : Nat) (hkn : kn ≤ na)
    (hret : ∀ Z' wb' k' n', onJ p βF Z' wb' → k' ≤ gC G → n' ≤ gS G → RET G none (.inr (6, [.ref 2, .ref 1]) :: .inl (1, na, .inl wa) :: .inl (1, βF.2.1, .inl wb') :: mHB 3 Z') k' n') :
    ∀ (R : List Nat) (s : Nat) (β : bS) (Z : PS × MS) (wb : Nat → Int32) (k0 n0 : Nat), s + R.length = kn → (∀ (i m : Nat), R[i]? = some m → β.1.2.1.1[s + i]? = some m ∧ wa (s + i) = nI (c m)) → onJ p β Z wb → soL p c R β = βF → k0 + kC2 βF ≤ gC G + kC2 β → n0 + kS2 βF ≤ gS G + kS2 β →
    AW 70 G 23 [some (.ref 0), some (.ref 3), some (.int (nI kn)), some (.int (nI s)), none, none] [] (cH na wa β.2.1 wb Z) k0 n0 := by
  intro R
  induction R with
  | nil =>
    intro s β Z wb k0 n0 hs hR hJ hso hk hn
    have hso2 : β = βF := hso
    subst hso2
    have t1 : kn ≤ s := by
      rw [List.length_nil] at hs
      omega
    have hkn2 : kn < 2 ^ 31 := by omega
    have hs2 : s < 2 ^ 31 := by
      rw [List.length_nil] at hs
      omega
    refine wq_aw (S := fun x => x == 23 || x == 31 || x == 108) (by decide) (f := 200) ?_
    simp (disch := first | exact rfl | decide | omega) only [v_70_23, v_70_31, u_70_0, u_70_1, u_70_4, u_70_5, u_70_8, u_70_9, u_70_12, u_70_13, u_70_16, u_70_17, u_70_20, u_70_21, u_70_22, u_70_23, u_70_24, u_70_25, u_70_28, u_70_29, u_70_31, u_70_33, u_70_35, u_70_38, u_70_39, u_70_42, u_70_43, u_70_44, u_70_47, u_70_48, u_70_49, u_70_51, u_70_54, u_70_56, u_70_58, u_70_59, u_70_62, u_70_63, u_70_66, u_70_67, u_70_68, u_70_71, u_70_72, u_70_74, u_70_75, u_70_78, u_70_81, u_70_83, u_70_86, u_70_87, u_70_90, u_70_92, u_70_93, u_70_94, u_70_95, u_70_98, u_70_99, u_70_100, u_70_101, u_70_102, u_70_105, u_70_108, u_70_111, u_70_114, u_70_115, u_70_118, u_70_119, u_70_120, u_70_121, u_70_124, u_70_127, u_70_128, u_70_129, u_70_132, wp_stop, lget, lput1, lput2, kil, hget, hset, vget, vset, fget, fgetC, fput, fputC, iget, igetC, jget, jgetC, qget, qgetC, alen, lenC, oI, oJ, oF, oA, oV, oH, oInc, oIld, oJld, oQld, oR, oLen, oIst, oBst, oJst, oQst, ciOf, rcv, oCp, cat1, cond_true, cond_false, Bool.and_self, Bool.and_true, Bool.true_and, Bool.or_true, Bool.true_or, Bool.or_false, Bool.false_or, Bool.not_false, Bool.not_true, ↓reduceIte, Nat.reduceBEq, Nat.reduceEqDiff, beq_self_eq_true, true_and, and_true, eq_self_iff_true, Nat.reduceAdd, Nat.blt, Nat.ble, z_le, z_lt, z_eq, z_cl, z_add, z_sub, z_mul, z_in, z_lt0, z_ofN, z_m1, z_ltm1, z_m1lt, z_eqm1, z_m1eq, z_m1le, z_lem1, z_beq, nI_0_1, nI_m1lt0, nI_0lem1, not_false_eq_true, not_true_eq_false, forall_const, false_implies, true_implies, implies_true, false_and, and_false, mrg, renc, tra, trv, sg, List.map_cons, List.map_nil, Option.map_some, Option.map_none, Option.toList_some, Option.toList_none, List.cons_append, List.nil_append, List.length_cons, List.length_nil, cH, cF, t1]
    exact hret Z wb k0 n0 hJ (by omega) (by omega)
  | cons m R ih =>
    intro s β Z wb k0 n0 hs hR hJ hso hk hn
    rw [List.length_cons] at hs
    have t1 : ¬ kn ≤ s := by omega
    have hkn2 : kn < 2 ^ 31 := by omega
    obtain ⟨hm, hws⟩ := hR 0 m rfl
    rw [Nat.add_zero] at hm hws
    have hok := zR_A hJ.1
    have hx := soX_le (p := p) (c := c) (m := m) 8 hok
    have hl := soL_le (p := p) (c := c) R hx.2
    have hso2 : soL p c R (soX p c m 8 β) = βF := hso
    rw [hso2] at hl
    have h1 := l_on1 na wa c p m s kn (hc m) (by omega) hna hws βF hF hd ggn ggm (by omega) 8 β Z wb k0 n0 (Nat.le_refl _) hJ hm hl.1 hk hn (fun Z' wb' k' n' hJ' hk' hn' => by
      have hs3 : s < 2 ^ 31 := by omega
      have h2 := ih (s + 1) (soX p c m 8 β) Z' wb' k' n' (by omega) (fun i y hy => by
        obtain ⟨a1, a2⟩ := hR (i + 1) y hy
        rw [show s + (i + 1) = s + 1 + i by omega] at a1 a2
        exact ⟨hx.1.2.2.1 _ _ a1, a2⟩) hJ' hso2 hk' hn'
      refine wp_aw (S := fun x => x == 23 || x == 31) (by decide) 200 _ _ _ _ _ _ ?_
      simp (disch := first | exact rfl | decide | omega) only [u_70_0, u_70_1, u_70_4, u_70_5, u_70_8, u_70_9, u_70_12, u_70_13, u_70_16, u_70_17, u_70_20, u_70_21, u_70_22, u_70_23, u_70_24, u_70_25, u_70_28, u_70_29, u_70_31, u_70_33, u_70_35, u_70_38, u_70_39, u_70_42, u_70_43, u_70_44, u_70_47, u_70_48, u_70_49, u_70_51, u_70_54, u_70_56, u_70_58, u_70_59, u_70_62, u_70_63, u_70_66, u_70_67, u_70_68, u_70_71, u_70_72, u_70_74, u_70_75, u_70_78, u_70_81, u_70_83, u_70_86, u_70_87, u_70_90, u_70_92, u_70_93, u_70_94, u_70_95, u_70_98, u_70_99, u_70_100, u_70_101, u_70_102, u_70_105, u_70_108, u_70_111, u_70_114, u_70_115, u_70_118, u_70_119, u_70_120, u_70_121, u_70_124, u_70_127, u_70_128, u_70_129, u_70_132, wp_stop, lget, lput1, lput2, kil, hget, hset, vget, vset, fget, fgetC, fput, fputC, iget, igetC, jget, jgetC, qget, qgetC, alen, lenC, oI, oJ, oF, oA, oV, oH, oInc, oIld, oJld, oQld, oR, oLen, oIst, oBst, oJst, oQst, ciOf, rcv, oCp, cat1, cond_true, cond_false, Bool.and_self, Bool.and_true, Bool.true_and, Bool.or_true, Bool.true_or, Bool.or_false, Bool.false_or, Bool.not_false, Bool.not_true, ↓reduceIte, Nat.reduceBEq, Nat.reduceEqDiff, beq_self_eq_true, true_and, and_true, eq_self_iff_true, Nat.reduceAdd, Nat.blt, Nat.ble, z_le, z_lt, z_eq, z_cl, z_add, z_sub, z_mul, z_in, z_lt0, z_ofN, z_m1, z_ltm1, z_m1lt, z_eqm1, z_m1eq, z_m1le, z_lem1, z_beq, nI_0_1, nI_m1lt0, nI_0lem1, not_false_eq_true, not_true_eq_false, forall_const, false_implies, true_implies, implies_true, false_and, and_false, mrg, renc, tra, trv, sg, List.map_cons, List.map_nil, Option.map_some, Option.map_none, Option.toList_some, Option.toList_none, List.cons_append, List.nil_append, List.length_cons, List.length_nil, cH, cF]
      exact h2)
    have e0 : 8 - 8 = 0 := rfl
    rw [e0] at h1
    refine wq_aw (S := fun x => x == 23 || x == 31 || x == 108) (by decide) (f := 200) ?_
    simp (disch := first | exact rfl | decide | omega) only [v_70_23, v_70_31, u_70_0, u_70_1, u_70_4, u_70_5, u_70_8, u_70_9, u_70_12, u_70_13, u_70_16, u_70_17, u_70_20, u_70_21, u_70_22, u_70_23, u_70_24, u_70_25, u_70_28, u_70_29, u_70_31, u_70_33, u_70_35, u_70_38, u_70_39, u_70_42, u_70_43, u_70_44, u_70_47, u_70_48, u_70_49, u_70_51, u_70_54, u_70_56, u_70_58, u_70_59, u_70_62, u_70_63, u_70_66, u_70_67, u_70_68, u_70_71, u_70_72, u_70_74, u_70_75, u_70_78, u_70_81, u_70_83, u_70_86, u_70_87, u_70_90, u_70_92, u_70_93, u_70_94, u_70_95, u_70_98, u_70_99, u_70_100, u_70_101, u_70_102, u_70_105, u_70_108, u_70_111, u_70_114, u_70_115, u_70_118, u_70_119, u_70_120, u_70_121, u_70_124, u_70_127, u_70_128, u_70_129, u_70_132, wp_stop, lget, lput1, lput2, kil, hget, hset, vget, vset, fget, fgetC, fput, fputC, iget, igetC, jget, jgetC, qget, qgetC, alen, lenC, oI, oJ, oF, oA, oV, oH, oInc, oIld, oJld, oQld, oR, oLen, oIst, oBst, oJst, oQst, ciOf, rcv, oCp, cat1, cond_true, cond_false, Bool.and_self, Bool.and_true, Bool.true_and, Bool.or_true, Bool.true_or, Bool.or_false, Bool.false_or, Bool.not_false, Bool.not_true, ↓reduceIte, Nat.reduceBEq, Nat.reduceEqDiff, beq_self_eq_true, true_and, and_true, eq_self_iff_true, Nat.reduceAdd, Nat.blt, Nat.ble, z_le, z_lt, z_eq, z_cl, z_add, z_sub, z_mul, z_in, z_lt0, z_ofN, z_m1, z_ltm1, z_m1lt, z_eqm1, z_m1eq, z_m1le, z_lem1, z_beq, nI_0_1, nI_m1lt0, nI_0lem1, not_false_eq_true, not_true_eq_false, forall_const, false_implies, true_implies, implies_true, false_and, and_false, mrg, renc, tra, trv, sg, List.map_cons, List.map_nil, Option.map_some, Option.map_none, Option.toList_some, Option.toList_none, List.cons_append, List.nil_append, List.length_cons, List.length_nil, cH, cF, t1]
    exact h1
set_option maxRecDepth 100000 in
theorem c_stepOn (d nb : Nat) (wb : Nat → Int32) {Z : PS × MS} {α : aZ} (h : zR Z α) (hp : α.1 = p) (hc : ∀ m, c m < 2 ^ 31) (hw : wOK α.2.1.1 c na wa) (hna : na < 2 ^ 20) (h16 : 16 ≤ nb) (h15 : nb ≤ 2 ^ 15) (hF : (soL p c (α.2.1.1.take na) (α, nb, fun _ => 0)).1.2.1.1.length ≤ 2 ^ 14) :
    aSp (d + 7) 70 [.ref 0, .ref 3] (cH na wa nb wb Z) mvC (kC2 (soL p c (α.2.1.1.take na) (α, nb, fun _ => 0)) - kC2 (α, nb, fun _ => 0)) (kS2 (soL p c (α.2.1.1.take na) (α, nb, fun _ => 0)) - kS2 (α, nb, fun _ => 0))
      (fun r h' => r = none ∧ ∃ wa' Z', h' = cH (soL p c (α.2.1.1.take na) (α, nb, fun _ => 0)).2.1 wa' na wa Z' ∧ onJ p (soL p c (α.2.1.1.take na) (α, nb, fun _ => 0)) Z' wa') := by
  have hok := zR_A h
  have hle := (soL_le (p := p) (c := c) (α.2.1.1.take na) (β := (α, nb, fun _ => 0)) hok).1
  have hk14 : α.2.1.1.length ≤ 2 ^ 14 := (zR_f h).2.2.2
  generalize hβ : soL p c (α.2.1.1.take na) (α, nb, fun _ => 0) = βF at *
  refine sp_of (by decide) (Nat.le_of_ble_eq_true rfl) ?_
  generalize hG : ((d + 7, _, mvC, _, _, _) : aG) = G
  have ggd : gD G = d + 7 := by subst hG; rfl
  have ggn : gN G = 21 := by subst hG; rfl
  have ggm : gM G = mvC := by subst hG; rfl
  have ggc : gC G = kC2 βF - kC2 (α, nb, fun _ => 0) := by subst hG; rfl
  have ggs : gS G = kS2 βF - kS2 (α, nb, fun _ => 0) := by subst hG; rfl
  have hgp : gP G = (fun r h' => r = none ∧ ∃ wa' Z', h' = cH βF.2.1 wa' na wa Z' ∧ onJ p βF Z' wa') := by subst hG; rfl
  clear hG
  have hl1 := hle.1
  have hl2 := hle.2.1
  have hk : Z.2.known = nI α.2.1.1.length := (zR_f h).1
  have hmn : (if α.2.1.1.length ≤ na then nI α.2.1.1.length else nI na) = nI (α.2.1.1.take na).length := by
    rw [List.length_take]
    split
    · rw [Nat.min_eq_right (by assumption)]
    · rw [Nat.min_eq_left (by omega)]
  refine wp_aw (S := fun x => x == 23 || x == 31 || x == 108) (by decide) 200 _ _ _ _ _ _ ?_
  simp (disch := first | exact rfl | decide | omega) only [u_70_0, u_70_1, u_70_4, u_70_5, u_70_8, u_70_9, u_70_12, u_70_13, u_70_16, u_70_17, u_70_20, u_70_21, u_70_22, u_70_23, u_70_24, u_70_25, u_70_28, u_70_29, u_70_31, u_70_33, u_70_35, u_70_38, u_70_39, u_70_42, u_70_43, u_70_44, u_70_47, u_70_48, u_70_49, u_70_51, u_70_54, u_70_56, u_70_58, u_70_59, u_70_62, u_70_63, u_70_66, u_70_67, u_70_68, u_70_71, u_70_72, u_70_74, u_70_75, u_70_78, u_70_81, u_70_83, u_70_86, u_70_87, u_70_90, u_70_92, u_70_93, u_70_94, u_70_95, u_70_98, u_70_99, u_70_100, u_70_101, u_70_102, u_70_105, u_70_108, u_70_111, u_70_114, u_70_115, u_70_118, u_70_119, u_70_120, u_70_121, u_70_124, u_70_127, u_70_128, u_70_129, u_70_132, wp_stop, lget, lput1, lput2, kil, hget, hset, vget, vset, fget, fgetC, fput, fputC, iget, igetC, jget, jgetC, qget, qgetC, alen, lenC, oI, oJ, oF, oA, oV, oH, oInc, oIld, oJld, oQld, oR, oLen, oIst, oBst, oJst, oQst, ciOf, rcv, oCp, cat1, cond_true, cond_false, Bool.and_self, Bool.and_true, Bool.true_and, Bool.or_true, Bool.true_or, Bool.or_false, Bool.false_or, Bool.not_false, Bool.not_true, ↓reduceIte, Nat.reduceBEq, Nat.reduceEqDiff, beq_self_eq_true, true_and, and_true, eq_self_iff_true, Nat.reduceAdd, Nat.blt, Nat.ble, z_le, z_lt, z_eq, z_cl, z_add, z_sub, z_mul, z_in, z_lt0, z_ofN, z_m1, z_ltm1, z_m1lt, z_eqm1, z_m1eq, z_m1le, z_lem1, z_beq, nI_0_1, nI_m1lt0, nI_0lem1, not_false_eq_true, not_true_eq_false, forall_const, false_implies, true_implies, implies_true, false_and, and_false, mrg, renc, tra, trv, sg, List.map_cons, List.map_nil, Option.map_some, Option.map_none, Option.toList_some, Option.toList_none, List.cons_append, List.nil_append, List.length_cons, List.length_nil, eL, mL_70, cH, cF, mHB_0, mO]
  refine CAL.nm (c_fillI d (nI 0) nb wb (by omega)) [2] rfl rfl rfl (by decide) rfl ?_ (by rw [ggd]; omega) (by rw [ggc]; omega) (by rw [ggs]; omega) (Nat.le_of_ble_eq_true rfl) (by rw [ggn]; exact Nat.le_of_ble_eq_true rfl) rfl rfl ?_
  · rintro r hc' ⟨-, g, rfl, -⟩
    exact Nat.le_of_ble_eq_true rfl
  rintro _ _ ⟨rfl, g, rfl, hg⟩
  simp (disch := first | exact rfl | decide | omega) only [u_70_0, u_70_1, u_70_4, u_70_5, u_70_8, u_70_9, u_70_12, u_70_13, u_70_16, u_70_17, u_70_20, u_70_21, u_70_22, u_70_23, u_70_24, u_70_25, u_70_28, u_70_29, u_70_31, u_70_33, u_70_35, u_70_38, u_70_39, u_70_42, u_70_43, u_70_44, u_70_47, u_70_48, u_70_49, u_70_51, u_70_54, u_70_56, u_70_58, u_70_59, u_70_62, u_70_63, u_70_66, u_70_67, u_70_68, u_70_71, u_70_72, u_70_74, u_70_75, u_70_78, u_70_81, u_70_83, u_70_86, u_70_87, u_70_90, u_70_92, u_70_93, u_70_94, u_70_95, u_70_98, u_70_99, u_70_100, u_70_101, u_70_102, u_70_105, u_70_108, u_70_111, u_70_114, u_70_115, u_70_118, u_70_119, u_70_120, u_70_121, u_70_124, u_70_127, u_70_128, u_70_129, u_70_132, wp_stop, lget, lput1, lput2, kil, hget, hset, vget, vset, fget, fgetC, fput, fputC, iget, igetC, jget, jgetC, qget, qgetC, alen, lenC, oI, oJ, oF, oA, oV, oH, oInc, oIld, oJld, oQld, oR, oLen, oIst, oBst, oJst, oQst, ciOf, rcv, oCp, cat1, cond_true, cond_false, Bool.and_self, Bool.and_true, Bool.true_and, Bool.or_true, Bool.true_or, Bool.or_false, Bool.false_or, Bool.not_false, Bool.not_true, ↓reduceIte, Nat.reduceBEq, Nat.reduceEqDiff, beq_self_eq_true, true_and, and_true, eq_self_iff_true, Nat.reduceAdd, Nat.blt, Nat.ble, z_le, z_lt, z_eq, z_cl, z_add, z_sub, z_mul, z_in, z_lt0, z_ofN, z_m1, z_ltm1, z_m1lt, z_eqm1, z_m1eq, z_m1le, z_lem1, z_beq, nI_0_1, nI_m1lt0, nI_0lem1, not_false_eq_true, not_true_eq_false, forall_const, false_implies, true_implies, implies_true, false_and, and_false, mrg, renc, tra, trv, sg, List.map_cons, List.map_nil, Option.map_some, Option.map_none, Option.toList_some, Option.toList_none, List.cons_append, List.nil_append, List.length_cons, List.length_nil, mHB_0, mO, List.append_nil, hk]
  refine CAL.dir (c_min d _ _ _) (by rw [ggd]; omega) (by rw [ggc]; omega) (by rw [ggs]; omega) (Nat.le_of_ble_eq_true rfl) (by rw [ggn]; exact Nat.le_of_ble_eq_true rfl) rfl rfl ?_
  rintro _ _ ⟨rfl, rfl⟩
  simp (disch := first | exact rfl | decide | omega) only [u_70_0, u_70_1, u_70_4, u_70_5, u_70_8, u_70_9, u_70_12, u_70_13, u_70_16, u_70_17, u_70_20, u_70_21, u_70_22, u_70_23, u_70_24, u_70_25, u_70_28, u_70_29, u_70_31, u_70_33, u_70_35, u_70_38, u_70_39, u_70_42, u_70_43, u_70_44, u_70_47, u_70_48, u_70_49, u_70_51, u_70_54, u_70_56, u_70_58, u_70_59, u_70_62, u_70_63, u_70_66, u_70_67, u_70_68, u_70_71, u_70_72, u_70_74, u_70_75, u_70_78, u_70_81, u_70_83, u_70_86, u_70_87, u_70_90, u_70_92, u_70_93, u_70_94, u_70_95, u_70_98, u_70_99, u_70_100, u_70_101, u_70_102, u_70_105, u_70_108, u_70_111, u_70_114, u_70_115, u_70_118, u_70_119, u_70_120, u_70_121, u_70_124, u_70_127, u_70_128, u_70_129, u_70_132, wp_stop, lget, lput1, lput2, kil, hget, hset, vget, vset, fget, fgetC, fput, fputC, iget, igetC, jget, jgetC, qget, qgetC, alen, lenC, oI, oJ, oF, oA, oV, oH, oInc, oIld, oJld, oQld, oR, oLen, oIst, oBst, oJst, oQst, ciOf, rcv, oCp, cat1, cond_true, cond_false, Bool.and_self, Bool.and_true, Bool.true_and, Bool.or_true, Bool.true_or, Bool.or_false, Bool.false_or, Bool.not_false, Bool.not_true, ↓reduceIte, Nat.reduceBEq, Nat.reduceEqDiff, beq_self_eq_true, true_and, and_true, eq_self_iff_true, Nat.reduceAdd, Nat.blt, Nat.ble, z_le, z_lt, z_eq, z_cl, z_add, z_sub, z_mul, z_in, z_lt0, z_ofN, z_m1, z_ltm1, z_m1lt, z_eqm1, z_m1eq, z_m1le, z_lem1, z_beq, nI_0_1, nI_m1lt0, nI_0lem1, not_false_eq_true, not_true_eq_false, forall_const, false_implies, true_implies, implies_true, false_and, and_false, mrg, renc, tra, trv, sg, List.map_cons, List.map_nil, Option.map_some, Option.map_none, Option.toList_some, Option.toList_none, List.cons_append, List.nil_append, List.length_cons, List.length_nil, hmn]
  have hfin := l_on2 (G := G) na wa c p hc hna βF hF (by rw [ggd]; omega) ggn ggm (α.2.1.1.take na).length (by rw [List.length_take]; omega) (fun Z' wb' k' n' hJ hk' hn' => by
    refine RET.ren tauX (cH βF.2.1 wb' na wa Z') none rfl (show ((List.range 21).map tauX).Nodup by decide) ?_ rfl ?_ hk' hn'
    · intro i h1 h2
      rw [ggm] at h2
      simp only [mvC, Bool.or_eq_false_iff, beq_eq_false_iff_ne] at h2
      simp only [tauX, if_neg h2.1.1, if_neg h2.1.2]
    · rw [hgp]
      exact ⟨rfl, wb', Z', rfl, hJ⟩) (α.2.1.1.take na) 0 (α, nb, fun _ => 0) Z g 0 0 (by omega) (fun i m hi => by
        have hi2 := gget_lt hi
        rw [List.length_take] at hi2
        rw [List.getElem?_take_of_lt (by omega)] at hi
        rw [Nat.zero_add]
        refine ⟨hi, ?_⟩
        rw [hw i (by omega), hi]) ⟨h, hp, fun i hi => by
          rw [hg i hi]
          show nI 0 = nI (match α.2.1.1[i]? with | some m => 0 | none => 0)
          split <;> rfl, fun m hm => absurd rfl hm, h16, h15⟩ hβ (by rw [ggc]; omega) (by rw [ggs]; omega)
  exact hfin
end ON2
