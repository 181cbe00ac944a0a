/-! ResidualJudge.digest -/
theorem okL_d {o n : Nat} (ho : o < 9) {a b c e : Value} (ha : okV 193 nomv a = true) (hb : okV 193 nomv b = true) (hc : okV 193 nomv c = true) (he : okV 193 nomv e = true) (hn : n = 193) : okL n nomv [some a, some b, none, some c, some (.ref (31 + 18 * o)), some e] = true := by
  subst hn
  have hb1 : Nat.blt (31 + 18 * o) 193 = true := by rw [Nat.blt_eq]; omega
  have hr : okV 193 nomv (.ref (31 + 18 * o)) = true := by
    simp only [okV, hb1, nomv]
    rfl
  simp only [okL, ha, hb, hc, he, hr]
  rfl
theorem okL_e {o n : Nat} (ho : o < 9) {a b c e : Value} (ha : okV 193 jv a = true) (hb : okV 193 jv b = true) (hc : okV 193 jv c = true) (he : okV 193 jv e = true) (hn : n = 193) : okL n jv [some a, some b, none, some c, some (.ref (31 + 18 * o)), some e] = true := by
  subst hn
  have hb1 : Nat.blt (31 + 18 * o) 193 = true := by rw [Nat.blt_eq]; omega
  have hb2 : jv (31 + 18 * o) = false := by
    simp only [jv, mvI_0, Bool.or_false, Bool.or_eq_false_iff, beq_eq_false_iff_ne]
    omega
  have hr : okV 193 jv (.ref (31 + 18 * o)) = true := by
    simp only [okV, hb1, hb2]
    rfl
  simp only [okL, ha, hb, hc, he, hr]
  rfl
section DG
variable {G : aG} (hF : Int64)
set_option maxRecDepth 100000 in
theorem l_dg4 (J : jS) (PM : Nat → PS × MS) (o : Nat) (row : List Nat) (hR : rwJ J.2.2.1 o row) (k n : Nat) (hret : RET G (some (.long hF)) (jH J PM) k n) :
    ∀ (xs : List Nat) (i : Nat) (h : Int64), row.drop i = xs → i + xs.length = row.length → dgF h (xs.map nI) = hF → AW 99 G 157 [some (.ref 0), some (.long h), none, some (.int (nI i)), none, none] [] (jH J PM) k n := by
  obtain ⟨ho, hl, e1, e2, hrw⟩ := hR
  intro xs
  induction xs with
  | nil =>
    intro i h hdr hi hh
    rw [List.length_nil] at hi
    have t1 : row.length ≤ i := by omega
    have hh2 : h = hF := hh
    rw [← hh2] at hret
    refine wq_aw (S := fun x => x == 157) (by decide) (f := 200) ?_
    simp (disch := first | exact rfl | decide | omega) only [v_99_6, v_99_32, v_99_51, v_99_92, v_99_131, v_99_157, u_99_0, u_99_3, u_99_4, u_99_5, u_99_6, u_99_7, u_99_8, u_99_11, u_99_14, u_99_15, u_99_16, u_99_17, u_99_18, u_99_21, u_99_22, u_99_23, u_99_24, u_99_27, u_99_30, u_99_31, u_99_32, u_99_33, u_99_35, u_99_38, u_99_39, u_99_42, u_99_43, u_99_46, u_99_48, u_99_49, u_99_51, u_99_53, u_99_54, u_99_57, u_99_60, u_99_61, u_99_62, u_99_64, u_99_66, u_99_69, u_99_70, u_99_71, u_99_72, u_99_75, u_99_78, u_99_79, u_99_82, u_99_84, u_99_85, u_99_88, u_99_89, u_99_90, u_99_92, u_99_94, u_99_95, u_99_98, u_99_101, u_99_102, u_99_103, u_99_104, u_99_107, u_99_109, u_99_111, u_99_114, u_99_115, u_99_116, u_99_117, u_99_120, u_99_123, u_99_126, u_99_129, u_99_130, u_99_131, u_99_132, u_99_133, u_99_136, u_99_139, u_99_140, u_99_141, u_99_142, u_99_143, u_99_146, u_99_147, u_99_148, u_99_149, u_99_152, u_99_155, u_99_156, u_99_157, u_99_158, u_99_159, u_99_162, u_99_165, u_99_168, u_99_169, u_99_171, u_99_174, u_99_177, u_99_178, u_99_179, u_99_180, u_99_183, u_99_186, u_99_187, u_99_188, u_99_189, u_99_190, u_99_191, u_99_194, u_99_197, u_99_198, wp_stop, lget, lput1, lput2, kil, hget, hset, vget, vset, fget, fgetC, fput, fputC, iget, igetC, jget, jgetC, qget, qgetC, alen, lenC, oI, oJ, oF, oA, oV, oH, oInc, oIld, oJld, oQld, oR, oLen, oIst, oBst, oJst, oQst, ciOf, rcv, oCp, cat1, cond_true, cond_false, Bool.and_self, Bool.and_true, Bool.true_and, Bool.or_true, Bool.true_or, Bool.or_false, Bool.false_or, Bool.not_false, Bool.not_true, ↓reduceIte, Nat.reduceBEq, Nat.reduceEqDiff, beq_self_eq_true, true_and, and_true, eq_self_iff_true, Nat.reduceAdd, Nat.blt, Nat.ble, z_le, z_lt, z_eq, z_cl, z_add, z_sub, z_mul, z_in, z_lt0, z_ofN, z_m1, z_ltm1, z_m1lt, z_eqm1, z_m1eq, z_m1le, z_lem1, z_beq, nI_0_1, nI_m1lt0, nI_0lem1, not_false_eq_true, not_true_eq_false, forall_const, false_implies, true_implies, implies_true, false_and, and_false, mrg, renc, tra, trv, sg, List.map_cons, List.map_nil, Option.map_some, Option.map_none, Option.toList_some, Option.toList_none, List.cons_append, List.nil_append, List.length_cons, List.length_nil, jH, jF, e1, t1]
    rw [← e1]
    exact hret
  | cons x xs ih =>
    intro i h hdr hi hh
    rw [List.length_cons] at hi
    have hx : row[i]? = some x := by
      have := congrArg (fun z : List Nat => z[0]?) hdr
      simpa using this
    have hdr2 : row.drop (i + 1) = xs := by
      rw [← List.drop_drop, hdr]
      rfl
    have e3 := hrw i x hx
    have t1 : ¬ row.length ≤ i := by omega
    have t2 : ¬ 20 ≤ i := by omega
    have t3 : i < 20 := by omega
    have hgo := ih (i + 1) (lN 31 * h + (nI x).toInt64) hdr2 (by omega) hh
    clear ih hret
    refine wq_aw (S := fun x => x == 157) (by decide) (f := 200) ?_
    simp (disch := first | exact rfl | decide | omega) only [v_99_6, v_99_32, v_99_51, v_99_92, v_99_131, v_99_157, u_99_0, u_99_3, u_99_4, u_99_5, u_99_6, u_99_7, u_99_8, u_99_11, u_99_14, u_99_15, u_99_16, u_99_17, u_99_18, u_99_21, u_99_22, u_99_23, u_99_24, u_99_27, u_99_30, u_99_31, u_99_32, u_99_33, u_99_35, u_99_38, u_99_39, u_99_42, u_99_43, u_99_46, u_99_48, u_99_49, u_99_51, u_99_53, u_99_54, u_99_57, u_99_60, u_99_61, u_99_62, u_99_64, u_99_66, u_99_69, u_99_70, u_99_71, u_99_72, u_99_75, u_99_78, u_99_79, u_99_82, u_99_84, u_99_85, u_99_88, u_99_89, u_99_90, u_99_92, u_99_94, u_99_95, u_99_98, u_99_101, u_99_102, u_99_103, u_99_104, u_99_107, u_99_109, u_99_111, u_99_114, u_99_115, u_99_116, u_99_117, u_99_120, u_99_123, u_99_126, u_99_129, u_99_130, u_99_131, u_99_132, u_99_133, u_99_136, u_99_139, u_99_140, u_99_141, u_99_142, u_99_143, u_99_146, u_99_147, u_99_148, u_99_149, u_99_152, u_99_155, u_99_156, u_99_157, u_99_158, u_99_159, u_99_162, u_99_165, u_99_168, u_99_169, u_99_171, u_99_174, u_99_177, u_99_178, u_99_179, u_99_180, u_99_183, u_99_186, u_99_187, u_99_188, u_99_189, u_99_190, u_99_191, u_99_194, u_99_197, u_99_198, wp_stop, lget, lput1, lput2, kil, hget, hset, vget, vset, fget, fgetC, fput, fputC, iget, igetC, jget, jgetC, qget, qgetC, alen, lenC, oI, oJ, oF, oA, oV, oH, oInc, oIld, oJld, oQld, oR, oLen, oIst, oBst, oJst, oQst, ciOf, rcv, oCp, cat1, cond_true, cond_false, Bool.and_self, Bool.and_true, Bool.true_and, Bool.or_true, Bool.true_or, Bool.or_false, Bool.false_or, Bool.not_false, Bool.not_true, ↓reduceIte, Nat.reduceBEq, Nat.reduceEqDiff, beq_self_eq_true, true_and, and_true, eq_self_iff_true, Nat.reduceAdd, Nat.blt, Nat.ble, z_le, z_lt, z_eq, z_cl, z_add, z_sub, z_mul, z_in, z_lt0, z_ofN, z_m1, z_ltm1, z_m1lt, z_eqm1, z_m1eq, z_m1le, z_lem1, z_beq, nI_0_1, nI_m1lt0, nI_0lem1, not_false_eq_true, not_true_eq_false, forall_const, false_implies, true_implies, implies_true, false_and, and_false, mrg, renc, tra, trv, sg, List.map_cons, List.map_nil, Option.map_some, Option.map_none, Option.toList_some, Option.toList_none, List.cons_append, List.nil_append, List.length_cons, List.length_nil, jH, jF, e1, t1, t2, e3]
    rw [← e1]
    exact hgo
set_option maxRecDepth 100000 in
theorem l_dg3 (J : jS) (p : Int64) (o : Nat) (row : List Nat) (hR : rwJ J.2.2.1 o row) (hL : rowL p 1 row) (vF : aV) (h14 : (vF.1 o).2.1.1.length ≤ 2 ^ 14) (ggd : 10 ≤ gD G) (ggn : gN G = 193) (ggm : gM G = jv)
    (hret : ∀ PM' k' n', jY PM' vF.1 → k' ≤ gC G → n' ≤ gS G → RET G (some (.long hF)) (jH J PM') k' n') :
    ∀ (j w : Nat) (h : Int64) (v : aV) (PM : Nat → PS × MS) (k n : Nat), w + j = 4 → jY PM v.1 → okW v → (v.1 o).1 = p → orL o row j v = vF → k + VC vF ≤ gC G + VC v → n + VS vF ≤ gS G + VS v → dgF h ((List.range' w j).map (orA p o row) ++ row.map nI) = hF →
    AW 99 G 131 [some (.ref 0), some (.long h), none, some (.int (nI w)), none, none] [] (jH J PM) k n := by
  have ho := hR.1
  intro j
  induction j with
  | zero =>
    intro w h v PM k n hj hy hok hp hv hk hn hh
    have e1 : w = 4 := by omega
    subst e1
    have e2 : v = vF := hv
    subst e2
    have hf := l_dg4 hF J PM o row hR k n (hret PM k n hy (by omega) (by omega)) row 0 h rfl (by omega) hh
    clear hret
    refine wq_aw (S := fun x => x == 131 || x == 157) (by decide) (f := 200) ?_
    simp (disch := first | exact rfl | decide | omega) only [v_99_6, v_99_32, v_99_51, v_99_92, v_99_131, v_99_157, u_99_0, u_99_3, u_99_4, u_99_5, u_99_6, u_99_7, u_99_8, u_99_11, u_99_14, u_99_15, u_99_16, u_99_17, u_99_18, u_99_21, u_99_22, u_99_23, u_99_24, u_99_27, u_99_30, u_99_31, u_99_32, u_99_33, u_99_35, u_99_38, u_99_39, u_99_42, u_99_43, u_99_46, u_99_48, u_99_49, u_99_51, u_99_53, u_99_54, u_99_57, u_99_60, u_99_61, u_99_62, u_99_64, u_99_66, u_99_69, u_99_70, u_99_71, u_99_72, u_99_75, u_99_78, u_99_79, u_99_82, u_99_84, u_99_85, u_99_88, u_99_89, u_99_90, u_99_92, u_99_94, u_99_95, u_99_98, u_99_101, u_99_102, u_99_103, u_99_104, u_99_107, u_99_109, u_99_111, u_99_114, u_99_115, u_99_116, u_99_117, u_99_120, u_99_123, u_99_126, u_99_129, u_99_130, u_99_131, u_99_132, u_99_133, u_99_136, u_99_139, u_99_140, u_99_141, u_99_142, u_99_143, u_99_146, u_99_147, u_99_148, u_99_149, u_99_152, u_99_155, u_99_156, u_99_157, u_99_158, u_99_159, u_99_162, u_99_165, u_99_168, u_99_169, u_99_171, u_99_174, u_99_177, u_99_178, u_99_179, u_99_180, u_99_183, u_99_186, u_99_187, u_99_188, u_99_189, u_99_190, u_99_191, u_99_194, u_99_197, u_99_198, wp_stop, lget, lput1, lput2, kil, hget, hset, vget, vset, fget, fgetC, fput, fputC, iget, igetC, jget, jgetC, qget, qgetC, alen, lenC, oI, oJ, oF, oA, oV, oH, oInc, oIld, oJld, oQld, oR, oLen, oIst, oBst, oJst, oQst, ciOf, rcv, oCp, cat1, cond_true, cond_false, Bool.and_self, Bool.and_true, Bool.true_and, Bool.or_true, Bool.true_or, Bool.or_false, Bool.false_or, Bool.not_false, Bool.not_true, ↓reduceIte, Nat.reduceBEq, Nat.reduceEqDiff, beq_self_eq_true, true_and, and_true, eq_self_iff_true, Nat.reduceAdd, Nat.blt, Nat.ble, z_le, z_lt, z_eq, z_cl, z_add, z_sub, z_mul, z_in, z_lt0, z_ofN, z_m1, z_ltm1, z_m1lt, z_eqm1, z_m1eq, z_m1le, z_lem1, z_beq, nI_0_1, nI_m1lt0, nI_0lem1, not_false_eq_true, not_true_eq_false, forall_const, false_implies, true_implies, implies_true, false_and, and_false, mrg, renc, tra, trv, sg, List.map_cons, List.map_nil, Option.map_some, Option.map_none, Option.toList_some, Option.toList_none, List.cons_append, List.nil_append, List.length_cons, List.length_nil, show (3 : Nat) < 4 by decide]
    exact hf
  | succ j ih =>
    intro w h v PM k n hj hy hok hp hv hk hn hh
    have e1 : 3 - j = w := by omega
    have hv2 : orL o row j (orW o row w v) = vF := by
      rw [← e1]
      exact hv
    obtain ⟨a1, a2⟩ := orW_le (w := w) (row := row) ho hok
    obtain ⟨b1, b2⟩ := orL_le (row := row) ho j a2
    rw [hv2] at b1
    have b0 := leW_tr a1 b1
    have hlen : w < 2 → (rowA (v.1 o) 1 row).1.2.1.1.length ≤ 2 ^ 14 := by
      intro q
      have c1 := (b1.2.2 o).1
      have c2 : (orW o row w v).1 o = (rowA (v.1 o) 1 row).1 := by
        show orV v.1 o row w o = _
        unfold orV
        rw [if_pos q, upN_s]
      rw [c2] at c1
      exact Nat.le_trans (extL_len c1) h14
    have hof := c_ofRow 0 w o (by omega) J PM v.1 row hR hy (by rw [hp]; exact hL) hlen
    rw [hp] at hof
    have g1 : VC (orW o row w v) = VC v + (fY yC (orV v.1 o row w) - fY yC v.1) := by
      have := (orV_le ho (hok o) row w).2
      show fY yC (orV v.1 o row w) + v.2.1 + v.2.2 = fY yC v.1 + v.2.1 + v.2.2 + _
      omega
    have g2 : VS (orW o row w v) = VS v + (fY yS (orV v.1 o row w) - fY yS v.1) := by
      have := (orV_le ho (hok o) row w).1
      show fY yS (orV v.1 o row w) + 2 * v.2.1 + 2 * v.2.2 = fY yS v.1 + 2 * v.2.1 + 2 * v.2.2 + _
      omega
    have w1 := b1.1
    have w2 := b1.2.1
    have hp2 : ((orW o row w v).1 o).1 = p := by
      rw [← (a1.2.2 o).2]
      exact hp
    have hgo : ∀ PM', jY PM' (orV v.1 o row w) → AW 99 G 131 [some (.ref 0), some (.long (lN 31 * h + (orA p o row w).toInt64)), none, some (.int (nI (w + 1))), none, none] [] (jH J PM') (k + (fY yC (orV v.1 o row w) - fY yC v.1)) (n + (fY yS (orV v.1 o row w) - fY yS v.1)) := fun PM' hy' => ih (w + 1) _ (orW o row w v) PM' _ _ (by omega) hy' a2 hp2 hv2 (by omega) (by omega) hh
    clear ih hret
    have t1 : ¬ 3 < w := by omega
    have cc : k + (fY yC (orV v.1 o row w) - fY yC v.1) ≤ gC G := by omega
    have cs : n + (fY yS (orV v.1 o row w) - fY yS v.1) ≤ gS G := by omega
    generalize orA p o row w = a at *
    refine wq_aw (S := fun x => x == 131 || x == 157) (by decide) (f := 200) ?_
    simp (disch := first | exact rfl | decide | omega) only [v_99_6, v_99_32, v_99_51, v_99_92, v_99_131, v_99_157, u_99_0, u_99_3, u_99_4, u_99_5, u_99_6, u_99_7, u_99_8, u_99_11, u_99_14, u_99_15, u_99_16, u_99_17, u_99_18, u_99_21, u_99_22, u_99_23, u_99_24, u_99_27, u_99_30, u_99_31, u_99_32, u_99_33, u_99_35, u_99_38, u_99_39, u_99_42, u_99_43, u_99_46, u_99_48, u_99_49, u_99_51, u_99_53, u_99_54, u_99_57, u_99_60, u_99_61, u_99_62, u_99_64, u_99_66, u_99_69, u_99_70, u_99_71, u_99_72, u_99_75, u_99_78, u_99_79, u_99_82, u_99_84, u_99_85, u_99_88, u_99_89, u_99_90, u_99_92, u_99_94, u_99_95, u_99_98, u_99_101, u_99_102, u_99_103, u_99_104, u_99_107, u_99_109, u_99_111, u_99_114, u_99_115, u_99_116, u_99_117, u_99_120, u_99_123, u_99_126, u_99_129, u_99_130, u_99_131, u_99_132, u_99_133, u_99_136, u_99_139, u_99_140, u_99_141, u_99_142, u_99_143, u_99_146, u_99_147, u_99_148, u_99_149, u_99_152, u_99_155, u_99_156, u_99_157, u_99_158, u_99_159, u_99_162, u_99_165, u_99_168, u_99_169, u_99_171, u_99_174, u_99_177, u_99_178, u_99_179, u_99_180, u_99_183, u_99_186, u_99_187, u_99_188, u_99_189, u_99_190, u_99_191, u_99_194, u_99_197, u_99_198, wp_stop, lget, lput1, lput2, kil, hget, hset, vget, vset, fget, fgetC, fput, fputC, iget, igetC, jget, jgetC, qget, qgetC, alen, lenC, oI, oJ, oF, oA, oV, oH, oInc, oIld, oJld, oQld, oR, oLen, oIst, oBst, oJst, oQst, ciOf, rcv, oCp, cat1, cond_true, cond_false, Bool.and_self, Bool.and_true, Bool.true_and, Bool.or_true, Bool.true_or, Bool.or_false, Bool.false_or, Bool.not_false, Bool.not_true, ↓reduceIte, Nat.reduceBEq, Nat.reduceEqDiff, beq_self_eq_true, true_and, and_true, eq_self_iff_true, Nat.reduceAdd, Nat.blt, Nat.ble, z_le, z_lt, z_eq, z_cl, z_add, z_sub, z_mul, z_in, z_lt0, z_ofN, z_m1, z_ltm1, z_m1lt, z_eqm1, z_m1eq, z_m1le, z_lem1, z_beq, nI_0_1, nI_m1lt0, nI_0lem1, not_false_eq_true, not_true_eq_false, forall_const, false_implies, true_implies, implies_true, false_and, and_false, mrg, renc, tra, trv, sg, List.map_cons, List.map_nil, Option.map_some, Option.map_none, Option.toList_some, Option.toList_none, List.cons_append, List.nil_append, List.length_cons, List.length_nil, jH, jF, t1]
    refine CAL.dirM hof ggd cc cs (Nat.le_of_ble_eq_true rfl) (by rw [ggn]; exact Nat.le_of_ble_eq_true rfl) (fun j _ z => by rw [← ggm]; exact z) rfl rfl ?_
    rintro _ _ ⟨rfl, PM', rfl, hy'⟩
    have hf := hgo PM' hy'
    simp (disch := first | exact rfl | decide | omega) only [u_99_0, u_99_3, u_99_4, u_99_5, u_99_6, u_99_7, u_99_8, u_99_11, u_99_14, u_99_15, u_99_16, u_99_17, u_99_18, u_99_21, u_99_22, u_99_23, u_99_24, u_99_27, u_99_30, u_99_31, u_99_32, u_99_33, u_99_35, u_99_38, u_99_39, u_99_42, u_99_43, u_99_46, u_99_48, u_99_49, u_99_51, u_99_53, u_99_54, u_99_57, u_99_60, u_99_61, u_99_62, u_99_64, u_99_66, u_99_69, u_99_70, u_99_71, u_99_72, u_99_75, u_99_78, u_99_79, u_99_82, u_99_84, u_99_85, u_99_88, u_99_89, u_99_90, u_99_92, u_99_94, u_99_95, u_99_98, u_99_101, u_99_102, u_99_103, u_99_104, u_99_107, u_99_109, u_99_111, u_99_114, u_99_115, u_99_116, u_99_117, u_99_120, u_99_123, u_99_126, u_99_129, u_99_130, u_99_131, u_99_132, u_99_133, u_99_136, u_99_139, u_99_140, u_99_141, u_99_142, u_99_143, u_99_146, u_99_147, u_99_148, u_99_149, u_99_152, u_99_155, u_99_156, u_99_157, u_99_158, u_99_159, u_99_162, u_99_165, u_99_168, u_99_169, u_99_171, u_99_174, u_99_177, u_99_178, u_99_179, u_99_180, u_99_183, u_99_186, u_99_187, u_99_188, u_99_189, u_99_190, u_99_191, u_99_194, u_99_197, u_99_198, wp_stop, lget, lput1, lput2, kil, hget, hset, vget, vset, fget, fgetC, fput, fputC, iget, igetC, jget, jgetC, qget, qgetC, alen, lenC, oI, oJ, oF, oA, oV, oH, oInc, oIld, oJld, oQld, oR, oLen, oIst, oBst, oJst, oQst, ciOf, rcv, oCp, cat1, cond_true, cond_false, Bool.and_self, Bool.and_true, Bool.true_and, Bool.or_true, Bool.true_or, Bool.or_false, Bool.false_or, Bool.not_false, Bool.not_true, ↓reduceIte, Nat.reduceBEq, Nat.reduceEqDiff, beq_self_eq_true, true_and, and_true, eq_self_iff_true, Nat.reduceAdd, Nat.blt, Nat.ble, z_le, z_lt, z_eq, z_cl, z_add, z_sub, z_mul, z_in, z_lt0, z_ofN, z_m1, z_ltm1, z_m1lt, z_eqm1, z_m1eq, z_m1le, z_lem1, z_beq, nI_0_1, nI_m1lt0, nI_0lem1, not_false_eq_true, not_true_eq_false, forall_const, false_implies, true_implies, implies_true, false_and, and_false, mrg, renc, tra, trv, sg, List.map_cons, List.map_nil, Option.map_some, Option.map_none, Option.toList_some, Option.toList_none, List.cons_append, List.nil_append, List.length_cons, List.length_nil]
    exact hf
end DG
