/-! ResidualJudge.digest, whole -/
theorem orL_2 {o : Nat} {row : List Nat} : ∀ (j : Nat) (v : aV), (orL o row j v).2 = v.2
  | 0, _ => rfl
  | j + 1, v => orL_2 j (orW o row (3 - j) v)
section DG
variable {G : aG} (hF : Int64)
set_option maxRecDepth 100000 in
theorem l_dgO (J : jS) (ps : Nat → Int64) (o : Nat) (row : List Nat) (hR : rwJ J.2.2.1 o row) (hL : rowL (ps o) 1 row) (v9 vF : aV) (hvF : orL o row 4 v9 = vF) (h14 : ∀ x, x < 9 → (vF.1 x).2.1.1.length ≤ 2 ^ 14) (ggd : 10 ≤ gD G) (ggn : gN G = 193) (ggm : gM G = jv) (h9 : okW v9)
    (hret : ∀ PM' wa wb k' n', jY PM' vF.1 → szT v9.2.1 v9.2.2 → k' ≤ gC G → n' ≤ gS G → RET G (some (.long hF)) (jH (jC J v9 wa wb) PM') k' n') :
    ∀ (j x : Nat) (h : Int64) (v : aV) (PM : Nat → PS × MS) (wa wb : Nat → Int32) (k n : Nat), x + j = 9 → jY PM v.1 → okW v → szT v.2.1 v.2.2 → (∀ y, (v.1 y).1 = ps y) → dg9 j v = v9 → k + VC vF ≤ gC G + VC v → n + VS vF ≤ gS G + VS v → dgF h (dgW ps j ++ ((List.range' 0 4).map (orA (ps o) o row) ++ row.map nI)) = hF →
    AW 99 G 32 [some (.ref 0), some (.long h), none, some (.int (nI x)), none, none] [] (jH (jC J v wa wb) PM) k n := by
  have hF9 := (orL_le (row := row) hR.1 4 h9).1
  rw [hvF] at hF9
  intro j
  induction j with
  | zero =>
    intro x h v PM wa wb k n hj hy hok hs hp hv hk hn hh
    have e1 : x = 9 := by omega
    subst e1
    have e2 : v = v9 := hv
    subst e2
    have hf := l_dg3 hF (jC J v wa wb) (ps o) o row hR hL vF (h14 o hR.1) ggd ggn ggm (fun PM' k' n' q1 q2 q3 => hret PM' wa wb k' n' q1 hs q2 q3) 4 0 h v PM k n rfl hy hok (hp o) hvF hk hn hh
    clear hret
    refine wq_aw (S := fun x => x == 32 || x == 131) (by decide) (f := 200) ?_
    simp (disch := first | exact rfl | decide | omega) only [v_99_6, v_99_32, v_99_51, v_99_92, v_99_131, v_99_157, u_99_0, u_99_3, u_99_4, u_99_5, u_99_6, u_99_7, u_99_8, u_99_11, u_99_14, u_99_15, u_99_16, u_99_17, u_99_18, u_99_21, u_99_22, u_99_23, u_99_24, u_99_27, u_99_30, u_99_31, u_99_32, u_99_33, u_99_35, u_99_38, u_99_39, u_99_42, u_99_43, u_99_46, u_99_48, u_99_49, u_99_51, u_99_53, u_99_54, u_99_57, u_99_60, u_99_61, u_99_62, u_99_64, u_99_66, u_99_69, u_99_70, u_99_71, u_99_72, u_99_75, u_99_78, u_99_79, u_99_82, u_99_84, u_99_85, u_99_88, u_99_89, u_99_90, u_99_92, u_99_94, u_99_95, u_99_98, u_99_101, u_99_102, u_99_103, u_99_104, u_99_107, u_99_109, u_99_111, u_99_114, u_99_115, u_99_116, u_99_117, u_99_120, u_99_123, u_99_126, u_99_129, u_99_130, u_99_131, u_99_132, u_99_133, u_99_136, u_99_139, u_99_140, u_99_141, u_99_142, u_99_143, u_99_146, u_99_147, u_99_148, u_99_149, u_99_152, u_99_155, u_99_156, u_99_157, u_99_158, u_99_159, u_99_162, u_99_165, u_99_168, u_99_169, u_99_171, u_99_174, u_99_177, u_99_178, u_99_179, u_99_180, u_99_183, u_99_186, u_99_187, u_99_188, u_99_189, u_99_190, u_99_191, u_99_194, u_99_197, u_99_198, wp_stop, lget, lput1, lput2, kil, hget, hset, vget, vset, fget, fgetC, fput, fputC, iget, igetC, jget, jgetC, qget, qgetC, alen, lenC, oI, oJ, oF, oA, oV, oH, oInc, oIld, oJld, oQld, oR, oLen, oIst, oBst, oJst, oQst, ciOf, rcv, oCp, cat1, cond_true, cond_false, Bool.and_self, Bool.and_true, Bool.true_and, Bool.or_true, Bool.true_or, Bool.or_false, Bool.false_or, Bool.not_false, Bool.not_true, ↓reduceIte, Nat.reduceBEq, Nat.reduceEqDiff, beq_self_eq_true, true_and, and_true, eq_self_iff_true, Nat.reduceAdd, Nat.blt, Nat.ble, z_le, z_lt, z_eq, z_cl, z_add, z_sub, z_mul, z_in, z_lt0, z_ofN, z_m1, z_ltm1, z_m1lt, z_eqm1, z_m1eq, z_m1le, z_lem1, z_beq, nI_0_1, nI_m1lt0, nI_0lem1, not_false_eq_true, not_true_eq_false, forall_const, false_implies, true_implies, implies_true, false_and, and_false, mrg, renc, tra, trv, sg, List.map_cons, List.map_nil, Option.map_some, Option.map_none, Option.toList_some, Option.toList_none, List.cons_append, List.nil_append, List.length_cons, List.length_nil, show (9 : Nat) ≤ 9 by decide]
    exact hf
  | succ j ih =>
    intro x h v PM wa wb k n hj hy hok hs hp hv hk hn hh
    have hx : x < 9 := by omega
    have e1 : 8 - j = x := by omega
    have hv2 : dg9 j (ctL x 4 (ctW x 4 v)) = v9 := by
      rw [← e1]
      exact hv
    obtain ⟨a1, a2⟩ := ctW_le (x := x) (n := 4) hx hok
    obtain ⟨b1, b2⟩ := ctL_le (x := x) hx 4 a2
    obtain ⟨c1, c2⟩ := dg9_le j b2
    rw [hv2] at c1
    have hBF := leW_tr c1 hF9
    have hall := leW_tr a1 (leW_tr b1 hBF)
    have hab := leW_tr a1 b1
    have hh2 : dgF h ((List.range' 0 4).map (opA (ps x)) ++ ((List.range' 1 4).map (fun m => nI (cntR (ps x) m)) ++ (dgW ps j ++ ((List.range' 0 4).map (orA (ps o) o row) ++ row.map nI)))) = hF := by
      rw [← hh]
      show _ = dgF h ((dgV (ps (8 - j)) ++ dgW ps j) ++ _)
      rw [e1]
      rfl
    have hA := l_dgA hF J x hx (ps x) (dgW ps j ++ ((List.range' 0 4).map (orA (ps o) o row) ++ row.map nI)) v (ctL x 4 (ctW x 4 v)) vF rfl hBF (h14 x hx) ggd ggn ggm PM wa wb k n hy hok hs (hp x) hk hn (fun h' PM' wa' wb' k' n' q1 q2 q3 q4 q5 q6 => ih (x + 1) h' _ PM' wa' wb' k' n' (by omega) q1 q2 q3 (fun y => by rw [← (hab.2.2 y).2]; exact hp y) hv2 q4 q5 q6) 4 0 h rfl hh2
    have hat := c_at 0 (jH (jC J v wa wb) PM) 23 24 (aF 31) x (31 + 18 * x) hx rfl rfl (aF_k hx)
    have w1 := hall.1
    have w2 := hall.2.1
    clear ih hret
    have t1 : ¬ 9 ≤ x := by omega
    have cc : k + 0 ≤ gC G := by omega
    have cs : n + 0 ≤ gS G := by omega
    refine wq_aw (S := fun x => x == 32 || x == 51 || x == 131) (by decide) (f := 200) ?_
    simp (disch := first | exact rfl | decide | omega) only [v_99_6, v_99_32, v_99_51, v_99_92, v_99_131, v_99_157, u_99_0, u_99_3, u_99_4, u_99_5, u_99_6, u_99_7, u_99_8, u_99_11, u_99_14, u_99_15, u_99_16, u_99_17, u_99_18, u_99_21, u_99_22, u_99_23, u_99_24, u_99_27, u_99_30, u_99_31, u_99_32, u_99_33, u_99_35, u_99_38, u_99_39, u_99_42, u_99_43, u_99_46, u_99_48, u_99_49, u_99_51, u_99_53, u_99_54, u_99_57, u_99_60, u_99_61, u_99_62, u_99_64, u_99_66, u_99_69, u_99_70, u_99_71, u_99_72, u_99_75, u_99_78, u_99_79, u_99_82, u_99_84, u_99_85, u_99_88, u_99_89, u_99_90, u_99_92, u_99_94, u_99_95, u_99_98, u_99_101, u_99_102, u_99_103, u_99_104, u_99_107, u_99_109, u_99_111, u_99_114, u_99_115, u_99_116, u_99_117, u_99_120, u_99_123, u_99_126, u_99_129, u_99_130, u_99_131, u_99_132, u_99_133, u_99_136, u_99_139, u_99_140, u_99_141, u_99_142, u_99_143, u_99_146, u_99_147, u_99_148, u_99_149, u_99_152, u_99_155, u_99_156, u_99_157, u_99_158, u_99_159, u_99_162, u_99_165, u_99_168, u_99_169, u_99_171, u_99_174, u_99_177, u_99_178, u_99_179, u_99_180, u_99_183, u_99_186, u_99_187, u_99_188, u_99_189, u_99_190, u_99_191, u_99_194, u_99_197, u_99_198, wp_stop, lget, lput1, lput2, kil, hget, hset, vget, vset, fget, fgetC, fput, fputC, iget, igetC, jget, jgetC, qget, qgetC, alen, lenC, oI, oJ, oF, oA, oV, oH, oInc, oIld, oJld, oQld, oR, oLen, oIst, oBst, oJst, oQst, ciOf, rcv, oCp, cat1, cond_true, cond_false, Bool.and_self, Bool.and_true, Bool.true_and, Bool.or_true, Bool.true_or, Bool.or_false, Bool.false_or, Bool.not_false, Bool.not_true, ↓reduceIte, Nat.reduceBEq, Nat.reduceEqDiff, beq_self_eq_true, true_and, and_true, eq_self_iff_true, Nat.reduceAdd, Nat.blt, Nat.ble, z_le, z_lt, z_eq, z_cl, z_add, z_sub, z_mul, z_in, z_lt0, z_ofN, z_m1, z_ltm1, z_m1lt, z_eqm1, z_m1eq, z_m1le, z_lem1, z_beq, nI_0_1, nI_m1lt0, nI_0lem1, not_false_eq_true, not_true_eq_false, forall_const, false_implies, true_implies, implies_true, false_and, and_false, mrg, renc, tra, trv, sg, List.map_cons, List.map_nil, Option.map_some, Option.map_none, Option.toList_some, Option.toList_none, List.cons_append, List.nil_append, List.length_cons, List.length_nil, jH, jF, t1]
    refine CAL.dir hat (by show 2 ≤ gD G; omega) cc cs (Nat.le_of_ble_eq_true rfl) (by rw [ggn]; exact Nat.le_of_ble_eq_true rfl) rfl rfl ?_
    rintro _ _ ⟨rfl, rfl⟩
    simp (disch := first | exact rfl | decide | omega) only [u_99_0, u_99_3, u_99_4, u_99_5, u_99_6, u_99_7, u_99_8, u_99_11, u_99_14, u_99_15, u_99_16, u_99_17, u_99_18, u_99_21, u_99_22, u_99_23, u_99_24, u_99_27, u_99_30, u_99_31, u_99_32, u_99_33, u_99_35, u_99_38, u_99_39, u_99_42, u_99_43, u_99_46, u_99_48, u_99_49, u_99_51, u_99_53, u_99_54, u_99_57, u_99_60, u_99_61, u_99_62, u_99_64, u_99_66, u_99_69, u_99_70, u_99_71, u_99_72, u_99_75, u_99_78, u_99_79, u_99_82, u_99_84, u_99_85, u_99_88, u_99_89, u_99_90, u_99_92, u_99_94, u_99_95, u_99_98, u_99_101, u_99_102, u_99_103, u_99_104, u_99_107, u_99_109, u_99_111, u_99_114, u_99_115, u_99_116, u_99_117, u_99_120, u_99_123, u_99_126, u_99_129, u_99_130, u_99_131, u_99_132, u_99_133, u_99_136, u_99_139, u_99_140, u_99_141, u_99_142, u_99_143, u_99_146, u_99_147, u_99_148, u_99_149, u_99_152, u_99_155, u_99_156, u_99_157, u_99_158, u_99_159, u_99_162, u_99_165, u_99_168, u_99_169, u_99_171, u_99_174, u_99_177, u_99_178, u_99_179, u_99_180, u_99_183, u_99_186, u_99_187, u_99_188, u_99_189, u_99_190, u_99_191, u_99_194, u_99_197, u_99_198, wp_stop, lget, lput1, lput2, kil, hget, hset, vget, vset, fget, fgetC, fput, fputC, iget, igetC, jget, jgetC, qget, qgetC, alen, lenC, oI, oJ, oF, oA, oV, oH, oInc, oIld, oJld, oQld, oR, oLen, oIst, oBst, oJst, oQst, ciOf, rcv, oCp, cat1, cond_true, cond_false, Bool.and_self, Bool.and_true, Bool.true_and, Bool.or_true, Bool.true_or, Bool.or_false, Bool.false_or, Bool.not_false, Bool.not_true, ↓reduceIte, Nat.reduceBEq, Nat.reduceEqDiff, beq_self_eq_true, true_and, and_true, eq_self_iff_true, Nat.reduceAdd, Nat.blt, Nat.ble, z_le, z_lt, z_eq, z_cl, z_add, z_sub, z_mul, z_in, z_lt0, z_ofN, z_m1, z_ltm1, z_m1lt, z_eqm1, z_m1eq, z_m1le, z_lem1, z_beq, nI_0_1, nI_m1lt0, nI_0lem1, not_false_eq_true, not_true_eq_false, forall_const, false_implies, true_implies, implies_true, false_and, and_false, mrg, renc, tra, trv, sg, List.map_cons, List.map_nil, Option.map_some, Option.map_none, Option.toList_some, Option.toList_none, List.cons_append, List.nil_append, List.length_cons, List.length_nil, jH, jF]
    exact hA
set_option maxRecDepth 100000 in
theorem l_dg1 (J : jS) (PM : Nat → PS × MS) (k n : Nat) (ggd : 10 ≤ gD G) (ggn : gN G = 193) (rest : List Int32) (cc : k ≤ gC G) (cs : n ≤ gS G)
    (hnext : ∀ h, dgF h rest = hF → AW 99 G 32 [some (.ref 0), some (.long h), none, some (.int (nI 0)), none, none] [] (jH J PM) k n) :
    ∀ (j w : Nat) (h : Int64), w + j = 5 → dgF h ((List.range' w j).map (tlA J) ++ rest) = hF → AW 99 G 6 [some (.ref 0), some (.long h), none, some (.int (nI w)), none, none] [] (jH J PM) k n := by
  intro j
  induction j with
  | zero =>
    intro w h hj hh
    have e1 : w = 5 := by omega
    subst e1
    have hf := hnext h hh
    clear hnext
    refine wq_aw (S := fun x => x == 6 || x == 32) (by decide) (f := 200) ?_
    simp (disch := first | exact rfl | decide | omega) only [v_99_6, v_99_32, v_99_51, v_99_92, v_99_131, v_99_157, u_99_0, u_99_3, u_99_4, u_99_5, u_99_6, u_99_7, u_99_8, u_99_11, u_99_14, u_99_15, u_99_16, u_99_17, u_99_18, u_99_21, u_99_22, u_99_23, u_99_24, u_99_27, u_99_30, u_99_31, u_99_32, u_99_33, u_99_35, u_99_38, u_99_39, u_99_42, u_99_43, u_99_46, u_99_48, u_99_49, u_99_51, u_99_53, u_99_54, u_99_57, u_99_60, u_99_61, u_99_62, u_99_64, u_99_66, u_99_69, u_99_70, u_99_71, u_99_72, u_99_75, u_99_78, u_99_79, u_99_82, u_99_84, u_99_85, u_99_88, u_99_89, u_99_90, u_99_92, u_99_94, u_99_95, u_99_98, u_99_101, u_99_102, u_99_103, u_99_104, u_99_107, u_99_109, u_99_111, u_99_114, u_99_115, u_99_116, u_99_117, u_99_120, u_99_123, u_99_126, u_99_129, u_99_130, u_99_131, u_99_132, u_99_133, u_99_136, u_99_139, u_99_140, u_99_141, u_99_142, u_99_143, u_99_146, u_99_147, u_99_148, u_99_149, u_99_152, u_99_155, u_99_156, u_99_157, u_99_158, u_99_159, u_99_162, u_99_165, u_99_168, u_99_169, u_99_171, u_99_174, u_99_177, u_99_178, u_99_179, u_99_180, u_99_183, u_99_186, u_99_187, u_99_188, u_99_189, u_99_190, u_99_191, u_99_194, u_99_197, u_99_198, wp_stop, lget, lput1, lput2, kil, hget, hset, vget, vset, fget, fgetC, fput, fputC, iget, igetC, jget, jgetC, qget, qgetC, alen, lenC, oI, oJ, oF, oA, oV, oH, oInc, oIld, oJld, oQld, oR, oLen, oIst, oBst, oJst, oQst, ciOf, rcv, oCp, cat1, cond_true, cond_false, Bool.and_self, Bool.and_true, Bool.true_and, Bool.or_true, Bool.true_or, Bool.or_false, Bool.false_or, Bool.not_false, Bool.not_true, ↓reduceIte, Nat.reduceBEq, Nat.reduceEqDiff, beq_self_eq_true, true_and, and_true, eq_self_iff_true, Nat.reduceAdd, Nat.blt, Nat.ble, z_le, z_lt, z_eq, z_cl, z_add, z_sub, z_mul, z_in, z_lt0, z_ofN, z_m1, z_ltm1, z_m1lt, z_eqm1, z_m1eq, z_m1le, z_lem1, z_beq, nI_0_1, nI_m1lt0, nI_0lem1, not_false_eq_true, not_true_eq_false, forall_const, false_implies, true_implies, implies_true, false_and, and_false, mrg, renc, tra, trv, sg, List.map_cons, List.map_nil, Option.map_some, Option.map_none, Option.toList_some, Option.toList_none, List.cons_append, List.nil_append, List.length_cons, List.length_nil, show (4 : Nat) < 5 by decide]
    exact hf
  | succ j ih =>
    intro w h hj hh
    have hgo := ih (w + 1) (lN 31 * h + (tlA J w).toInt64) (by omega) hh
    have hta := c_tally PM 0 w (by omega) J
    clear ih hnext
    have t1 : ¬ 4 < w := by omega
    generalize tlA J w = a at *
    refine wq_aw (S := fun x => x == 6 || x == 32) (by decide) (f := 200) ?_
    simp (disch := first | exact rfl | decide | omega) only [v_99_6, v_99_32, v_99_51, v_99_92, v_99_131, v_99_157, u_99_0, u_99_3, u_99_4, u_99_5, u_99_6, u_99_7, u_99_8, u_99_11, u_99_14, u_99_15, u_99_16, u_99_17, u_99_18, u_99_21, u_99_22, u_99_23, u_99_24, u_99_27, u_99_30, u_99_31, u_99_32, u_99_33, u_99_35, u_99_38, u_99_39, u_99_42, u_99_43, u_99_46, u_99_48, u_99_49, u_99_51, u_99_53, u_99_54, u_99_57, u_99_60, u_99_61, u_99_62, u_99_64, u_99_66, u_99_69, u_99_70, u_99_71, u_99_72, u_99_75, u_99_78, u_99_79, u_99_82, u_99_84, u_99_85, u_99_88, u_99_89, u_99_90, u_99_92, u_99_94, u_99_95, u_99_98, u_99_101, u_99_102, u_99_103, u_99_104, u_99_107, u_99_109, u_99_111, u_99_114, u_99_115, u_99_116, u_99_117, u_99_120, u_99_123, u_99_126, u_99_129, u_99_130, u_99_131, u_99_132, u_99_133, u_99_136, u_99_139, u_99_140, u_99_141, u_99_142, u_99_143, u_99_146, u_99_147, u_99_148, u_99_149, u_99_152, u_99_155, u_99_156, u_99_157, u_99_158, u_99_159, u_99_162, u_99_165, u_99_168, u_99_169, u_99_171, u_99_174, u_99_177, u_99_178, u_99_179, u_99_180, u_99_183, u_99_186, u_99_187, u_99_188, u_99_189, u_99_190, u_99_191, u_99_194, u_99_197, u_99_198, wp_stop, lget, lput1, lput2, kil, hget, hset, vget, vset, fget, fgetC, fput, fputC, iget, igetC, jget, jgetC, qget, qgetC, alen, lenC, oI, oJ, oF, oA, oV, oH, oInc, oIld, oJld, oQld, oR, oLen, oIst, oBst, oJst, oQst, ciOf, rcv, oCp, cat1, cond_true, cond_false, Bool.and_self, Bool.and_true, Bool.true_and, Bool.or_true, Bool.true_or, Bool.or_false, Bool.false_or, Bool.not_false, Bool.not_true, ↓reduceIte, Nat.reduceBEq, Nat.reduceEqDiff, beq_self_eq_true, true_and, and_true, eq_self_iff_true, Nat.reduceAdd, Nat.blt, Nat.ble, z_le, z_lt, z_eq, z_cl, z_add, z_sub, z_mul, z_in, z_lt0, z_ofN, z_m1, z_ltm1, z_m1lt, z_eqm1, z_m1eq, z_m1le, z_lem1, z_beq, nI_0_1, nI_m1lt0, nI_0lem1, not_false_eq_true, not_true_eq_false, forall_const, false_implies, true_implies, implies_true, false_and, and_false, mrg, renc, tra, trv, sg, List.map_cons, List.map_nil, Option.map_some, Option.map_none, Option.toList_some, Option.toList_none, List.cons_append, List.nil_append, List.length_cons, List.length_nil, jH, jF, t1]
    refine CAL.dir hta (by show 1 ≤ gD G; omega) cc cs (Nat.le_of_ble_eq_true rfl) (by rw [ggn]; exact Nat.le_of_ble_eq_true rfl) rfl rfl ?_
    rintro _ _ ⟨rfl, rfl⟩
    simp (disch := first | exact rfl | decide | omega) only [u_99_0, u_99_3, u_99_4, u_99_5, u_99_6, u_99_7, u_99_8, u_99_11, u_99_14, u_99_15, u_99_16, u_99_17, u_99_18, u_99_21, u_99_22, u_99_23, u_99_24, u_99_27, u_99_30, u_99_31, u_99_32, u_99_33, u_99_35, u_99_38, u_99_39, u_99_42, u_99_43, u_99_46, u_99_48, u_99_49, u_99_51, u_99_53, u_99_54, u_99_57, u_99_60, u_99_61, u_99_62, u_99_64, u_99_66, u_99_69, u_99_70, u_99_71, u_99_72, u_99_75, u_99_78, u_99_79, u_99_82, u_99_84, u_99_85, u_99_88, u_99_89, u_99_90, u_99_92, u_99_94, u_99_95, u_99_98, u_99_101, u_99_102, u_99_103, u_99_104, u_99_107, u_99_109, u_99_111, u_99_114, u_99_115, u_99_116, u_99_117, u_99_120, u_99_123, u_99_126, u_99_129, u_99_130, u_99_131, u_99_132, u_99_133, u_99_136, u_99_139, u_99_140, u_99_141, u_99_142, u_99_143, u_99_146, u_99_147, u_99_148, u_99_149, u_99_152, u_99_155, u_99_156, u_99_157, u_99_158, u_99_159, u_99_162, u_99_165, u_99_168, u_99_169, u_99_171, u_99_174, u_99_177, u_99_178, u_99_179, u_99_180, u_99_183, u_99_186, u_99_187, u_99_188, u_99_189, u_99_190, u_99_191, u_99_194, u_99_197, u_99_198, wp_stop, lget, lput1, lput2, kil, hget, hset, vget, vset, fget, fgetC, fput, fputC, iget, igetC, jget, jgetC, qget, qgetC, alen, lenC, oI, oJ, oF, oA, oV, oH, oInc, oIld, oJld, oQld, oR, oLen, oIst, oBst, oJst, oQst, ciOf, rcv, oCp, cat1, cond_true, cond_false, Bool.and_self, Bool.and_true, Bool.true_and, Bool.or_true, Bool.true_or, Bool.or_false, Bool.false_or, Bool.not_false, Bool.not_true, ↓reduceIte, Nat.reduceBEq, Nat.reduceEqDiff, beq_self_eq_true, true_and, and_true, eq_self_iff_true, Nat.reduceAdd, Nat.blt, Nat.ble, z_le, z_lt, z_eq, z_cl, z_add, z_sub, z_mul, z_in, z_lt0, z_ofN, z_m1, z_ltm1, z_m1lt, z_eqm1, z_m1eq, z_m1le, z_lem1, z_beq, nI_0_1, nI_m1lt0, nI_0lem1, not_false_eq_true, not_true_eq_false, forall_const, false_implies, true_implies, implies_true, false_and, and_false, mrg, renc, tra, trv, sg, List.map_cons, List.map_nil, Option.map_some, Option.map_none, Option.toList_some, Option.toList_none, List.cons_append, List.nil_append, List.length_cons, List.length_nil, jH, jF]
    exact hgo
end DG
/-- what the digest is made of -/
noncomputable def dgAll (J : jS) (ps : Nat → Int64) (o : Nat) (row : List Nat) : List Int32 := (List.range' 0 5).map (tlA J) ++ (dgW ps 9 ++ ((List.range' 0 4).map (orA (ps o) o row) ++ row.map nI))
noncomputable def dgN (o : Nat) (row : List Nat) (v : aV) : aV := orL o row 4 (dg9 9 v)
set_option maxRecDepth 100000 in
theorem c_digest (d : Nat) (J : jS) (PM : Nat → PS × MS) (v : aV) (ps : Nat → Int64) (o : Nat) (row : List Nat) (e1 : J.2.2.2.2.2.1.1 = v.2.1) (e2 : J.2.2.2.2.2.1.2.2.1 = v.2.2) (hy : jY PM v.1) (hok : okW v) (hs : szT v.2.1 v.2.2) (hp : ∀ y, (v.1 y).1 = ps y) (hR : rwJ J.2.2.1 o row) (hL : rowL (ps o) 1 row) (h14 : ∀ x, x < 9 → ((dgN o row v).1 x).2.1.1.length ≤ 2 ^ 14) :
    aSp (d + 10) 99 [.ref 0] (jH J PM) jv (VC (dgN o row v) - VC v) (VS (dgN o row v) - VS v) (fun r h' => r = some (.long (dgF (lN 2521) (dgAll J ps o row))) ∧ ∃ wa wb PM', h' = jH (jC J (dgN o row v) wa wb) PM' ∧ jY PM' (dgN o row v).1 ∧ szT (dgN o row v).2.1 (dgN o row v).2.2) := by
  obtain ⟨j1, j2, j3, j4, j5, ⟨na, wa, nb, wb⟩, j7⟩ := J
  dsimp only at e1 e2 hR
  subst e1 e2
  obtain ⟨a1, a2⟩ := dg9_le 9 hok
  obtain ⟨b1, b2⟩ := orL_le (row := row) hR.1 4 a2
  have hle := leW_tr a1 b1
  have e3 : (dgN o row v).2 = (dg9 9 v).2 := orL_2 4 _
  have w1 := hle.1
  have w2 := hle.2.1
  change VS v ≤ VS (dgN o row v) at w1
  change VC v ≤ VC (dgN o row v) at w2
  refine sp_of (by decide) (Nat.le_of_ble_eq_true rfl) ?_
  generalize hG : ((d + 10, _, jv, _, _, _) : aG) = G
  have ggd : gD G = d + 10 := by subst hG; rfl
  have ggn : gN G = 193 := by subst hG; exact jH_len _ _
  have ggm : gM G = jv := by subst hG; rfl
  have ggc : gC G = VC (dgN o row v) - VC v := by subst hG; rfl
  have ggs : gS G = VS (dgN o row v) - VS v := by subst hG; rfl
  have hret : ∀ PM' wa' wb' k' n', jY PM' (dgN o row v).1 → szT (dg9 9 v).2.1 (dg9 9 v).2.2 → k' ≤ gC G → n' ≤ gS G → RET G (some (.long (dgF (lN 2521) (dgAll (j1, j2, j3, j4, j5, (v.2.1, wa, v.2.2, wb), j7) ps o row)))) (jH (jC (j1, j2, j3, j4, j5, (v.2.1, wa, v.2.2, wb), j7) (dg9 9 v) wa' wb') PM') k' n' := by
    subst hG
    intro PM' wa' wb' k' n' q1 q2 q3 q4
    refine RET.id ⟨rfl, wa', wb', PM', ?_, q1, by rw [e3]; exact q2⟩ q3 q4
    show jH (j1, j2, j3, j4, j5, ((dg9 9 v).2.1, wa', (dg9 9 v).2.2, wb'), j7) PM' = jH (j1, j2, j3, j4, j5, ((dgN o row v).2.1, wa', (dgN o row v).2.2, wb'), j7) PM'
    rw [e3]
  clear hG
  have hgo := l_dg1 (G := G) (dgF (lN 2521) (dgAll (j1, j2, j3, j4, j5, (v.2.1, wa, v.2.2, wb), j7) ps o row)) (j1, j2, j3, j4, j5, (v.2.1, wa, v.2.2, wb), j7) PM 0 0 (by rw [ggd]; omega) ggn (dgW ps 9 ++ ((List.range' 0 4).map (orA (ps o) o row) ++ row.map nI)) (Nat.zero_le _) (Nat.zero_le _) (fun h hh => l_dgO (dgF (lN 2521) (dgAll (j1, j2, j3, j4, j5, (v.2.1, wa, v.2.2, wb), j7) ps o row)) (j1, j2, j3, j4, j5, (v.2.1, wa, v.2.2, wb), j7) ps o row hR hL (dg9 9 v) (dgN o row v) rfl h14 (by rw [ggd]; omega) ggn ggm a2 hret 9 0 h v PM wa wb 0 0 rfl hy hok hs hp rfl (by rw [ggc]; omega) (by rw [ggs]; omega) hh) 5 0 (lN 2521) rfl rfl
  clear hret
  generalize dgF (lN 2521) (dgAll (j1, j2, j3, j4, j5, (v.2.1, wa, v.2.2, wb), j7) ps o row) = hF at *
  refine wp_aw (S := fun x => x == 6 || x == 32) (by decide) 200 _ _ _ _ _ _ ?_
  simp (disch := first | exact rfl | decide | omega) only [u_99_0, u_99_3, u_99_4, u_99_5, u_99_6, u_99_7, u_99_8, u_99_11, u_99_14, u_99_15, u_99_16, u_99_17, u_99_18, u_99_21, u_99_22, u_99_23, u_99_24, u_99_27, u_99_30, u_99_31, u_99_32, u_99_33, u_99_35, u_99_38, u_99_39, u_99_42, u_99_43, u_99_46, u_99_48, u_99_49, u_99_51, u_99_53, u_99_54, u_99_57, u_99_60, u_99_61, u_99_62, u_99_64, u_99_66, u_99_69, u_99_70, u_99_71, u_99_72, u_99_75, u_99_78, u_99_79, u_99_82, u_99_84, u_99_85, u_99_88, u_99_89, u_99_90, u_99_92, u_99_94, u_99_95, u_99_98, u_99_101, u_99_102, u_99_103, u_99_104, u_99_107, u_99_109, u_99_111, u_99_114, u_99_115, u_99_116, u_99_117, u_99_120, u_99_123, u_99_126, u_99_129, u_99_130, u_99_131, u_99_132, u_99_133, u_99_136, u_99_139, u_99_140, u_99_141, u_99_142, u_99_143, u_99_146, u_99_147, u_99_148, u_99_149, u_99_152, u_99_155, u_99_156, u_99_157, u_99_158, u_99_159, u_99_162, u_99_165, u_99_168, u_99_169, u_99_171, u_99_174, u_99_177, u_99_178, u_99_179, u_99_180, u_99_183, u_99_186, u_99_187, u_99_188, u_99_189, u_99_190, u_99_191, u_99_194, u_99_197, u_99_198, wp_stop, lget, lput1, lput2, kil, hget, hset, vget, vset, fget, fgetC, fput, fputC, iget, igetC, jget, jgetC, qget, qgetC, alen, lenC, oI, oJ, oF, oA, oV, oH, oInc, oIld, oJld, oQld, oR, oLen, oIst, oBst, oJst, oQst, ciOf, rcv, oCp, cat1, cond_true, cond_false, Bool.and_self, Bool.and_true, Bool.true_and, Bool.or_true, Bool.true_or, Bool.or_false, Bool.false_or, Bool.not_false, Bool.not_true, ↓reduceIte, Nat.reduceBEq, Nat.reduceEqDiff, beq_self_eq_true, true_and, and_true, eq_self_iff_true, Nat.reduceAdd, Nat.blt, Nat.ble, z_le, z_lt, z_eq, z_cl, z_add, z_sub, z_mul, z_in, z_lt0, z_ofN, z_m1, z_ltm1, z_m1lt, z_eqm1, z_m1eq, z_m1le, z_lem1, z_beq, nI_0_1, nI_m1lt0, nI_0lem1, not_false_eq_true, not_true_eq_false, forall_const, false_implies, true_implies, implies_true, false_and, and_false, mrg, renc, tra, trv, sg, List.map_cons, List.map_nil, Option.map_some, Option.map_none, Option.toList_some, Option.toList_none, List.cons_append, List.nil_append, List.length_cons, List.length_nil, eL, mL_99, jH, jF]
  exact hgo
