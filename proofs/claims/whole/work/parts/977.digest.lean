/-! ResidualJudge.digest: the patterns -/
section DG
variable {G : aG} (hF : Int64)
set_option maxRecDepth 100000 in
theorem l_dgB (J : jS) (x : Nat) (hx : x < 9) (p : Int64) (rest : List Int32) (vB vF : aV) (hBF : leW vB vF) (h14 : (vF.1 x).2.1.1.length ≤ 2 ^ 14) (ggd : 10 ≤ gD G) (ggn : gN G = 193) (ggm : gM G = jv)
    (hnext : ∀ h PM wa wb k n, jY PM vB.1 → okW vB → szT vB.2.1 vB.2.2 → k + VC vF ≤ gC G + VC vB → n + VS vF ≤ gS G + VS vB → dgF h rest = hF → AW 99 G 32 [some (.ref 0), some (.long h), none, some (.int (nI (x + 1))), none, none] [] (jH (jC J vB wa wb) PM) k n) :
    ∀ (j m : Nat) (h : Int64) (v : aV) (PM : Nat → PS × MS) (wa wb : Nat → Int32) (k n : Nat), m + j = 5 → jY PM v.1 → okW v → szT v.2.1 v.2.2 → (v.1 x).1 = p → ctL x j v = vB → k + VC vF ≤ gC G + VC v → n + VS vF ≤ gS G + VS v → dgF h ((List.range' m j).map (fun m => nI (cntR p m)) ++ rest) = hF →
    AW 99 G 92 [some (.ref 0), some (.long h), none, some (.int (nI x)), some (.ref (31 + 18 * x)), some (.int (nI m))] [] (jH (jC J v wa wb) PM) k n := by
  intro j
  induction j with
  | zero =>
    intro m h v PM wa wb k n hj hy hok hs hp hv hk hn hh
    have e1 : m = 5 := by omega
    subst e1
    have e2 : v = vB := hv
    subst e2
    have hf := hnext h PM wa wb k n hy hok hs hk hn hh
    clear hnext
    refine wq_aw (S := fun x => x == 32 || x == 92) (by decide) (f := 200) ?_
    simp (disch := first | exact rfl | decide | omega) only [v_99_6, v_99_32, v_99_51, v_99_92, v_99_131, v_99_157, u_99_0, u_99_3, u_99_4, u_99_5, u_99_6, u_99_7, u_99_8, u_99_11, u_99_14, u_99_15, u_99_16, u_99_17, u_99_18, u_99_21, u_99_22, u_99_23, u_99_24, u_99_27, u_99_30, u_99_31, u_99_32, u_99_33, u_99_35, u_99_38, u_99_39, u_99_42, u_99_43, u_99_46, u_99_48, u_99_49, u_99_51, u_99_53, u_99_54, u_99_57, u_99_60, u_99_61, u_99_62, u_99_64, u_99_66, u_99_69, u_99_70, u_99_71, u_99_72, u_99_75, u_99_78, u_99_79, u_99_82, u_99_84, u_99_85, u_99_88, u_99_89, u_99_90, u_99_92, u_99_94, u_99_95, u_99_98, u_99_101, u_99_102, u_99_103, u_99_104, u_99_107, u_99_109, u_99_111, u_99_114, u_99_115, u_99_116, u_99_117, u_99_120, u_99_123, u_99_126, u_99_129, u_99_130, u_99_131, u_99_132, u_99_133, u_99_136, u_99_139, u_99_140, u_99_141, u_99_142, u_99_143, u_99_146, u_99_147, u_99_148, u_99_149, u_99_152, u_99_155, u_99_156, u_99_157, u_99_158, u_99_159, u_99_162, u_99_165, u_99_168, u_99_169, u_99_171, u_99_174, u_99_177, u_99_178, u_99_179, u_99_180, u_99_183, u_99_186, u_99_187, u_99_188, u_99_189, u_99_190, u_99_191, u_99_194, u_99_197, u_99_198, wp_stop, lget, lput1, lput2, kil, hget, hset, vget, vset, fget, fgetC, fput, fputC, iget, igetC, jget, jgetC, qget, qgetC, alen, lenC, oI, oJ, oF, oA, oV, oH, oInc, oIld, oJld, oQld, oR, oLen, oIst, oBst, oJst, oQst, ciOf, rcv, oCp, cat1, cond_true, cond_false, Bool.and_self, Bool.and_true, Bool.true_and, Bool.or_true, Bool.true_or, Bool.or_false, Bool.false_or, Bool.not_false, Bool.not_true, ↓reduceIte, Nat.reduceBEq, Nat.reduceEqDiff, beq_self_eq_true, true_and, and_true, eq_self_iff_true, Nat.reduceAdd, Nat.blt, Nat.ble, z_le, z_lt, z_eq, z_cl, z_add, z_sub, z_mul, z_in, z_lt0, z_ofN, z_m1, z_ltm1, z_m1lt, z_eqm1, z_m1eq, z_m1le, z_lem1, z_beq, nI_0_1, nI_m1lt0, nI_0lem1, not_false_eq_true, not_true_eq_false, forall_const, false_implies, true_implies, implies_true, false_and, and_false, mrg, renc, tra, trv, sg, List.map_cons, List.map_nil, Option.map_some, Option.map_none, Option.toList_some, Option.toList_none, List.cons_append, List.nil_append, List.length_cons, List.length_nil, show (4 : Nat) < 5 by decide]
    exact aw_lle [some (.ref 0), some (.long h), none, some (.int (nI (x + 1))), none, none] ⟨rfl, rfl, rfl, trivial⟩ hf
  | succ j ih =>
    intro m h v PM wa wb k n hj hy hok hs hp hv hk hn hh
    have e1 : 4 - j = m := by omega
    have hv2 : ctL x j (ctW x m v) = vB := by
      rw [← e1]
      exact hv
    obtain ⟨a1, a2⟩ := ctW_le (x := x) (n := m) hx hok
    obtain ⟨b1, b2⟩ := ctL_le (x := x) hx j a2
    rw [hv2] at b1
    have b0 := leW_tr b1 hBF
    obtain ⟨mv, hmv, hcn⟩ := V_count 0 x m hx (by omega) J PM v wa wb hy hs (Nat.le_trans (extL_len (b0.2.2 x).1) h14)
    rw [hp] at hcn
    have hle := ctN_le (n := m) (τ := (v.1 x, v.2)) (hok x)
    have f1 := fY_upd (f := yS) (ν := v.1) hx (ctN m (v.1 x, v.2)).1
    have f2 := fY_upd (f := yC) (ν := v.1) hx (ctN m (v.1 x, v.2)).1
    have g1 : VC (ctW x m v) = VC v + (tC (ctN m (v.1 x, v.2)) - tC (v.1 x, v.2)) := by
      have h2 := hle.2.1
      unfold tC at h2 ⊢
      dsimp only at h2 ⊢
      show fY yC (upN v.1 x (ctN m (v.1 x, v.2)).1) + (ctN m (v.1 x, v.2)).2.1 + (ctN m (v.1 x, v.2)).2.2 = fY yC v.1 + v.2.1 + v.2.2 + _
      omega
    have g2 : VS (ctW x m v) = VS v + (tS (ctN m (v.1 x, v.2)) - tS (v.1 x, v.2)) := by
      have h2 := hle.1
      unfold tS at h2 ⊢
      dsimp only at h2 ⊢
      show fY yS (upN v.1 x (ctN m (v.1 x, v.2)).1) + 2 * (ctN m (v.1 x, v.2)).2.1 + 2 * (ctN m (v.1 x, v.2)).2.2 = fY yS v.1 + 2 * v.2.1 + 2 * v.2.2 + _
      omega
    have w1 := b0.1
    have w2 := b0.2.1
    have hp2 : ((ctW x m v).1 x).1 = p := by
      rw [← (a1.2.2 x).2]
      exact hp
    generalize tC (ctN m (v.1 x, v.2)) - tC (v.1 x, v.2) = cC at *
    generalize tS (ctN m (v.1 x, v.2)) - tS (v.1 x, v.2) = cS at *
    have hgo : ∀ PM' wa' wb', jY PM' (ctW x m v).1 → szT (ctW x m v).2.1 (ctW x m v).2.2 → AW 99 G 92 [some (.ref 0), some (.long (lN 31 * h + (nI (cntR p m)).toInt64)), none, some (.int (nI x)), some (.ref (31 + 18 * x)), some (.int (nI (m + 1)))] [] (jH (jC J (ctW x m v) wa' wb') PM') (k + cC) (n + cS) := fun PM' wa' wb' hy' hs' => ih (m + 1) _ (ctW x m v) PM' wa' wb' _ _ (by omega) hy' a2 hs' hp2 hv2 (by omega) (by omega) hh
    clear ih hnext hle f1 f2
    have t1 : ¬ 4 < m := by omega
    have cc : k + cC ≤ gC G := by omega
    have cs : n + cS ≤ gS G := by omega
    generalize ctW x m v = v' at *
    generalize cntR p m = a at *
    refine wq_aw (S := fun x => x == 32 || x == 92) (by decide) (f := 200) ?_
    simp (disch := first | exact rfl | decide | omega) only [v_99_6, v_99_32, v_99_51, v_99_92, v_99_131, v_99_157, u_99_0, u_99_3, u_99_4, u_99_5, u_99_6, u_99_7, u_99_8, u_99_11, u_99_14, u_99_15, u_99_16, u_99_17, u_99_18, u_99_21, u_99_22, u_99_23, u_99_24, u_99_27, u_99_30, u_99_31, u_99_32, u_99_33, u_99_35, u_99_38, u_99_39, u_99_42, u_99_43, u_99_46, u_99_48, u_99_49, u_99_51, u_99_53, u_99_54, u_99_57, u_99_60, u_99_61, u_99_62, u_99_64, u_99_66, u_99_69, u_99_70, u_99_71, u_99_72, u_99_75, u_99_78, u_99_79, u_99_82, u_99_84, u_99_85, u_99_88, u_99_89, u_99_90, u_99_92, u_99_94, u_99_95, u_99_98, u_99_101, u_99_102, u_99_103, u_99_104, u_99_107, u_99_109, u_99_111, u_99_114, u_99_115, u_99_116, u_99_117, u_99_120, u_99_123, u_99_126, u_99_129, u_99_130, u_99_131, u_99_132, u_99_133, u_99_136, u_99_139, u_99_140, u_99_141, u_99_142, u_99_143, u_99_146, u_99_147, u_99_148, u_99_149, u_99_152, u_99_155, u_99_156, u_99_157, u_99_158, u_99_159, u_99_162, u_99_165, u_99_168, u_99_169, u_99_171, u_99_174, u_99_177, u_99_178, u_99_179, u_99_180, u_99_183, u_99_186, u_99_187, u_99_188, u_99_189, u_99_190, u_99_191, u_99_194, u_99_197, u_99_198, wp_stop, lget, lput1, lput2, kil, hget, hset, vget, vset, fget, fgetC, fput, fputC, iget, igetC, jget, jgetC, qget, qgetC, alen, lenC, oI, oJ, oF, oA, oV, oH, oInc, oIld, oJld, oQld, oR, oLen, oIst, oBst, oJst, oQst, ciOf, rcv, oCp, cat1, cond_true, cond_false, Bool.and_self, Bool.and_true, Bool.true_and, Bool.or_true, Bool.true_or, Bool.or_false, Bool.false_or, Bool.not_false, Bool.not_true, ↓reduceIte, Nat.reduceBEq, Nat.reduceEqDiff, beq_self_eq_true, true_and, and_true, eq_self_iff_true, Nat.reduceAdd, Nat.blt, Nat.ble, z_le, z_lt, z_eq, z_cl, z_add, z_sub, z_mul, z_in, z_lt0, z_ofN, z_m1, z_ltm1, z_m1lt, z_eqm1, z_m1eq, z_m1le, z_lem1, z_beq, nI_0_1, nI_m1lt0, nI_0lem1, not_false_eq_true, not_true_eq_false, forall_const, false_implies, true_implies, implies_true, false_and, and_false, mrg, renc, tra, trv, sg, List.map_cons, List.map_nil, Option.map_some, Option.map_none, Option.toList_some, Option.toList_none, List.cons_append, List.nil_append, List.length_cons, List.length_nil, jH, jF, t1]
    refine CAL.dirM hcn ggd cc cs (Nat.le_of_ble_eq_true rfl) (by rw [ggn]; exact Nat.le_of_ble_eq_true rfl) (fun j _ z => by
      cases hc : mv j
      · rfl
      · rw [ggm, hmv j hc] at z
        exact absurd z (by decide)) (okL_mono hmv (okL_e hx rfl rfl rfl rfl (jH_len (jC J v wa wb) PM))) rfl ?_
    rintro _ _ ⟨rfl, wa', wb', PM', rfl, hy', hs'⟩
    have hf := hgo PM' wa' wb' hy' hs'
    simp (disch := first | exact rfl | decide | omega) only [u_99_0, u_99_3, u_99_4, u_99_5, u_99_6, u_99_7, u_99_8, u_99_11, u_99_14, u_99_15, u_99_16, u_99_17, u_99_18, u_99_21, u_99_22, u_99_23, u_99_24, u_99_27, u_99_30, u_99_31, u_99_32, u_99_33, u_99_35, u_99_38, u_99_39, u_99_42, u_99_43, u_99_46, u_99_48, u_99_49, u_99_51, u_99_53, u_99_54, u_99_57, u_99_60, u_99_61, u_99_62, u_99_64, u_99_66, u_99_69, u_99_70, u_99_71, u_99_72, u_99_75, u_99_78, u_99_79, u_99_82, u_99_84, u_99_85, u_99_88, u_99_89, u_99_90, u_99_92, u_99_94, u_99_95, u_99_98, u_99_101, u_99_102, u_99_103, u_99_104, u_99_107, u_99_109, u_99_111, u_99_114, u_99_115, u_99_116, u_99_117, u_99_120, u_99_123, u_99_126, u_99_129, u_99_130, u_99_131, u_99_132, u_99_133, u_99_136, u_99_139, u_99_140, u_99_141, u_99_142, u_99_143, u_99_146, u_99_147, u_99_148, u_99_149, u_99_152, u_99_155, u_99_156, u_99_157, u_99_158, u_99_159, u_99_162, u_99_165, u_99_168, u_99_169, u_99_171, u_99_174, u_99_177, u_99_178, u_99_179, u_99_180, u_99_183, u_99_186, u_99_187, u_99_188, u_99_189, u_99_190, u_99_191, u_99_194, u_99_197, u_99_198, wp_stop, lget, lput1, lput2, kil, hget, hset, vget, vset, fget, fgetC, fput, fputC, iget, igetC, jget, jgetC, qget, qgetC, alen, lenC, oI, oJ, oF, oA, oV, oH, oInc, oIld, oJld, oQld, oR, oLen, oIst, oBst, oJst, oQst, ciOf, rcv, oCp, cat1, cond_true, cond_false, Bool.and_self, Bool.and_true, Bool.true_and, Bool.or_true, Bool.true_or, Bool.or_false, Bool.false_or, Bool.not_false, Bool.not_true, ↓reduceIte, Nat.reduceBEq, Nat.reduceEqDiff, beq_self_eq_true, true_and, and_true, eq_self_iff_true, Nat.reduceAdd, Nat.blt, Nat.ble, z_le, z_lt, z_eq, z_cl, z_add, z_sub, z_mul, z_in, z_lt0, z_ofN, z_m1, z_ltm1, z_m1lt, z_eqm1, z_m1eq, z_m1le, z_lem1, z_beq, nI_0_1, nI_m1lt0, nI_0lem1, not_false_eq_true, not_true_eq_false, forall_const, false_implies, true_implies, implies_true, false_and, and_false, mrg, renc, tra, trv, sg, List.map_cons, List.map_nil, Option.map_some, Option.map_none, Option.toList_some, Option.toList_none, List.cons_append, List.nil_append, List.length_cons, List.length_nil]
    exact hf
set_option maxRecDepth 100000 in
theorem l_dgA (J : jS) (x : Nat) (hx : x < 9) (p : Int64) (rest : List Int32) (v vB vF : aV) (hv : ctL x 4 (ctW x 4 v) = vB) (hBF : leW vB vF) (h14 : (vF.1 x).2.1.1.length ≤ 2 ^ 14) (ggd : 10 ≤ gD G) (ggn : gN G = 193) (ggm : gM G = jv)
    (PM : Nat → PS × MS) (wa wb : Nat → Int32) (k n : Nat) (hy : jY PM v.1) (hok : okW v) (hs : szT v.2.1 v.2.2) (hp : (v.1 x).1 = p) (hk : k + VC vF ≤ gC G + VC v) (hn : n + VS vF ≤ gS G + VS v)
    (hnext : ∀ h PM wa wb k n, jY PM vB.1 → okW vB → szT vB.2.1 vB.2.2 → k + VC vF ≤ gC G + VC vB → n + VS vF ≤ gS G + VS vB → dgF h rest = hF → AW 99 G 32 [some (.ref 0), some (.long h), none, some (.int (nI (x + 1))), none, none] [] (jH (jC J vB wa wb) PM) k n) :
    ∀ (j w : Nat) (h : Int64), w + j = 4 → dgF h ((List.range' w j).map (opA p) ++ ((List.range' 1 4).map (fun m => nI (cntR p m)) ++ rest)) = hF →
    AW 99 G 51 [some (.ref 0), some (.long h), none, some (.int (nI x)), some (.ref (31 + 18 * x)), some (.int (nI w))] [] (jH (jC J v wa wb) PM) k n := by
  obtain ⟨a1, a2⟩ := ctW_le (x := x) (n := 4) hx hok
  obtain ⟨b1, b2⟩ := ctL_le (x := x) hx 4 a2
  rw [hv] at b1
  have b0 := leW_tr b1 hBF
  have b00 := leW_tr a1 b0
  have w1 := b0.1
  have w2 := b0.2.1
  have w3 := b00.1
  have w4 := b00.2.1
  intro j
  induction j with
  | zero =>
    intro w h hj hh
    have e1 : w = 4 := by omega
    subst e1
    obtain ⟨mv, hmv, hcn⟩ := V_count 0 x 4 hx (by omega) J PM v wa wb hy hs (Nat.le_trans (extL_len (b0.2.2 x).1) h14)
    have hle := ctN_le (n := 4) (τ := (v.1 x, v.2)) (hok x)
    have f1 := fY_upd (f := yS) (ν := v.1) hx (ctN 4 (v.1 x, v.2)).1
    have f2 := fY_upd (f := yC) (ν := v.1) hx (ctN 4 (v.1 x, v.2)).1
    have g1 : VC (ctW x 4 v) = VC v + (tC (ctN 4 (v.1 x, v.2)) - tC (v.1 x, v.2)) := by
      have h2 := hle.2.1
      unfold tC at h2 ⊢
      dsimp only at h2 ⊢
      show fY yC (upN v.1 x (ctN 4 (v.1 x, v.2)).1) + (ctN 4 (v.1 x, v.2)).2.1 + (ctN 4 (v.1 x, v.2)).2.2 = fY yC v.1 + v.2.1 + v.2.2 + _
      omega
    have g2 : VS (ctW x 4 v) = VS v + (tS (ctN 4 (v.1 x, v.2)) - tS (v.1 x, v.2)) := by
      have h2 := hle.1
      unfold tS at h2 ⊢
      dsimp only at h2 ⊢
      show fY yS (upN v.1 x (ctN 4 (v.1 x, v.2)).1) + 2 * (ctN 4 (v.1 x, v.2)).2.1 + 2 * (ctN 4 (v.1 x, v.2)).2.2 = fY yS v.1 + 2 * v.2.1 + 2 * v.2.2 + _
      omega
    have hp2 : ((ctW x 4 v).1 x).1 = p := by
      rw [← (a1.2.2 x).2]
      exact hp
    generalize tC (ctN 4 (v.1 x, v.2)) - tC (v.1 x, v.2) = cC at *
    generalize tS (ctN 4 (v.1 x, v.2)) - tS (v.1 x, v.2) = cS at *
    have hgo : ∀ PM' wa' wb', jY PM' (ctW x 4 v).1 → szT (ctW x 4 v).2.1 (ctW x 4 v).2.2 → AW 99 G 92 [some (.ref 0), some (.long h), none, some (.int (nI x)), some (.ref (31 + 18 * x)), some (.int (nI 1))] [] (jH (jC J (ctW x 4 v) wa' wb') PM') (k + cC) (n + cS) := fun PM' wa' wb' hy' hs' => l_dgB hF J x hx p rest vB vF hBF h14 ggd ggn ggm hnext 4 1 h (ctW x 4 v) PM' wa' wb' _ _ (by omega) hy' a2 hs' hp2 hv (by omega) (by omega) hh
    clear hnext hle f1 f2
    have cc : k + cC ≤ gC G := by omega
    have cs : n + cS ≤ gS G := by omega
    generalize ctW x 4 v = v' at *
    generalize cntR (v.1 x).1 4 = a at *
    refine wq_aw (S := fun x => x == 32 || x == 51 || x == 92) (by decide) (f := 200) ?_
    simp (disch := first | exact rfl | decide | omega) only [v_99_6, v_99_32, v_99_51, v_99_92, v_99_131, v_99_157, u_99_0, u_99_3, u_99_4, u_99_5, u_99_6, u_99_7, u_99_8, u_99_11, u_99_14, u_99_15, u_99_16, u_99_17, u_99_18, u_99_21, u_99_22, u_99_23, u_99_24, u_99_27, u_99_30, u_99_31, u_99_32, u_99_33, u_99_35, u_99_38, u_99_39, u_99_42, u_99_43, u_99_46, u_99_48, u_99_49, u_99_51, u_99_53, u_99_54, u_99_57, u_99_60, u_99_61, u_99_62, u_99_64, u_99_66, u_99_69, u_99_70, u_99_71, u_99_72, u_99_75, u_99_78, u_99_79, u_99_82, u_99_84, u_99_85, u_99_88, u_99_89, u_99_90, u_99_92, u_99_94, u_99_95, u_99_98, u_99_101, u_99_102, u_99_103, u_99_104, u_99_107, u_99_109, u_99_111, u_99_114, u_99_115, u_99_116, u_99_117, u_99_120, u_99_123, u_99_126, u_99_129, u_99_130, u_99_131, u_99_132, u_99_133, u_99_136, u_99_139, u_99_140, u_99_141, u_99_142, u_99_143, u_99_146, u_99_147, u_99_148, u_99_149, u_99_152, u_99_155, u_99_156, u_99_157, u_99_158, u_99_159, u_99_162, u_99_165, u_99_168, u_99_169, u_99_171, u_99_174, u_99_177, u_99_178, u_99_179, u_99_180, u_99_183, u_99_186, u_99_187, u_99_188, u_99_189, u_99_190, u_99_191, u_99_194, u_99_197, u_99_198, wp_stop, lget, lput1, lput2, kil, hget, hset, vget, vset, fget, fgetC, fput, fputC, iget, igetC, jget, jgetC, qget, qgetC, alen, lenC, oI, oJ, oF, oA, oV, oH, oInc, oIld, oJld, oQld, oR, oLen, oIst, oBst, oJst, oQst, ciOf, rcv, oCp, cat1, cond_true, cond_false, Bool.and_self, Bool.and_true, Bool.true_and, Bool.or_true, Bool.true_or, Bool.or_false, Bool.false_or, Bool.not_false, Bool.not_true, ↓reduceIte, Nat.reduceBEq, Nat.reduceEqDiff, beq_self_eq_true, true_and, and_true, eq_self_iff_true, Nat.reduceAdd, Nat.blt, Nat.ble, z_le, z_lt, z_eq, z_cl, z_add, z_sub, z_mul, z_in, z_lt0, z_ofN, z_m1, z_ltm1, z_m1lt, z_eqm1, z_m1eq, z_m1le, z_lem1, z_beq, nI_0_1, nI_m1lt0, nI_0lem1, not_false_eq_true, not_true_eq_false, forall_const, false_implies, true_implies, implies_true, false_and, and_false, mrg, renc, tra, trv, sg, List.map_cons, List.map_nil, Option.map_some, Option.map_none, Option.toList_some, Option.toList_none, List.cons_append, List.nil_append, List.length_cons, List.length_nil, jH, jF, show (3 : Nat) < 4 by decide]
    refine CAL.dirM hcn ggd cc cs (Nat.le_of_ble_eq_true rfl) (by rw [ggn]; exact Nat.le_of_ble_eq_true rfl) (fun j _ z => by
      cases hc : mv j
      · rfl
      · rw [ggm, hmv j hc] at z
        exact absurd z (by decide)) (okL_mono hmv (okL_e hx rfl rfl rfl rfl (jH_len (jC J v wa wb) PM))) rfl ?_
    rintro _ _ ⟨rfl, wa', wb', PM', rfl, hy', hs'⟩
    have hf := hgo PM' wa' wb' hy' hs'
    simp (disch := first | exact rfl | decide | omega) only [u_99_0, u_99_3, u_99_4, u_99_5, u_99_6, u_99_7, u_99_8, u_99_11, u_99_14, u_99_15, u_99_16, u_99_17, u_99_18, u_99_21, u_99_22, u_99_23, u_99_24, u_99_27, u_99_30, u_99_31, u_99_32, u_99_33, u_99_35, u_99_38, u_99_39, u_99_42, u_99_43, u_99_46, u_99_48, u_99_49, u_99_51, u_99_53, u_99_54, u_99_57, u_99_60, u_99_61, u_99_62, u_99_64, u_99_66, u_99_69, u_99_70, u_99_71, u_99_72, u_99_75, u_99_78, u_99_79, u_99_82, u_99_84, u_99_85, u_99_88, u_99_89, u_99_90, u_99_92, u_99_94, u_99_95, u_99_98, u_99_101, u_99_102, u_99_103, u_99_104, u_99_107, u_99_109, u_99_111, u_99_114, u_99_115, u_99_116, u_99_117, u_99_120, u_99_123, u_99_126, u_99_129, u_99_130, u_99_131, u_99_132, u_99_133, u_99_136, u_99_139, u_99_140, u_99_141, u_99_142, u_99_143, u_99_146, u_99_147, u_99_148, u_99_149, u_99_152, u_99_155, u_99_156, u_99_157, u_99_158, u_99_159, u_99_162, u_99_165, u_99_168, u_99_169, u_99_171, u_99_174, u_99_177, u_99_178, u_99_179, u_99_180, u_99_183, u_99_186, u_99_187, u_99_188, u_99_189, u_99_190, u_99_191, u_99_194, u_99_197, u_99_198, wp_stop, lget, lput1, lput2, kil, hget, hset, vget, vset, fget, fgetC, fput, fputC, iget, igetC, jget, jgetC, qget, qgetC, alen, lenC, oI, oJ, oF, oA, oV, oH, oInc, oIld, oJld, oQld, oR, oLen, oIst, oBst, oJst, oQst, ciOf, rcv, oCp, cat1, cond_true, cond_false, Bool.and_self, Bool.and_true, Bool.true_and, Bool.or_true, Bool.true_or, Bool.or_false, Bool.false_or, Bool.not_false, Bool.not_true, ↓reduceIte, Nat.reduceBEq, Nat.reduceEqDiff, beq_self_eq_true, true_and, and_true, eq_self_iff_true, Nat.reduceAdd, Nat.blt, Nat.ble, z_le, z_lt, z_eq, z_cl, z_add, z_sub, z_mul, z_in, z_lt0, z_ofN, z_m1, z_ltm1, z_m1lt, z_eqm1, z_m1eq, z_m1le, z_lem1, z_beq, nI_0_1, nI_m1lt0, nI_0lem1, not_false_eq_true, not_true_eq_false, forall_const, false_implies, true_implies, implies_true, false_and, and_false, mrg, renc, tra, trv, sg, List.map_cons, List.map_nil, Option.map_some, Option.map_none, Option.toList_some, Option.toList_none, List.cons_append, List.nil_append, List.length_cons, List.length_nil]
    exact hf
  | succ j ih =>
    intro w h hj hh
    have hgo := ih (w + 1) (lN 31 * h + (opA p w).toInt64) (by omega) hh
    have hop := y_ofPattern 0 w (by omega) (hy x hx)
    rw [hp] at hop
    clear ih hnext
    have t1 : ¬ 3 < w := by omega
    have cc : k ≤ gC G := by omega
    have cs : n ≤ gS G := by omega
    generalize opA p w = a at *
    refine wq_aw (S := fun x => x == 32 || x == 51 || x == 92) (by decide) (f := 200) ?_
    simp (disch := first | exact rfl | decide | omega) only [v_99_6, v_99_32, v_99_51, v_99_92, v_99_131, v_99_157, u_99_0, u_99_3, u_99_4, u_99_5, u_99_6, u_99_7, u_99_8, u_99_11, u_99_14, u_99_15, u_99_16, u_99_17, u_99_18, u_99_21, u_99_22, u_99_23, u_99_24, u_99_27, u_99_30, u_99_31, u_99_32, u_99_33, u_99_35, u_99_38, u_99_39, u_99_42, u_99_43, u_99_46, u_99_48, u_99_49, u_99_51, u_99_53, u_99_54, u_99_57, u_99_60, u_99_61, u_99_62, u_99_64, u_99_66, u_99_69, u_99_70, u_99_71, u_99_72, u_99_75, u_99_78, u_99_79, u_99_82, u_99_84, u_99_85, u_99_88, u_99_89, u_99_90, u_99_92, u_99_94, u_99_95, u_99_98, u_99_101, u_99_102, u_99_103, u_99_104, u_99_107, u_99_109, u_99_111, u_99_114, u_99_115, u_99_116, u_99_117, u_99_120, u_99_123, u_99_126, u_99_129, u_99_130, u_99_131, u_99_132, u_99_133, u_99_136, u_99_139, u_99_140, u_99_141, u_99_142, u_99_143, u_99_146, u_99_147, u_99_148, u_99_149, u_99_152, u_99_155, u_99_156, u_99_157, u_99_158, u_99_159, u_99_162, u_99_165, u_99_168, u_99_169, u_99_171, u_99_174, u_99_177, u_99_178, u_99_179, u_99_180, u_99_183, u_99_186, u_99_187, u_99_188, u_99_189, u_99_190, u_99_191, u_99_194, u_99_197, u_99_198, wp_stop, lget, lput1, lput2, kil, hget, hset, vget, vset, fget, fgetC, fput, fputC, iget, igetC, jget, jgetC, qget, qgetC, alen, lenC, oI, oJ, oF, oA, oV, oH, oInc, oIld, oJld, oQld, oR, oLen, oIst, oBst, oJst, oQst, ciOf, rcv, oCp, cat1, cond_true, cond_false, Bool.and_self, Bool.and_true, Bool.true_and, Bool.or_true, Bool.true_or, Bool.or_false, Bool.false_or, Bool.not_false, Bool.not_true, ↓reduceIte, Nat.reduceBEq, Nat.reduceEqDiff, beq_self_eq_true, true_and, and_true, eq_self_iff_true, Nat.reduceAdd, Nat.blt, Nat.ble, z_le, z_lt, z_eq, z_cl, z_add, z_sub, z_mul, z_in, z_lt0, z_ofN, z_m1, z_ltm1, z_m1lt, z_eqm1, z_m1eq, z_m1le, z_lem1, z_beq, nI_0_1, nI_m1lt0, nI_0lem1, not_false_eq_true, not_true_eq_false, forall_const, false_implies, true_implies, implies_true, false_and, and_false, mrg, renc, tra, trv, sg, List.map_cons, List.map_nil, Option.map_some, Option.map_none, Option.toList_some, Option.toList_none, List.cons_append, List.nil_append, List.length_cons, List.length_nil, t1]
    show CAL _ _ _ (.ref ((jF (jC J v wa wb)).length + 18 * x) :: _) _ _ _ (jF (jC J v wa wb) ++ blks (jF (jC J v wa wb)).length PM 9) _ _
    refine CAL.blkR hop hx (okF_jF (jC J v wa wb)) (fun _ => rfl) (fun _ => rfl) (by show 3 ≤ gD G; omega) cc cs (Nat.le_of_ble_eq_true rfl) (by rw [ggn]; exact Nat.le_of_ble_eq_true rfl) (okL_d hx rfl rfl rfl rfl rfl) rfl ?_
    simp (disch := first | exact rfl | decide | omega) only [u_99_0, u_99_3, u_99_4, u_99_5, u_99_6, u_99_7, u_99_8, u_99_11, u_99_14, u_99_15, u_99_16, u_99_17, u_99_18, u_99_21, u_99_22, u_99_23, u_99_24, u_99_27, u_99_30, u_99_31, u_99_32, u_99_33, u_99_35, u_99_38, u_99_39, u_99_42, u_99_43, u_99_46, u_99_48, u_99_49, u_99_51, u_99_53, u_99_54, u_99_57, u_99_60, u_99_61, u_99_62, u_99_64, u_99_66, u_99_69, u_99_70, u_99_71, u_99_72, u_99_75, u_99_78, u_99_79, u_99_82, u_99_84, u_99_85, u_99_88, u_99_89, u_99_90, u_99_92, u_99_94, u_99_95, u_99_98, u_99_101, u_99_102, u_99_103, u_99_104, u_99_107, u_99_109, u_99_111, u_99_114, u_99_115, u_99_116, u_99_117, u_99_120, u_99_123, u_99_126, u_99_129, u_99_130, u_99_131, u_99_132, u_99_133, u_99_136, u_99_139, u_99_140, u_99_141, u_99_142, u_99_143, u_99_146, u_99_147, u_99_148, u_99_149, u_99_152, u_99_155, u_99_156, u_99_157, u_99_158, u_99_159, u_99_162, u_99_165, u_99_168, u_99_169, u_99_171, u_99_174, u_99_177, u_99_178, u_99_179, u_99_180, u_99_183, u_99_186, u_99_187, u_99_188, u_99_189, u_99_190, u_99_191, u_99_194, u_99_197, u_99_198, wp_stop, lget, lput1, lput2, kil, hget, hset, vget, vset, fget, fgetC, fput, fputC, iget, igetC, jget, jgetC, qget, qgetC, alen, lenC, oI, oJ, oF, oA, oV, oH, oInc, oIld, oJld, oQld, oR, oLen, oIst, oBst, oJst, oQst, ciOf, rcv, oCp, cat1, cond_true, cond_false, Bool.and_self, Bool.and_true, Bool.true_and, Bool.or_true, Bool.true_or, Bool.or_false, Bool.false_or, Bool.not_false, Bool.not_true, ↓reduceIte, Nat.reduceBEq, Nat.reduceEqDiff, beq_self_eq_true, true_and, and_true, eq_self_iff_true, Nat.reduceAdd, Nat.blt, Nat.ble, z_le, z_lt, z_eq, z_cl, z_add, z_sub, z_mul, z_in, z_lt0, z_ofN, z_m1, z_ltm1, z_m1lt, z_eqm1, z_m1eq, z_m1le, z_lem1, z_beq, nI_0_1, nI_m1lt0, nI_0lem1, not_false_eq_true, not_true_eq_false, forall_const, false_implies, true_implies, implies_true, false_and, and_false, mrg, renc, tra, trv, sg, List.map_cons, List.map_nil, Option.map_some, Option.map_none, Option.toList_some, Option.toList_none, List.cons_append, List.nil_append, List.length_cons, List.length_nil]
    exact hgo
end DG
