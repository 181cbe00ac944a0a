/-! ResidualJudgeModel.takesPattern -/
/-- one order: where it can't go on, or what is behind it -/
def ordF : rS → List Nat → Nat → Nat ⊕ (rS × List Nat × Nat)
  | _, [], i => .inl i
  | σ, c :: cs, i => if c = 32 then ordF σ cs (i + 1) else match rdT σ c with
    | none => .inl i
    | some σ' => if σ'.ph = 0 then .inr (σ', cs, i + 1) else ordF σ' cs (i + 1)
theorem ordF_c (σ : rS) (c : Nat) (cs : List Nat) (i : Nat) (h : ¬ c = 32) : ordF σ (c :: cs) i = match rdT σ c with | none => .inl i | some σ' => if σ'.ph = 0 then .inr (σ', cs, i + 1) else ordF σ' cs (i + 1) := by
  show (if c = 32 then _ else _) = _
  rw [if_neg h]
theorem ordF_sk (σ : rS) : ∀ (cs : List Nat) (i : Nat), ordF σ cs i = ordF σ (skF cs i).1 (skF cs i).2
  | [], _ => rfl
  | c :: cs, i => by
    unfold skF
    by_cases q : c = 32
    · rw [if_pos q]
      show (if c = 32 then ordF σ cs (i + 1) else _) = _
      rw [if_pos q]
      exact ordF_sk σ cs (i + 1)
    · rw [if_neg q]
/-- a pattern is made -/
def mdO (gmd : Nat → Int32) (L : List Nat) : Prop := ∃ lf, gmd 0 = nI L.length ∧ ndG gmd (kL L) lf L.length ∧ wfP (kL L) lf L.length
theorem mdO_of {gmd gop gwt : Nat → Int32} {gom gwm : Int32} {L : List Nat} (h : prG gmd gop gom gwt gwm [] L 1) (hl : L.length ≤ 16) : mdO gmd L := by
  obtain ⟨lf, st, p1, p2, p3, p4, p5, p6, p7, p8, p9⟩ := h
  cases st with
  | nil => simp [nzW] at p9
  | cons r st =>
    have : st = [] := List.length_eq_zero_iff.mp (by
      rw [List.length_cons] at p9
      have : nzW [] = 0 := rfl
      omega)
    subst this
    obtain ⟨q1, q2⟩ := p8
    refine ⟨lf, p1, p2, by omega, hl, p7, ?_⟩
    rw [q1, Nat.add_sub_cancel]
    exact q2
theorem popW_all {W L : List Nat} (h : W.length = nzW W) : (popW 1 W L).1 = [] := by
  obtain ⟨-, p2, -, -⟩ := popW_inv 1 (Nat.le_refl _) W L
  have := p2 0 (by omega)
  rcases popW_1 W L with e | ⟨W', e⟩
  · exact e
  · rw [e, List.length_cons, nzW_c, if_pos rfl] at this
    have h2 : nzW W' ≤ W'.length := by
      unfold nzW
      exact List.length_filter_le _ _
    omega
theorem rdH_op {σ : rS} {c k : Nat} (h : opB c = some k) : rdH σ c = (if 13 ≤ k then rdN σ k else rdB σ k) ∧ 10 ≤ k ∧ k ≤ 15 ∧ ¬ c = 41 ∧ ¬ c = 59 := by
  unfold opB at h
  unfold rdH
  by_cases q63 : c = 63
  · rw [if_pos q63] at h ⊢
    have := Option.some.inj h
    subst this
    exact ⟨rfl, by decide, by decide, by omega, by omega⟩
  rw [if_neg q63] at h ⊢
  by_cases q42 : c = 42
  · rw [if_pos q42] at h ⊢
    have := Option.some.inj h
    subst this
    exact ⟨rfl, by decide, by decide, by omega, by omega⟩
  rw [if_neg q42] at h ⊢
  by_cases q43 : c = 43
  · rw [if_pos q43] at h ⊢
    have := Option.some.inj h
    subst this
    exact ⟨rfl, by decide, by decide, by omega, by omega⟩
  rw [if_neg q43] at h ⊢
  by_cases q44 : c = 44
  · rw [if_pos q44] at h ⊢
    have := Option.some.inj h
    subst this
    exact ⟨rfl, by decide, by decide, by omega, by omega⟩
  rw [if_neg q44] at h ⊢
  by_cases q38 : c = 38
  · rw [if_pos q38] at h ⊢
    have := Option.some.inj h
    subst this
    exact ⟨rfl, by decide, by decide, by omega, by omega⟩
  rw [if_neg q38] at h ⊢
  by_cases q124 : c = 124
  · rw [if_pos q124] at h ⊢
    have := Option.some.inj h
    subst this
    exact ⟨rfl, by decide, by decide, by omega, by omega⟩
  rw [if_neg q124] at h
  simp at h
theorem rdH_no {σ : rS} {c : Nat} (h : opB c = none) : rdH σ c = if c = 41 then rdC σ else if c = 59 then rdE σ else none := by
  unfold opB at h
  unfold rdH
  by_cases q63 : c = 63
  · rw [if_pos q63] at h; simp at h
  rw [if_neg q63] at h ⊢
  by_cases q42 : c = 42
  · rw [if_pos q42] at h; simp at h
  rw [if_neg q42] at h ⊢
  by_cases q43 : c = 43
  · rw [if_pos q43] at h; simp at h
  rw [if_neg q43] at h ⊢
  by_cases q44 : c = 44
  · rw [if_pos q44] at h; simp at h
  rw [if_neg q44] at h ⊢
  by_cases q38 : c = 38
  · rw [if_pos q38] at h; simp at h
  rw [if_neg q38] at h ⊢
  by_cases q124 : c = 124
  · rw [if_pos q124] at h; simp at h
  rw [if_neg q124]
theorem rdU_ph {σ σ' : rS} {c : Nat} (h : rdU σ c = some σ') : (c = 40 → σ'.ph = 2) ∧ (¬ c = 40 → σ'.ph = 3) := by
  unfold rdU rdN at h
  by_cases q : c = 40
  · rw [if_pos q] at h
    split at h
    · rw [← Option.some.inj h]
      exact ⟨fun _ => rfl, fun w => absurd q w⟩
    · simp at h
  · rw [if_neg q] at h
    refine ⟨fun w => absurd w q, fun _ => ?_⟩
    split at h
    · split at h
      · rw [← Option.some.inj h]
      · simp at h
    · split at h
      · split at h
        · rw [← Option.some.inj h]
        · simp at h
      · simp at h
theorem rdNB_ph {σ σ' : rS} {k : Nat} (h : (if 13 ≤ k then rdN σ k else rdB σ k) = some σ') : (13 ≤ k → σ'.ph = 3) ∧ (¬ 13 ≤ k → σ'.ph = 2) := by
  unfold rdN rdB at h
  by_cases q : 13 ≤ k
  · rw [if_pos q] at h
    split at h
    · rw [← Option.some.inj h]
      exact ⟨fun _ => rfl, fun w => absurd q w⟩
    · simp at h
  · rw [if_neg q] at h
    split at h
    · rw [← Option.some.inj h]
      exact ⟨fun w => absurd w q, fun _ => rfl⟩
    · simp at h
section GM
variable (gal : Nat → Int32) (gps : Nat → Int32) (gst : Int32) (grf : Nat → Int32) (gmy : Int32) (gkd : Nat → Int32) (glf : Nat → Int32) (grt : Nat → Int32) (gpr : Nat → Int32) (gun : Nat → Int32) (gow : Nat → Int32) (gem : Nat → Int32) (ged : Nat → Int32) (gse : Nat → Int32) (gsz : Nat → Int32) (gtx : Nat → Int32) (gtl : Int32) (gsp : Int32) (gmd : Nat → Int32) (gop : Nat → Int32) (gom : Int32) (gwt : Nat → Int32) (gwm : Int32) (gtn : Int32) (gon : Int32) (gsh : Nat → Int32) (gtr : Nat → Int32) (gbl : Int32) (gbd : Int32) (gwh : Nat → Int32) (gfl : Int32) (gfd : Int32) (gfe : Int32)
set_option maxRecDepth 100000 in
set_option maxHeartbeats 16000000 in
theorem l_pattern {G : aG} (T : List Nat) (hT : txR gtx T) (hl : T.length ≤ 150) (hd : 3 ≤ gD G) (ggn : gN G = 21) (res : Nat ⊕ (rS × List Nat × Nat))
    (hbad : ∀ j gmd gop gom gwt gwm gtn gon, res = .inl j → RET G (some (.int (nI 0))) (gH gal gps gst grf gmy gkd glf grt gpr gun gow gem ged gse gsz gtx (nI T.length) (nI j) gmd gop gom gwt gwm gtn gon gsh gtr gbl gbd gwh gfl gfd gfe) 0 0)
    (hok : ∀ σ' cs' i gmd gop gom gwt gwm gtn gon, res = .inr (σ', cs', i + 1) → mdO gmd σ'.L → RET G (some (.int (nI 1))) (gH gal gps gst grf gmy gkd glf grt gpr gun gow gem ged gse gsz gtx (nI T.length) (nI i) gmd gop gom gwt gwm gtn gon gsh gtr gbl gbd gwh gfl gfd gfe) 0 0) :
    ∀ (n i : Nat) (cs : List Nat) (σ : rS) (l2 l3 : Option Value) (gmd gop : Nat → Int32) (gom : Int32) (gwt : Nat → Int32) (gwm gtn gon : Int32), cs.length ≤ n → T.drop i = cs → i ≤ T.length → (σ.ph = 2 ∨ σ.ph = 3) → rdI σ → σ.ord + cs.length + 1 < 2 ^ 20 → ppI σ gmd gop gom gwt gwm gtn gon → okL 21 nomv [l2, l3] = true → ordF σ cs i = res →
    AW 110 G 29 [some (.ref 0), some (.int (bN (σ.ph == 2))), l2, l3] [] (gH gal gps gst grf gmy gkd glf grt gpr gun gow gem ged gse gsz gtx (nI T.length) (nI i) gmd gop gom gwt gwm gtn gon gsh gtr gbl gbd gwh gfl gfd gfe) 0 0 := by
  have hend : ∀ (i : Nat) (cs : List Nat) (σ : rS) (l2 l3 : Option Value) (gmd gop : Nat → Int32) (gom : Int32) (gwt : Nat → Int32) (gwm gtn gon : Int32), (skF cs i).1 = [] → T.drop i = cs → i ≤ T.length → (σ.ph = 2 ∨ σ.ph = 3) → okL 21 nomv [l2, l3] = true → ordF σ cs i = res →
    AW 110 G 29 [some (.ref 0), some (.int (bN (σ.ph == 2))), l2, l3] [] (gH gal gps gst grf gmy gkd glf grt gpr gun gow gem ged gse gsz gtx (nI T.length) (nI i) gmd gop gom gwt gwm gtn gon gsh gtr gbl gbd gwh gfl gfd gfe) 0 0 := by
    intro i cs σ l2 l3 gmd gop gom gwt gwm gtn gon hk hcs hi hph hokl hres
    have hh := g_here gal gps gst grf gmy gkd glf grt gpr gun gow gem ged gse gsz gtx gmd gop gom gwt gwm gtn gon gsh gtr gbl gbd gwh gfl gfd gfe 0 i T cs hT hl hcs hi
    rw [ordF_sk, hk] at hres
    have hf := hbad (skF cs i).2 gmd gop gom gwt gwm gtn gon hres.symm
    rw [hk] at hh
    have hhd : hdV [] = -1 := rfl
    rw [hhd] at hh
    have hok3 : okL 21 nomv [l3] = true := by
      cases l2 with
      | none => exact hokl
      | some w =>
        have : (okV 21 nomv w && okL 21 nomv [l3]) = true := hokl
        rw [Bool.and_eq_true] at this
        exact this.2
    have htu := g_takesUnitM gal gps gst grf gmy gkd glf grt gpr gun gow gem ged gse gsz gtx (nI T.length) (nI (skF cs i).2) gmd gop gom gwt gwm gtn gon gsh gtr gbl gbd gwh gfl gfd gfe 0
    have hop := g_operatorM 0 (gH gal gps gst grf gmy gkd glf grt gpr gun gow gem ged gse gsz gtx (nI T.length) (nI (skF cs i).2) gmd gop gom gwt gwm gtn gon gsh gtr gbl gbd gwh gfl gfd gfe)
    clear hbad hok hcs hres hk
    generalize (skF cs i).2 = i2 at *
    generalize T.length = len at *
    rcases hph with q | q
    · have ez : bN (σ.ph == 2) = nI 1 := by rw [q]; rfl
      rw [ez]
      refine wq_aw (S := fun x => x == 29) (by decide) (f := 200) ?_
      simp (disch := first | exact rfl | decide | omega) only [v_110_29, u_110_0, u_110_1, u_110_4, u_110_5, u_110_6, u_110_7, u_110_8, u_110_9, u_110_12, u_110_13, u_110_14, u_110_17, u_110_18, u_110_19, u_110_22, u_110_23, u_110_24, u_110_27, u_110_28, u_110_29, u_110_30, u_110_33, u_110_34, u_110_35, u_110_38, u_110_39, u_110_40, u_110_43, u_110_46, u_110_47, u_110_48, u_110_49, u_110_51, u_110_54, u_110_55, u_110_58, u_110_59, u_110_60, u_110_63, u_110_64, u_110_66, u_110_69, u_110_70, u_110_73, u_110_76, u_110_77, u_110_78, u_110_81, u_110_82, u_110_83, u_110_86, u_110_87, u_110_88, u_110_91, u_110_92, u_110_93, u_110_96, u_110_97, u_110_98, u_110_101, u_110_104, u_110_105, u_110_107, u_110_110, u_110_111, u_110_114, u_110_117, u_110_118, u_110_119, u_110_122, u_110_123, u_110_124, u_110_125, u_110_128, u_110_129, u_110_130, u_110_131, u_110_134, u_110_135, u_110_136, u_110_139, u_110_142, u_110_143, u_110_144, u_110_145, u_110_147, u_110_150, u_110_151, u_110_154, u_110_155, u_110_156, u_110_157, u_110_158, u_110_161, u_110_162, u_110_163, u_110_166, wp_stop, lget, lput1, lput2, kil, hget, hset, vget, vset, fget, fgetC, fput, fputC, iget, igetC, jget, jgetC, qget, qgetC, alen, lenC, oI, oJ, oF, oA, oV, oH, oInc, oIld, oJld, oQld, oR, oLen, oIst, oBst, oJst, oQst, ciOf, rcv, oCp, cat1, cond_true, cond_false, Bool.and_self, Bool.and_true, Bool.true_and, Bool.or_true, Bool.true_or, Bool.or_false, Bool.false_or, Bool.not_false, Bool.not_true, ↓reduceIte, Nat.reduceBEq, Nat.reduceEqDiff, beq_self_eq_true, true_and, and_true, eq_self_iff_true, Nat.reduceAdd, Nat.blt, Nat.ble, z_le, z_lt, z_eq, z_cl, z_add, z_sub, z_mul, z_in, z_lt0, z_ofN, z_m1, z_ltm1, z_m1lt, z_eqm1, z_m1eq, z_m1le, z_lem1, z_beq, nI_0_1, nI_m1lt0, nI_0lem1, not_false_eq_true, not_true_eq_false, forall_const, false_implies, true_implies, implies_true, false_and, and_false, mrg, renc, tra, trv, sg, List.map_cons, List.map_nil, Option.map_some, Option.map_none, Option.toList_some, Option.toList_none, List.cons_append, List.nil_append, List.length_cons, List.length_nil, gH, gO]
      refine CAL.dir hh (by omega) (Nat.zero_le _) (Nat.zero_le _) (Nat.le_of_ble_eq_true rfl) (by rw [ggn]; exact Nat.le_of_ble_eq_true rfl) hokl rfl ?_
      rintro _ _ ⟨rfl, rfl⟩
      simp (disch := first | exact rfl | decide | omega) only [u_110_0, u_110_1, u_110_4, u_110_5, u_110_6, u_110_7, u_110_8, u_110_9, u_110_12, u_110_13, u_110_14, u_110_17, u_110_18, u_110_19, u_110_22, u_110_23, u_110_24, u_110_27, u_110_28, u_110_29, u_110_30, u_110_33, u_110_34, u_110_35, u_110_38, u_110_39, u_110_40, u_110_43, u_110_46, u_110_47, u_110_48, u_110_49, u_110_51, u_110_54, u_110_55, u_110_58, u_110_59, u_110_60, u_110_63, u_110_64, u_110_66, u_110_69, u_110_70, u_110_73, u_110_76, u_110_77, u_110_78, u_110_81, u_110_82, u_110_83, u_110_86, u_110_87, u_110_88, u_110_91, u_110_92, u_110_93, u_110_96, u_110_97, u_110_98, u_110_101, u_110_104, u_110_105, u_110_107, u_110_110, u_110_111, u_110_114, u_110_117, u_110_118, u_110_119, u_110_122, u_110_123, u_110_124, u_110_125, u_110_128, u_110_129, u_110_130, u_110_131, u_110_134, u_110_135, u_110_136, u_110_139, u_110_142, u_110_143, u_110_144, u_110_145, u_110_147, u_110_150, u_110_151, u_110_154, u_110_155, u_110_156, u_110_157, u_110_158, u_110_161, u_110_162, u_110_163, u_110_166, wp_stop, lget, lput1, lput2, kil, hget, hset, vget, vset, fget, fgetC, fput, fputC, iget, igetC, jget, jgetC, qget, qgetC, alen, lenC, oI, oJ, oF, oA, oV, oH, oInc, oIld, oJld, oQld, oR, oLen, oIst, oBst, oJst, oQst, ciOf, rcv, oCp, cat1, cond_true, cond_false, Bool.and_self, Bool.and_true, Bool.true_and, Bool.or_true, Bool.true_or, Bool.or_false, Bool.false_or, Bool.not_false, Bool.not_true, ↓reduceIte, Nat.reduceBEq, Nat.reduceEqDiff, beq_self_eq_true, true_and, and_true, eq_self_iff_true, Nat.reduceAdd, Nat.blt, Nat.ble, z_le, z_lt, z_eq, z_cl, z_add, z_sub, z_mul, z_in, z_lt0, z_ofN, z_m1, z_ltm1, z_m1lt, z_eqm1, z_m1eq, z_m1le, z_lem1, z_beq, nI_0_1, nI_m1lt0, nI_0lem1, not_false_eq_true, not_true_eq_false, forall_const, false_implies, true_implies, implies_true, false_and, and_false, mrg, renc, tra, trv, sg, List.map_cons, List.map_nil, Option.map_some, Option.map_none, Option.toList_some, Option.toList_none, List.cons_append, List.nil_append, List.length_cons, List.length_nil, gH, gO, n10]
      refine CAL.dir htu (by omega) (Nat.zero_le _) (Nat.zero_le _) (Nat.le_of_ble_eq_true rfl) (by rw [ggn]; exact Nat.le_of_ble_eq_true rfl) hok3 rfl ?_
      rintro _ _ ⟨rfl, rfl⟩
      simp (disch := first | exact rfl | decide | omega) only [u_110_0, u_110_1, u_110_4, u_110_5, u_110_6, u_110_7, u_110_8, u_110_9, u_110_12, u_110_13, u_110_14, u_110_17, u_110_18, u_110_19, u_110_22, u_110_23, u_110_24, u_110_27, u_110_28, u_110_29, u_110_30, u_110_33, u_110_34, u_110_35, u_110_38, u_110_39, u_110_40, u_110_43, u_110_46, u_110_47, u_110_48, u_110_49, u_110_51, u_110_54, u_110_55, u_110_58, u_110_59, u_110_60, u_110_63, u_110_64, u_110_66, u_110_69, u_110_70, u_110_73, u_110_76, u_110_77, u_110_78, u_110_81, u_110_82, u_110_83, u_110_86, u_110_87, u_110_88, u_110_91, u_110_92, u_110_93, u_110_96, u_110_97, u_110_98, u_110_101, u_110_104, u_110_105, u_110_107, u_110_110, u_110_111, u_110_114, u_110_117, u_110_118, u_110_119, u_110_122, u_110_123, u_110_124, u_110_125, u_110_128, u_110_129, u_110_130, u_110_131, u_110_134, u_110_135, u_110_136, u_110_139, u_110_142, u_110_143, u_110_144, u_110_145, u_110_147, u_110_150, u_110_151, u_110_154, u_110_155, u_110_156, u_110_157, u_110_158, u_110_161, u_110_162, u_110_163, u_110_166, wp_stop, lget, lput1, lput2, kil, hget, hset, vget, vset, fget, fgetC, fput, fputC, iget, igetC, jget, jgetC, qget, qgetC, alen, lenC, oI, oJ, oF, oA, oV, oH, oInc, oIld, oJld, oQld, oR, oLen, oIst, oBst, oJst, oQst, ciOf, rcv, oCp, cat1, cond_true, cond_false, Bool.and_self, Bool.and_true, Bool.true_and, Bool.or_true, Bool.true_or, Bool.or_false, Bool.false_or, Bool.not_false, Bool.not_true, ↓reduceIte, Nat.reduceBEq, Nat.reduceEqDiff, beq_self_eq_true, true_and, and_true, eq_self_iff_true, Nat.reduceAdd, Nat.blt, Nat.ble, z_le, z_lt, z_eq, z_cl, z_add, z_sub, z_mul, z_in, z_lt0, z_ofN, z_m1, z_ltm1, z_m1lt, z_eqm1, z_m1eq, z_m1le, z_lem1, z_beq, nI_0_1, nI_m1lt0, nI_0lem1, not_false_eq_true, not_true_eq_false, forall_const, false_implies, true_implies, implies_true, false_and, and_false, mrg, renc, tra, trv, sg, List.map_cons, List.map_nil, Option.map_some, Option.map_none, Option.toList_some, Option.toList_none, List.cons_append, List.nil_append, List.length_cons, List.length_nil, gH, gO]
      exact hf
    · have ez : bN (σ.ph == 2) = nI 0 := by rw [q]; rfl
      rw [ez]
      refine wq_aw (S := fun x => x == 29) (by decide) (f := 200) ?_
      simp (disch := first | exact rfl | decide | omega) only [v_110_29, u_110_0, u_110_1, u_110_4, u_110_5, u_110_6, u_110_7, u_110_8, u_110_9, u_110_12, u_110_13, u_110_14, u_110_17, u_110_18, u_110_19, u_110_22, u_110_23, u_110_24, u_110_27, u_110_28, u_110_29, u_110_30, u_110_33, u_110_34, u_110_35, u_110_38, u_110_39, u_110_40, u_110_43, u_110_46, u_110_47, u_110_48, u_110_49, u_110_51, u_110_54, u_110_55, u_110_58, u_110_59, u_110_60, u_110_63, u_110_64, u_110_66, u_110_69, u_110_70, u_110_73, u_110_76, u_110_77, u_110_78, u_110_81, u_110_82, u_110_83, u_110_86, u_110_87, u_110_88, u_110_91, u_110_92, u_110_93, u_110_96, u_110_97, u_110_98, u_110_101, u_110_104, u_110_105, u_110_107, u_110_110, u_110_111, u_110_114, u_110_117, u_110_118, u_110_119, u_110_122, u_110_123, u_110_124, u_110_125, u_110_128, u_110_129, u_110_130, u_110_131, u_110_134, u_110_135, u_110_136, u_110_139, u_110_142, u_110_143, u_110_144, u_110_145, u_110_147, u_110_150, u_110_151, u_110_154, u_110_155, u_110_156, u_110_157, u_110_158, u_110_161, u_110_162, u_110_163, u_110_166, wp_stop, lget, lput1, lput2, kil, hget, hset, vget, vset, fget, fgetC, fput, fputC, iget, igetC, jget, jgetC, qget, qgetC, alen, lenC, oI, oJ, oF, oA, oV, oH, oInc, oIld, oJld, oQld, oR, oLen, oIst, oBst, oJst, oQst, ciOf, rcv, oCp, cat1, cond_true, cond_false, Bool.and_self, Bool.and_true, Bool.true_and, Bool.or_true, Bool.true_or, Bool.or_false, Bool.false_or, Bool.not_false, Bool.not_true, ↓reduceIte, Nat.reduceBEq, Nat.reduceEqDiff, beq_self_eq_true, true_and, and_true, eq_self_iff_true, Nat.reduceAdd, Nat.blt, Nat.ble, z_le, z_lt, z_eq, z_cl, z_add, z_sub, z_mul, z_in, z_lt0, z_ofN, z_m1, z_ltm1, z_m1lt, z_eqm1, z_m1eq, z_m1le, z_lem1, z_beq, nI_0_1, nI_m1lt0, nI_0lem1, not_false_eq_true, not_true_eq_false, forall_const, false_implies, true_implies, implies_true, false_and, and_false, mrg, renc, tra, trv, sg, List.map_cons, List.map_nil, Option.map_some, Option.map_none, Option.toList_some, Option.toList_none, List.cons_append, List.nil_append, List.length_cons, List.length_nil, gH, gO]
      refine CAL.dir hh (by omega) (Nat.zero_le _) (Nat.zero_le _) (Nat.le_of_ble_eq_true rfl) (by rw [ggn]; exact Nat.le_of_ble_eq_true rfl) hokl rfl ?_
      rintro _ _ ⟨rfl, rfl⟩
      simp (disch := first | exact rfl | decide | omega) only [u_110_0, u_110_1, u_110_4, u_110_5, u_110_6, u_110_7, u_110_8, u_110_9, u_110_12, u_110_13, u_110_14, u_110_17, u_110_18, u_110_19, u_110_22, u_110_23, u_110_24, u_110_27, u_110_28, u_110_29, u_110_30, u_110_33, u_110_34, u_110_35, u_110_38, u_110_39, u_110_40, u_110_43, u_110_46, u_110_47, u_110_48, u_110_49, u_110_51, u_110_54, u_110_55, u_110_58, u_110_59, u_110_60, u_110_63, u_110_64, u_110_66, u_110_69, u_110_70, u_110_73, u_110_76, u_110_77, u_110_78, u_110_81, u_110_82, u_110_83, u_110_86, u_110_87, u_110_88, u_110_91, u_110_92, u_110_93, u_110_96, u_110_97, u_110_98, u_110_101, u_110_104, u_110_105, u_110_107, u_110_110, u_110_111, u_110_114, u_110_117, u_110_118, u_110_119, u_110_122, u_110_123, u_110_124, u_110_125, u_110_128, u_110_129, u_110_130, u_110_131, u_110_134, u_110_135, u_110_136, u_110_139, u_110_142, u_110_143, u_110_144, u_110_145, u_110_147, u_110_150, u_110_151, u_110_154, u_110_155, u_110_156, u_110_157, u_110_158, u_110_161, u_110_162, u_110_163, u_110_166, wp_stop, lget, lput1, lput2, kil, hget, hset, vget, vset, fget, fgetC, fput, fputC, iget, igetC, jget, jgetC, qget, qgetC, alen, lenC, oI, oJ, oF, oA, oV, oH, oInc, oIld, oJld, oQld, oR, oLen, oIst, oBst, oJst, oQst, ciOf, rcv, oCp, cat1, cond_true, cond_false, Bool.and_self, Bool.and_true, Bool.true_and, Bool.or_true, Bool.true_or, Bool.or_false, Bool.false_or, Bool.not_false, Bool.not_true, ↓reduceIte, Nat.reduceBEq, Nat.reduceEqDiff, beq_self_eq_true, true_and, and_true, eq_self_iff_true, Nat.reduceAdd, Nat.blt, Nat.ble, z_le, z_lt, z_eq, z_cl, z_add, z_sub, z_mul, z_in, z_lt0, z_ofN, z_m1, z_ltm1, z_m1lt, z_eqm1, z_m1eq, z_m1le, z_lem1, z_beq, nI_0_1, nI_m1lt0, nI_0lem1, not_false_eq_true, not_true_eq_false, forall_const, false_implies, true_implies, implies_true, false_and, and_false, mrg, renc, tra, trv, sg, List.map_cons, List.map_nil, Option.map_some, Option.map_none, Option.toList_some, Option.toList_none, List.cons_append, List.nil_append, List.length_cons, List.length_nil, gH, gO]
      refine CAL.dir hop (by omega) (Nat.zero_le _) (Nat.zero_le _) (Nat.le_of_ble_eq_true rfl) (by rw [ggn]; exact Nat.le_of_ble_eq_true rfl) hok3 rfl ?_
      rintro _ _ ⟨rfl, rfl⟩
      simp (disch := first | exact rfl | decide | omega) only [u_110_0, u_110_1, u_110_4, u_110_5, u_110_6, u_110_7, u_110_8, u_110_9, u_110_12, u_110_13, u_110_14, u_110_17, u_110_18, u_110_19, u_110_22, u_110_23, u_110_24, u_110_27, u_110_28, u_110_29, u_110_30, u_110_33, u_110_34, u_110_35, u_110_38, u_110_39, u_110_40, u_110_43, u_110_46, u_110_47, u_110_48, u_110_49, u_110_51, u_110_54, u_110_55, u_110_58, u_110_59, u_110_60, u_110_63, u_110_64, u_110_66, u_110_69, u_110_70, u_110_73, u_110_76, u_110_77, u_110_78, u_110_81, u_110_82, u_110_83, u_110_86, u_110_87, u_110_88, u_110_91, u_110_92, u_110_93, u_110_96, u_110_97, u_110_98, u_110_101, u_110_104, u_110_105, u_110_107, u_110_110, u_110_111, u_110_114, u_110_117, u_110_118, u_110_119, u_110_122, u_110_123, u_110_124, u_110_125, u_110_128, u_110_129, u_110_130, u_110_131, u_110_134, u_110_135, u_110_136, u_110_139, u_110_142, u_110_143, u_110_144, u_110_145, u_110_147, u_110_150, u_110_151, u_110_154, u_110_155, u_110_156, u_110_157, u_110_158, u_110_161, u_110_162, u_110_163, u_110_166, wp_stop, lget, lput1, lput2, kil, hget, hset, vget, vset, fget, fgetC, fput, fputC, iget, igetC, jget, jgetC, qget, qgetC, alen, lenC, oI, oJ, oF, oA, oV, oH, oInc, oIld, oJld, oQld, oR, oLen, oIst, oBst, oJst, oQst, ciOf, rcv, oCp, cat1, cond_true, cond_false, Bool.and_self, Bool.and_true, Bool.true_and, Bool.or_true, Bool.true_or, Bool.or_false, Bool.false_or, Bool.not_false, Bool.not_true, ↓reduceIte, Nat.reduceBEq, Nat.reduceEqDiff, beq_self_eq_true, true_and, and_true, eq_self_iff_true, Nat.reduceAdd, Nat.blt, Nat.ble, z_le, z_lt, z_eq, z_cl, z_add, z_sub, z_mul, z_in, z_lt0, z_ofN, z_m1, z_ltm1, z_m1lt, z_eqm1, z_m1eq, z_m1le, z_lem1, z_beq, nI_0_1, nI_m1lt0, nI_0lem1, not_false_eq_true, not_true_eq_false, forall_const, false_implies, true_implies, implies_true, false_and, and_false, mrg, renc, tra, trv, sg, List.map_cons, List.map_nil, Option.map_some, Option.map_none, Option.toList_some, Option.toList_none, List.cons_append, List.nil_append, List.length_cons, List.length_nil, gH, gO]
      exact hf
  intro n
  induction n with
  | zero =>
    intro i cs σ l2 l3 gmd gop gom gwt gwm gtn gon hn hcs hi hph hI ho hp hokl hres
    have e : cs = [] := List.length_eq_zero_iff.mp (by omega)
    subst e
    exact hend i [] σ l2 l3 gmd gop gom gwt gwm gtn gon rfl hcs hi hph hokl hres
  | succ n ih =>
    intro i cs σ l2 l3 gmd gop gom gwt gwm gtn gon hn hcs hi hph hI ho hp hokl hres
    obtain ⟨k1, k2, k3, -⟩ := skF_ok cs i
    have kd := skF_drop hcs
    cases hc : (skF cs i).1 with
    | nil => exact hend i cs σ l2 l3 gmd gop gom gwt gwm gtn gon hc hcs hi hph hokl hres
    | cons c cs3 =>
      clear hend
      have hc32 := k3 c cs3 hc
      rw [hc] at kd
      obtain ⟨d1, d2, d3⟩ := drop_get kd
      obtain ⟨x1, x2⟩ := hT _ c d1
      have hh := g_here gal gps gst grf gmy gkd glf grt gpr gun gow gem ged gse gsz gtx gmd gop gom gwt gwm gtn gon gsh gtr gbl gbd gwh gfl gfd gfe 0 i T cs hT hl hcs hi
      rw [hc] at hh
      have hhd : hdV (c :: cs3) = nI c := rfl
      rw [hhd] at hh
      have hn3 : cs3.length ≤ n := by
        rw [hc, List.length_cons] at k2
        have : cs.length = T.length - i := by rw [← hcs, List.length_drop]
        omega
      have hlc : cs3.length + 1 ≤ cs.length := by
        rw [hc, List.length_cons] at k2
        omega
      rw [ordF_sk, hc, ordF_c _ _ _ _ hc32] at hres
      generalize (skF cs i).2 = i2 at *
      have hi150 : i2 < 150 := by omega
      have hok3 : okL 21 nomv [l3] = true := by
        cases l2 with
        | none => exact hokl
        | some w =>
          have : (okV 21 nomv w && okL 21 nomv [l3]) = true := hokl
          rw [Bool.and_eq_true] at this
          exact this.2
      have hno : rdT σ c = none → ∀ gmd gop gom gwt gwm gtn gon, RET G (some (.int (nI 0))) (gH gal gps gst grf gmy gkd glf grt gpr gun gow gem ged gse gsz gtx (nI T.length) (nI i2) gmd gop gom gwt gwm gtn gon gsh gtr gbl gbd gwh gfl gfd gfe) 0 0 := fun e gmd gop gom gwt gwm gtn gon => by
        rw [e] at hres
        exact hbad i2 gmd gop gom gwt gwm gtn gon hres.symm
      have hgo : ∀ σ' gmd gop gom gwt gwm gtn gon l3, okL 21 nomv [l3] = true → rdT σ c = some σ' → (σ'.ph = 2 ∨ σ'.ph = 3) → ppI σ' gmd gop gom gwt gwm gtn gon → AW 110 G 29 [some (.ref 0), some (.int (bN (σ'.ph == 2))), some (.int (nI c)), l3] [] (gH gal gps gst grf gmy gkd glf grt gpr gun gow gem ged gse gsz gtx (nI T.length) (nI (i2 + 1)) gmd gop gom gwt gwm gtn gon gsh gtr gbl gbd gwh gfl gfd gfe) 0 0 := fun σ' gmd gop gom gwt gwm gtn gon l3 ok3 e e2 e3 => by
        have hs := rdI_s hI (by omega) e
        rw [e] at hres
        have hp0 : ¬ σ'.ph = 0 := by omega
        have hres2 : (if σ'.ph = 0 then Sum.inr (σ', cs3, i2 + 1) else ordF σ' cs3 (i2 + 1)) = res := hres
        rw [if_neg hp0] at hres2
        exact ih (i2 + 1) cs3 σ' (some (.int (nI c))) l3 gmd gop gom gwt gwm gtn gon hn3 d2 (by omega) e2 hs.1 (by omega) e3 ok3 hres2
      have hfin : ∀ σ' gmd gop gom gwt gwm gtn gon, rdT σ c = some σ' → σ'.ph = 0 → mdO gmd σ'.L → RET G (some (.int (nI 1))) (gH gal gps gst grf gmy gkd glf grt gpr gun gow gem ged gse gsz gtx (nI T.length) (nI i2) gmd gop gom gwt gwm gtn gon gsh gtr gbl gbd gwh gfl gfd gfe) 0 0 := fun σ' gmd gop gom gwt gwm gtn gon e e2 e3 => by
        rw [e] at hres
        have hres2 : (if σ'.ph = 0 then Sum.inr (σ', cs3, i2 + 1) else ordF σ' cs3 (i2 + 1)) = res := hres
        rw [if_pos e2] at hres2
        exact hok σ' cs3 i2 gmd gop gom gwt gwm gtn gon hres2.symm e3
      clear ih hbad hok hres
      rcases hph with q2 | q3
      · have ez : bN (σ.ph == 2) = nI 1 := by rw [q2]; rfl
        rw [ez]
        have hT2 : rdT σ c = rdU σ c := by
          unfold rdT
          rw [if_neg (by omega), if_neg (by omega), if_pos q2]
        rw [hT2] at hno hgo hfin
        have htu := g_takesUnit gal gps gst grf gmy gkd glf grt gpr gun gow gem ged gse gsz gtx (nI T.length) (nI i2) gmd gop gom gwt gwm gtn gon gsh gtr gbl gbd gwh gfl gfd gfe 0 c x2 σ hI q2 hp
        clear hcs kd d1 d2 hfin
        generalize T.length = len at *
        refine wq_aw (S := fun x => x == 29) (by decide) (f := 200) ?_
        simp (disch := first | exact rfl | decide | omega) only [v_110_29, u_110_0, u_110_1, u_110_4, u_110_5, u_110_6, u_110_7, u_110_8, u_110_9, u_110_12, u_110_13, u_110_14, u_110_17, u_110_18, u_110_19, u_110_22, u_110_23, u_110_24, u_110_27, u_110_28, u_110_29, u_110_30, u_110_33, u_110_34, u_110_35, u_110_38, u_110_39, u_110_40, u_110_43, u_110_46, u_110_47, u_110_48, u_110_49, u_110_51, u_110_54, u_110_55, u_110_58, u_110_59, u_110_60, u_110_63, u_110_64, u_110_66, u_110_69, u_110_70, u_110_73, u_110_76, u_110_77, u_110_78, u_110_81, u_110_82, u_110_83, u_110_86, u_110_87, u_110_88, u_110_91, u_110_92, u_110_93, u_110_96, u_110_97, u_110_98, u_110_101, u_110_104, u_110_105, u_110_107, u_110_110, u_110_111, u_110_114, u_110_117, u_110_118, u_110_119, u_110_122, u_110_123, u_110_124, u_110_125, u_110_128, u_110_129, u_110_130, u_110_131, u_110_134, u_110_135, u_110_136, u_110_139, u_110_142, u_110_143, u_110_144, u_110_145, u_110_147, u_110_150, u_110_151, u_110_154, u_110_155, u_110_156, u_110_157, u_110_158, u_110_161, u_110_162, u_110_163, u_110_166, wp_stop, lget, lput1, lput2, kil, hget, hset, vget, vset, fget, fgetC, fput, fputC, iget, igetC, jget, jgetC, qget, qgetC, alen, lenC, oI, oJ, oF, oA, oV, oH, oInc, oIld, oJld, oQld, oR, oLen, oIst, oBst, oJst, oQst, ciOf, rcv, oCp, cat1, cond_true, cond_false, Bool.and_self, Bool.and_true, Bool.true_and, Bool.or_true, Bool.true_or, Bool.or_false, Bool.false_or, Bool.not_false, Bool.not_true, ↓reduceIte, Nat.reduceBEq, Nat.reduceEqDiff, beq_self_eq_true, true_and, and_true, eq_self_iff_true, Nat.reduceAdd, Nat.blt, Nat.ble, z_le, z_lt, z_eq, z_cl, z_add, z_sub, z_mul, z_in, z_lt0, z_ofN, z_m1, z_ltm1, z_m1lt, z_eqm1, z_m1eq, z_m1le, z_lem1, z_beq, nI_0_1, nI_m1lt0, nI_0lem1, not_false_eq_true, not_true_eq_false, forall_const, false_implies, true_implies, implies_true, false_and, and_false, mrg, renc, tra, trv, sg, List.map_cons, List.map_nil, Option.map_some, Option.map_none, Option.toList_some, Option.toList_none, List.cons_append, List.nil_append, List.length_cons, List.length_nil, gH, gO]
        refine CAL.dir hh (by omega) (Nat.zero_le _) (Nat.zero_le _) (Nat.le_of_ble_eq_true rfl) (by rw [ggn]; exact Nat.le_of_ble_eq_true rfl) hokl rfl ?_
        rintro _ _ ⟨rfl, rfl⟩
        simp (disch := first | exact rfl | decide | omega) only [u_110_0, u_110_1, u_110_4, u_110_5, u_110_6, u_110_7, u_110_8, u_110_9, u_110_12, u_110_13, u_110_14, u_110_17, u_110_18, u_110_19, u_110_22, u_110_23, u_110_24, u_110_27, u_110_28, u_110_29, u_110_30, u_110_33, u_110_34, u_110_35, u_110_38, u_110_39, u_110_40, u_110_43, u_110_46, u_110_47, u_110_48, u_110_49, u_110_51, u_110_54, u_110_55, u_110_58, u_110_59, u_110_60, u_110_63, u_110_64, u_110_66, u_110_69, u_110_70, u_110_73, u_110_76, u_110_77, u_110_78, u_110_81, u_110_82, u_110_83, u_110_86, u_110_87, u_110_88, u_110_91, u_110_92, u_110_93, u_110_96, u_110_97, u_110_98, u_110_101, u_110_104, u_110_105, u_110_107, u_110_110, u_110_111, u_110_114, u_110_117, u_110_118, u_110_119, u_110_122, u_110_123, u_110_124, u_110_125, u_110_128, u_110_129, u_110_130, u_110_131, u_110_134, u_110_135, u_110_136, u_110_139, u_110_142, u_110_143, u_110_144, u_110_145, u_110_147, u_110_150, u_110_151, u_110_154, u_110_155, u_110_156, u_110_157, u_110_158, u_110_161, u_110_162, u_110_163, u_110_166, wp_stop, lget, lput1, lput2, kil, hget, hset, vget, vset, fget, fgetC, fput, fputC, iget, igetC, jget, jgetC, qget, qgetC, alen, lenC, oI, oJ, oF, oA, oV, oH, oInc, oIld, oJld, oQld, oR, oLen, oIst, oBst, oJst, oQst, ciOf, rcv, oCp, cat1, cond_true, cond_false, Bool.and_self, Bool.and_true, Bool.true_and, Bool.or_true, Bool.true_or, Bool.or_false, Bool.false_or, Bool.not_false, Bool.not_true, ↓reduceIte, Nat.reduceBEq, Nat.reduceEqDiff, beq_self_eq_true, true_and, and_true, eq_self_iff_true, Nat.reduceAdd, Nat.blt, Nat.ble, z_le, z_lt, z_eq, z_cl, z_add, z_sub, z_mul, z_in, z_lt0, z_ofN, z_m1, z_ltm1, z_m1lt, z_eqm1, z_m1eq, z_m1le, z_lem1, z_beq, nI_0_1, nI_m1lt0, nI_0lem1, not_false_eq_true, not_true_eq_false, forall_const, false_implies, true_implies, implies_true, false_and, and_false, mrg, renc, tra, trv, sg, List.map_cons, List.map_nil, Option.map_some, Option.map_none, Option.toList_some, Option.toList_none, List.cons_append, List.nil_append, List.length_cons, List.length_nil, gH, gO, n10]
        refine CAL.dir htu (by omega) (Nat.zero_le _) (Nat.zero_le _) (Nat.le_of_ble_eq_true rfl) (by rw [ggn]; exact Nat.le_of_ble_eq_true rfl) hok3 rfl ?_
        rintro _ _ ⟨rfl, gmd, gop, gom, gwt, gwm, gtn, gon, rfl, hq⟩
        cases hr : rdU σ c with
        | none =>
          have hf := hno hr gmd gop gom gwt gwm gtn gon
          clear hno hgo
          have e1 : bN (Option.isSome (none : Option rS)) = nI 0 := rfl
          rw [e1]
          simp (disch := first | exact rfl | decide | omega) only [u_110_0, u_110_1, u_110_4, u_110_5, u_110_6, u_110_7, u_110_8, u_110_9, u_110_12, u_110_13, u_110_14, u_110_17, u_110_18, u_110_19, u_110_22, u_110_23, u_110_24, u_110_27, u_110_28, u_110_29, u_110_30, u_110_33, u_110_34, u_110_35, u_110_38, u_110_39, u_110_40, u_110_43, u_110_46, u_110_47, u_110_48, u_110_49, u_110_51, u_110_54, u_110_55, u_110_58, u_110_59, u_110_60, u_110_63, u_110_64, u_110_66, u_110_69, u_110_70, u_110_73, u_110_76, u_110_77, u_110_78, u_110_81, u_110_82, u_110_83, u_110_86, u_110_87, u_110_88, u_110_91, u_110_92, u_110_93, u_110_96, u_110_97, u_110_98, u_110_101, u_110_104, u_110_105, u_110_107, u_110_110, u_110_111, u_110_114, u_110_117, u_110_118, u_110_119, u_110_122, u_110_123, u_110_124, u_110_125, u_110_128, u_110_129, u_110_130, u_110_131, u_110_134, u_110_135, u_110_136, u_110_139, u_110_142, u_110_143, u_110_144, u_110_145, u_110_147, u_110_150, u_110_151, u_110_154, u_110_155, u_110_156, u_110_157, u_110_158, u_110_161, u_110_162, u_110_163, u_110_166, wp_stop, lget, lput1, lput2, kil, hget, hset, vget, vset, fget, fgetC, fput, fputC, iget, igetC, jget, jgetC, qget, qgetC, alen, lenC, oI, oJ, oF, oA, oV, oH, oInc, oIld, oJld, oQld, oR, oLen, oIst, oBst, oJst, oQst, ciOf, rcv, oCp, cat1, cond_true, cond_false, Bool.and_self, Bool.and_true, Bool.true_and, Bool.or_true, Bool.true_or, Bool.or_false, Bool.false_or, Bool.not_false, Bool.not_true, ↓reduceIte, Nat.reduceBEq, Nat.reduceEqDiff, beq_self_eq_true, true_and, and_true, eq_self_iff_true, Nat.reduceAdd, Nat.blt, Nat.ble, z_le, z_lt, z_eq, z_cl, z_add, z_sub, z_mul, z_in, z_lt0, z_ofN, z_m1, z_ltm1, z_m1lt, z_eqm1, z_m1eq, z_m1le, z_lem1, z_beq, nI_0_1, nI_m1lt0, nI_0lem1, not_false_eq_true, not_true_eq_false, forall_const, false_implies, true_implies, implies_true, false_and, and_false, mrg, renc, tra, trv, sg, List.map_cons, List.map_nil, Option.map_some, Option.map_none, Option.toList_some, Option.toList_none, List.cons_append, List.nil_append, List.length_cons, List.length_nil, gH, gO]
          exact hf
        | some σ' =>
          obtain ⟨u1, u2⟩ := rdU_ph hr
          have hph : σ'.ph = 2 ∨ σ'.ph = 3 := by
            by_cases z : c = 40
            · exact Or.inl (u1 z)
            · exact Or.inr (u2 z)
          have hg := hgo σ' gmd gop gom gwt gwm gtn gon l3 hok3 hr hph (hq σ' hr)
          clear hno hgo
          have e1 : bN (Option.isSome (some σ')) = nI 1 := rfl
          rw [e1]
          by_cases z : c = 40
          · have e2 : bN (σ'.ph == 2) = nI 1 := by rw [u1 z]; rfl
            rw [e2] at hg
            subst z
            simp (disch := first | exact rfl | decide | omega) only [u_110_0, u_110_1, u_110_4, u_110_5, u_110_6, u_110_7, u_110_8, u_110_9, u_110_12, u_110_13, u_110_14, u_110_17, u_110_18, u_110_19, u_110_22, u_110_23, u_110_24, u_110_27, u_110_28, u_110_29, u_110_30, u_110_33, u_110_34, u_110_35, u_110_38, u_110_39, u_110_40, u_110_43, u_110_46, u_110_47, u_110_48, u_110_49, u_110_51, u_110_54, u_110_55, u_110_58, u_110_59, u_110_60, u_110_63, u_110_64, u_110_66, u_110_69, u_110_70, u_110_73, u_110_76, u_110_77, u_110_78, u_110_81, u_110_82, u_110_83, u_110_86, u_110_87, u_110_88, u_110_91, u_110_92, u_110_93, u_110_96, u_110_97, u_110_98, u_110_101, u_110_104, u_110_105, u_110_107, u_110_110, u_110_111, u_110_114, u_110_117, u_110_118, u_110_119, u_110_122, u_110_123, u_110_124, u_110_125, u_110_128, u_110_129, u_110_130, u_110_131, u_110_134, u_110_135, u_110_136, u_110_139, u_110_142, u_110_143, u_110_144, u_110_145, u_110_147, u_110_150, u_110_151, u_110_154, u_110_155, u_110_156, u_110_157, u_110_158, u_110_161, u_110_162, u_110_163, u_110_166, wp_stop, lget, lput1, lput2, kil, hget, hset, vget, vset, fget, fgetC, fput, fputC, iget, igetC, jget, jgetC, qget, qgetC, alen, lenC, oI, oJ, oF, oA, oV, oH, oInc, oIld, oJld, oQld, oR, oLen, oIst, oBst, oJst, oQst, ciOf, rcv, oCp, cat1, cond_true, cond_false, Bool.and_self, Bool.and_true, Bool.true_and, Bool.or_true, Bool.true_or, Bool.or_false, Bool.false_or, Bool.not_false, Bool.not_true, ↓reduceIte, Nat.reduceBEq, Nat.reduceEqDiff, beq_self_eq_true, true_and, and_true, eq_self_iff_true, Nat.reduceAdd, Nat.blt, Nat.ble, z_le, z_lt, z_eq, z_cl, z_add, z_sub, z_mul, z_in, z_lt0, z_ofN, z_m1, z_ltm1, z_m1lt, z_eqm1, z_m1eq, z_m1le, z_lem1, z_beq, nI_0_1, nI_m1lt0, nI_0lem1, not_false_eq_true, not_true_eq_false, forall_const, false_implies, true_implies, implies_true, false_and, and_false, mrg, renc, tra, trv, sg, List.map_cons, List.map_nil, Option.map_some, Option.map_none, Option.toList_some, Option.toList_none, List.cons_append, List.nil_append, List.length_cons, List.length_nil, gH, gO, n10]
            exact hg
          · have e2 : bN (σ'.ph == 2) = nI 0 := by rw [u2 z]; rfl
            rw [e2] at hg
            simp (disch := first | exact rfl | decide | omega) only [u_110_0, u_110_1, u_110_4, u_110_5, u_110_6, u_110_7, u_110_8, u_110_9, u_110_12, u_110_13, u_110_14, u_110_17, u_110_18, u_110_19, u_110_22, u_110_23, u_110_24, u_110_27, u_110_28, u_110_29, u_110_30, u_110_33, u_110_34, u_110_35, u_110_38, u_110_39, u_110_40, u_110_43, u_110_46, u_110_47, u_110_48, u_110_49, u_110_51, u_110_54, u_110_55, u_110_58, u_110_59, u_110_60, u_110_63, u_110_64, u_110_66, u_110_69, u_110_70, u_110_73, u_110_76, u_110_77, u_110_78, u_110_81, u_110_82, u_110_83, u_110_86, u_110_87, u_110_88, u_110_91, u_110_92, u_110_93, u_110_96, u_110_97, u_110_98, u_110_101, u_110_104, u_110_105, u_110_107, u_110_110, u_110_111, u_110_114, u_110_117, u_110_118, u_110_119, u_110_122, u_110_123, u_110_124, u_110_125, u_110_128, u_110_129, u_110_130, u_110_131, u_110_134, u_110_135, u_110_136, u_110_139, u_110_142, u_110_143, u_110_144, u_110_145, u_110_147, u_110_150, u_110_151, u_110_154, u_110_155, u_110_156, u_110_157, u_110_158, u_110_161, u_110_162, u_110_163, u_110_166, wp_stop, lget, lput1, lput2, kil, hget, hset, vget, vset, fget, fgetC, fput, fputC, iget, igetC, jget, jgetC, qget, qgetC, alen, lenC, oI, oJ, oF, oA, oV, oH, oInc, oIld, oJld, oQld, oR, oLen, oIst, oBst, oJst, oQst, ciOf, rcv, oCp, cat1, cond_true, cond_false, Bool.and_self, Bool.and_true, Bool.true_and, Bool.or_true, Bool.true_or, Bool.or_false, Bool.false_or, Bool.not_false, Bool.not_true, ↓reduceIte, Nat.reduceBEq, Nat.reduceEqDiff, beq_self_eq_true, true_and, and_true, eq_self_iff_true, Nat.reduceAdd, Nat.blt, Nat.ble, z_le, z_lt, z_eq, z_cl, z_add, z_sub, z_mul, z_in, z_lt0, z_ofN, z_m1, z_ltm1, z_m1lt, z_eqm1, z_m1eq, z_m1le, z_lem1, z_beq, nI_0_1, nI_m1lt0, nI_0lem1, not_false_eq_true, not_true_eq_false, forall_const, false_implies, true_implies, implies_true, false_and, and_false, mrg, renc, tra, trv, sg, List.map_cons, List.map_nil, Option.map_some, Option.map_none, Option.toList_some, Option.toList_none, List.cons_append, List.nil_append, List.length_cons, List.length_nil, gH, gO, n10, z]
            exact hg
      · have ez : bN (σ.ph == 2) = nI 0 := by rw [q3]; rfl
        rw [ez]
        have hT3 : rdT σ c = rdH σ c := by
          unfold rdT
          rw [if_neg (by omega), if_neg (by omega), if_neg (by omega)]
        rw [hT3] at hno hgo hfin
        obtain ⟨-, hord, hi0⟩ := id hI
        obtain ⟨i1, i2', i3, i4, i5, i6, i7, i8⟩ := hi0 (by omega)
        obtain ⟨hpr, hgtn, hgon, hwo⟩ := id hp
        rw [if_pos q3] at hpr
        have hpre : AW 110 G 63 [some (.ref 0), some (.int (nI 0)), some (.int (nI c)), l3] [] (gH gal gps gst grf gmy gkd glf grt gpr gun gow gem ged gse gsz gtx (nI T.length) (nI i2) gmd gop gom gwt gwm gtn gon gsh gtr gbl gbd gwh gfl gfd gfe) 0 0 → AW 110 G 29 [some (.ref 0), some (.int (nI 0)), l2, l3] [] (gH gal gps gst grf gmy gkd glf grt gpr gun gow gem ged gse gsz gtx (nI T.length) (nI i) gmd gop gom gwt gwm gtn gon gsh gtr gbl gbd gwh gfl gfd gfe) 0 0 := by
          intro hpp
          clear hno hgo hfin hcs kd d1 d2
          generalize T.length = len at *
          refine wq_aw (S := fun x => x == 29 || x == 63) (by decide) (f := 200) ?_
          simp (disch := first | exact rfl | decide | omega) only [v_110_29, u_110_0, u_110_1, u_110_4, u_110_5, u_110_6, u_110_7, u_110_8, u_110_9, u_110_12, u_110_13, u_110_14, u_110_17, u_110_18, u_110_19, u_110_22, u_110_23, u_110_24, u_110_27, u_110_28, u_110_29, u_110_30, u_110_33, u_110_34, u_110_35, u_110_38, u_110_39, u_110_40, u_110_43, u_110_46, u_110_47, u_110_48, u_110_49, u_110_51, u_110_54, u_110_55, u_110_58, u_110_59, u_110_60, u_110_63, u_110_64, u_110_66, u_110_69, u_110_70, u_110_73, u_110_76, u_110_77, u_110_78, u_110_81, u_110_82, u_110_83, u_110_86, u_110_87, u_110_88, u_110_91, u_110_92, u_110_93, u_110_96, u_110_97, u_110_98, u_110_101, u_110_104, u_110_105, u_110_107, u_110_110, u_110_111, u_110_114, u_110_117, u_110_118, u_110_119, u_110_122, u_110_123, u_110_124, u_110_125, u_110_128, u_110_129, u_110_130, u_110_131, u_110_134, u_110_135, u_110_136, u_110_139, u_110_142, u_110_143, u_110_144, u_110_145, u_110_147, u_110_150, u_110_151, u_110_154, u_110_155, u_110_156, u_110_157, u_110_158, u_110_161, u_110_162, u_110_163, u_110_166, wp_stop, lget, lput1, lput2, kil, hget, hset, vget, vset, fget, fgetC, fput, fputC, iget, igetC, jget, jgetC, qget, qgetC, alen, lenC, oI, oJ, oF, oA, oV, oH, oInc, oIld, oJld, oQld, oR, oLen, oIst, oBst, oJst, oQst, ciOf, rcv, oCp, cat1, cond_true, cond_false, Bool.and_self, Bool.and_true, Bool.true_and, Bool.or_true, Bool.true_or, Bool.or_false, Bool.false_or, Bool.not_false, Bool.not_true, ↓reduceIte, Nat.reduceBEq, Nat.reduceEqDiff, beq_self_eq_true, true_and, and_true, eq_self_iff_true, Nat.reduceAdd, Nat.blt, Nat.ble, z_le, z_lt, z_eq, z_cl, z_add, z_sub, z_mul, z_in, z_lt0, z_ofN, z_m1, z_ltm1, z_m1lt, z_eqm1, z_m1eq, z_m1le, z_lem1, z_beq, nI_0_1, nI_m1lt0, nI_0lem1, not_false_eq_true, not_true_eq_false, forall_const, false_implies, true_implies, implies_true, false_and, and_false, mrg, renc, tra, trv, sg, List.map_cons, List.map_nil, Option.map_some, Option.map_none, Option.toList_some, Option.toList_none, List.cons_append, List.nil_append, List.length_cons, List.length_nil, gH, gO]
          refine CAL.dir hh (by omega) (Nat.zero_le _) (Nat.zero_le _) (Nat.le_of_ble_eq_true rfl) (by rw [ggn]; exact Nat.le_of_ble_eq_true rfl) hokl rfl ?_
          rintro _ _ ⟨rfl, rfl⟩
          simp (disch := first | exact rfl | decide | omega) only [u_110_0, u_110_1, u_110_4, u_110_5, u_110_6, u_110_7, u_110_8, u_110_9, u_110_12, u_110_13, u_110_14, u_110_17, u_110_18, u_110_19, u_110_22, u_110_23, u_110_24, u_110_27, u_110_28, u_110_29, u_110_30, u_110_33, u_110_34, u_110_35, u_110_38, u_110_39, u_110_40, u_110_43, u_110_46, u_110_47, u_110_48, u_110_49, u_110_51, u_110_54, u_110_55, u_110_58, u_110_59, u_110_60, u_110_63, u_110_64, u_110_66, u_110_69, u_110_70, u_110_73, u_110_76, u_110_77, u_110_78, u_110_81, u_110_82, u_110_83, u_110_86, u_110_87, u_110_88, u_110_91, u_110_92, u_110_93, u_110_96, u_110_97, u_110_98, u_110_101, u_110_104, u_110_105, u_110_107, u_110_110, u_110_111, u_110_114, u_110_117, u_110_118, u_110_119, u_110_122, u_110_123, u_110_124, u_110_125, u_110_128, u_110_129, u_110_130, u_110_131, u_110_134, u_110_135, u_110_136, u_110_139, u_110_142, u_110_143, u_110_144, u_110_145, u_110_147, u_110_150, u_110_151, u_110_154, u_110_155, u_110_156, u_110_157, u_110_158, u_110_161, u_110_162, u_110_163, u_110_166, wp_stop, lget, lput1, lput2, kil, hget, hset, vget, vset, fget, fgetC, fput, fputC, iget, igetC, jget, jgetC, qget, qgetC, alen, lenC, oI, oJ, oF, oA, oV, oH, oInc, oIld, oJld, oQld, oR, oLen, oIst, oBst, oJst, oQst, ciOf, rcv, oCp, cat1, cond_true, cond_false, Bool.and_self, Bool.and_true, Bool.true_and, Bool.or_true, Bool.true_or, Bool.or_false, Bool.false_or, Bool.not_false, Bool.not_true, ↓reduceIte, Nat.reduceBEq, Nat.reduceEqDiff, beq_self_eq_true, true_and, and_true, eq_self_iff_true, Nat.reduceAdd, Nat.blt, Nat.ble, z_le, z_lt, z_eq, z_cl, z_add, z_sub, z_mul, z_in, z_lt0, z_ofN, z_m1, z_ltm1, z_m1lt, z_eqm1, z_m1eq, z_m1le, z_lem1, z_beq, nI_0_1, nI_m1lt0, nI_0lem1, not_false_eq_true, not_true_eq_false, forall_const, false_implies, true_implies, implies_true, false_and, and_false, mrg, renc, tra, trv, sg, List.map_cons, List.map_nil, Option.map_some, Option.map_none, Option.toList_some, Option.toList_none, List.cons_append, List.nil_append, List.length_cons, List.length_nil, gH, gO]
          exact hpp
        refine hpre ?_
        clear hpre hh
        have hred := g_reduces gal gps gst grf gmy gkd glf grt gpr gun gow gem ged gse gsz gtx (nI T.length) (nI i2) gmd gop gom gwt gwm gtn gon gsh gtr gbl gbd gwh gfl gfd gfe 0 1 0 (-1) (Or.inl ⟨rfl, rfl, rfl⟩) σ.W σ.L hwo (by omega) (by omega) hpr
        have hopr := g_operator 0 c x2 (gH gal gps gst grf gmy gkd glf grt gpr gun gow gem ged gse gsz gtx (nI T.length) (nI i2) gmd gop gom gwt gwm gtn gon gsh gtr gbl gbd gwh gfl gfd gfe)
        cases hob : opB c with
        | some k =>
          obtain ⟨o1, o2, o3, n41, n59⟩ := rdH_op (σ := σ) hob
          rw [o1] at hno hgo
          have hto := g_takesOperator gal gps gst grf gmy gkd glf grt gpr gun gow gem ged gse gsz gtx (nI T.length) (nI i2) gmd gop gom gwt gwm gtn gon gsh gtr gbl gbd gwh gfl gfd gfe 0 k o2 o3 σ hI q3 hp
          have hmk9 : 9 ≤ mkK k ∧ mkK k ≤ 14 := by
            refine ⟨?_, mk_le o3⟩
            unfold mkK
            repeat' split
            all_goals omega
          have hm12 : 12 ≤ mkK k ↔ 13 ≤ k := by
            unfold mkK
            repeat' split
            all_goals omega
          rw [hob] at hopr
          have eV : opV (some k) = nI (mkK k) := rfl
          rw [eV] at hopr
          clear hcs kd d1 d2 hfin hred
          generalize T.length = len at *
          have nm1 : ¬ nI (mkK k) = -1 := fun w => by
            rw [z_eqm1 (by omega)] at w
            exact w
          refine wp_aw (S := fun x => x == 29) (by decide) 200 _ _ _ _ _ _ ?_
          simp (disch := first | exact rfl | decide | omega) only [u_110_0, u_110_1, u_110_4, u_110_5, u_110_6, u_110_7, u_110_8, u_110_9, u_110_12, u_110_13, u_110_14, u_110_17, u_110_18, u_110_19, u_110_22, u_110_23, u_110_24, u_110_27, u_110_28, u_110_29, u_110_30, u_110_33, u_110_34, u_110_35, u_110_38, u_110_39, u_110_40, u_110_43, u_110_46, u_110_47, u_110_48, u_110_49, u_110_51, u_110_54, u_110_55, u_110_58, u_110_59, u_110_60, u_110_63, u_110_64, u_110_66, u_110_69, u_110_70, u_110_73, u_110_76, u_110_77, u_110_78, u_110_81, u_110_82, u_110_83, u_110_86, u_110_87, u_110_88, u_110_91, u_110_92, u_110_93, u_110_96, u_110_97, u_110_98, u_110_101, u_110_104, u_110_105, u_110_107, u_110_110, u_110_111, u_110_114, u_110_117, u_110_118, u_110_119, u_110_122, u_110_123, u_110_124, u_110_125, u_110_128, u_110_129, u_110_130, u_110_131, u_110_134, u_110_135, u_110_136, u_110_139, u_110_142, u_110_143, u_110_144, u_110_145, u_110_147, u_110_150, u_110_151, u_110_154, u_110_155, u_110_156, u_110_157, u_110_158, u_110_161, u_110_162, u_110_163, u_110_166, wp_stop, lget, lput1, lput2, kil, hget, hset, vget, vset, fget, fgetC, fput, fputC, iget, igetC, jget, jgetC, qget, qgetC, alen, lenC, oI, oJ, oF, oA, oV, oH, oInc, oIld, oJld, oQld, oR, oLen, oIst, oBst, oJst, oQst, ciOf, rcv, oCp, cat1, cond_true, cond_false, Bool.and_self, Bool.and_true, Bool.true_and, Bool.or_true, Bool.true_or, Bool.or_false, Bool.false_or, Bool.not_false, Bool.not_true, ↓reduceIte, Nat.reduceBEq, Nat.reduceEqDiff, beq_self_eq_true, true_and, and_true, eq_self_iff_true, Nat.reduceAdd, Nat.blt, Nat.ble, z_le, z_lt, z_eq, z_cl, z_add, z_sub, z_mul, z_in, z_lt0, z_ofN, z_m1, z_ltm1, z_m1lt, z_eqm1, z_m1eq, z_m1le, z_lem1, z_beq, nI_0_1, nI_m1lt0, nI_0lem1, not_false_eq_true, not_true_eq_false, forall_const, false_implies, true_implies, implies_true, false_and, and_false, mrg, renc, tra, trv, sg, List.map_cons, List.map_nil, Option.map_some, Option.map_none, Option.toList_some, Option.toList_none, List.cons_append, List.nil_append, List.length_cons, List.length_nil, gH, gO, n41, n59]
          refine CAL.dir hopr (by omega) (Nat.zero_le _) (Nat.zero_le _) (Nat.le_of_ble_eq_true rfl) (by rw [ggn]; exact Nat.le_of_ble_eq_true rfl) hok3 rfl ?_
          rintro _ _ ⟨rfl, rfl⟩
          simp (disch := first | exact rfl | decide | omega) only [u_110_0, u_110_1, u_110_4, u_110_5, u_110_6, u_110_7, u_110_8, u_110_9, u_110_12, u_110_13, u_110_14, u_110_17, u_110_18, u_110_19, u_110_22, u_110_23, u_110_24, u_110_27, u_110_28, u_110_29, u_110_30, u_110_33, u_110_34, u_110_35, u_110_38, u_110_39, u_110_40, u_110_43, u_110_46, u_110_47, u_110_48, u_110_49, u_110_51, u_110_54, u_110_55, u_110_58, u_110_59, u_110_60, u_110_63, u_110_64, u_110_66, u_110_69, u_110_70, u_110_73, u_110_76, u_110_77, u_110_78, u_110_81, u_110_82, u_110_83, u_110_86, u_110_87, u_110_88, u_110_91, u_110_92, u_110_93, u_110_96, u_110_97, u_110_98, u_110_101, u_110_104, u_110_105, u_110_107, u_110_110, u_110_111, u_110_114, u_110_117, u_110_118, u_110_119, u_110_122, u_110_123, u_110_124, u_110_125, u_110_128, u_110_129, u_110_130, u_110_131, u_110_134, u_110_135, u_110_136, u_110_139, u_110_142, u_110_143, u_110_144, u_110_145, u_110_147, u_110_150, u_110_151, u_110_154, u_110_155, u_110_156, u_110_157, u_110_158, u_110_161, u_110_162, u_110_163, u_110_166, wp_stop, lget, lput1, lput2, kil, hget, hset, vget, vset, fget, fgetC, fput, fputC, iget, igetC, jget, jgetC, qget, qgetC, alen, lenC, oI, oJ, oF, oA, oV, oH, oInc, oIld, oJld, oQld, oR, oLen, oIst, oBst, oJst, oQst, ciOf, rcv, oCp, cat1, cond_true, cond_false, Bool.and_self, Bool.and_true, Bool.true_and, Bool.or_true, Bool.true_or, Bool.or_false, Bool.false_or, Bool.not_false, Bool.not_true, ↓reduceIte, Nat.reduceBEq, Nat.reduceEqDiff, beq_self_eq_true, true_and, and_true, eq_self_iff_true, Nat.reduceAdd, Nat.blt, Nat.ble, z_le, z_lt, z_eq, z_cl, z_add, z_sub, z_mul, z_in, z_lt0, z_ofN, z_m1, z_ltm1, z_m1lt, z_eqm1, z_m1eq, z_m1le, z_lem1, z_beq, nI_0_1, nI_m1lt0, nI_0lem1, not_false_eq_true, not_true_eq_false, forall_const, false_implies, true_implies, implies_true, false_and, and_false, mrg, renc, tra, trv, sg, List.map_cons, List.map_nil, Option.map_some, Option.map_none, Option.toList_some, Option.toList_none, List.cons_append, List.nil_append, List.length_cons, List.length_nil, gH, gO, nm1]
          refine CAL.dir hto (by omega) (Nat.zero_le _) (Nat.zero_le _) (Nat.le_of_ble_eq_true rfl) (by rw [ggn]; exact Nat.le_of_ble_eq_true rfl) rfl rfl ?_
          rintro _ _ ⟨rfl, gmd, gop, gom, gwt, gwm, gtn, gon, rfl, hq⟩
          cases hr : (if 13 ≤ k then rdN σ k else rdB σ k) with
          | none =>
            have hf := hno hr gmd gop gom gwt gwm gtn gon
            clear hno hgo
            have e1 : bN (Option.isSome (none : Option rS)) = nI 0 := rfl
            rw [e1]
            simp (disch := first | exact rfl | decide | omega) only [u_110_0, u_110_1, u_110_4, u_110_5, u_110_6, u_110_7, u_110_8, u_110_9, u_110_12, u_110_13, u_110_14, u_110_17, u_110_18, u_110_19, u_110_22, u_110_23, u_110_24, u_110_27, u_110_28, u_110_29, u_110_30, u_110_33, u_110_34, u_110_35, u_110_38, u_110_39, u_110_40, u_110_43, u_110_46, u_110_47, u_110_48, u_110_49, u_110_51, u_110_54, u_110_55, u_110_58, u_110_59, u_110_60, u_110_63, u_110_64, u_110_66, u_110_69, u_110_70, u_110_73, u_110_76, u_110_77, u_110_78, u_110_81, u_110_82, u_110_83, u_110_86, u_110_87, u_110_88, u_110_91, u_110_92, u_110_93, u_110_96, u_110_97, u_110_98, u_110_101, u_110_104, u_110_105, u_110_107, u_110_110, u_110_111, u_110_114, u_110_117, u_110_118, u_110_119, u_110_122, u_110_123, u_110_124, u_110_125, u_110_128, u_110_129, u_110_130, u_110_131, u_110_134, u_110_135, u_110_136, u_110_139, u_110_142, u_110_143, u_110_144, u_110_145, u_110_147, u_110_150, u_110_151, u_110_154, u_110_155, u_110_156, u_110_157, u_110_158, u_110_161, u_110_162, u_110_163, u_110_166, wp_stop, lget, lput1, lput2, kil, hget, hset, vget, vset, fget, fgetC, fput, fputC, iget, igetC, jget, jgetC, qget, qgetC, alen, lenC, oI, oJ, oF, oA, oV, oH, oInc, oIld, oJld, oQld, oR, oLen, oIst, oBst, oJst, oQst, ciOf, rcv, oCp, cat1, cond_true, cond_false, Bool.and_self, Bool.and_true, Bool.true_and, Bool.or_true, Bool.true_or, Bool.or_false, Bool.false_or, Bool.not_false, Bool.not_true, ↓reduceIte, Nat.reduceBEq, Nat.reduceEqDiff, beq_self_eq_true, true_and, and_true, eq_self_iff_true, Nat.reduceAdd, Nat.blt, Nat.ble, z_le, z_lt, z_eq, z_cl, z_add, z_sub, z_mul, z_in, z_lt0, z_ofN, z_m1, z_ltm1, z_m1lt, z_eqm1, z_m1eq, z_m1le, z_lem1, z_beq, nI_0_1, nI_m1lt0, nI_0lem1, not_false_eq_true, not_true_eq_false, forall_const, false_implies, true_implies, implies_true, false_and, and_false, mrg, renc, tra, trv, sg, List.map_cons, List.map_nil, Option.map_some, Option.map_none, Option.toList_some, Option.toList_none, List.cons_append, List.nil_append, List.length_cons, List.length_nil, gH, gO]
            exact hf
          | some σ' =>
            obtain ⟨u1, u2⟩ := rdNB_ph hr
            have hph : σ'.ph = 2 ∨ σ'.ph = 3 := by
              by_cases z : 13 ≤ k
              · exact Or.inr (u1 z)
              · exact Or.inl (u2 z)
            have hg := hgo σ' gmd gop gom gwt gwm gtn gon (some (.int (nI (mkK k)))) rfl hr hph (hq σ' hr)
            clear hno hgo
            have e1 : bN (Option.isSome (some σ')) = nI 1 := rfl
            rw [e1]
            by_cases z : 13 ≤ k
            · have e2 : bN (σ'.ph == 2) = nI 0 := by rw [u1 z]; rfl
              rw [e2] at hg
              have t1 := hm12.mpr z
              generalize mkK k = kk at *
              simp (disch := first | exact rfl | decide | omega) only [u_110_0, u_110_1, u_110_4, u_110_5, u_110_6, u_110_7, u_110_8, u_110_9, u_110_12, u_110_13, u_110_14, u_110_17, u_110_18, u_110_19, u_110_22, u_110_23, u_110_24, u_110_27, u_110_28, u_110_29, u_110_30, u_110_33, u_110_34, u_110_35, u_110_38, u_110_39, u_110_40, u_110_43, u_110_46, u_110_47, u_110_48, u_110_49, u_110_51, u_110_54, u_110_55, u_110_58, u_110_59, u_110_60, u_110_63, u_110_64, u_110_66, u_110_69, u_110_70, u_110_73, u_110_76, u_110_77, u_110_78, u_110_81, u_110_82, u_110_83, u_110_86, u_110_87, u_110_88, u_110_91, u_110_92, u_110_93, u_110_96, u_110_97, u_110_98, u_110_101, u_110_104, u_110_105, u_110_107, u_110_110, u_110_111, u_110_114, u_110_117, u_110_118, u_110_119, u_110_122, u_110_123, u_110_124, u_110_125, u_110_128, u_110_129, u_110_130, u_110_131, u_110_134, u_110_135, u_110_136, u_110_139, u_110_142, u_110_143, u_110_144, u_110_145, u_110_147, u_110_150, u_110_151, u_110_154, u_110_155, u_110_156, u_110_157, u_110_158, u_110_161, u_110_162, u_110_163, u_110_166, wp_stop, lget, lput1, lput2, kil, hget, hset, vget, vset, fget, fgetC, fput, fputC, iget, igetC, jget, jgetC, qget, qgetC, alen, lenC, oI, oJ, oF, oA, oV, oH, oInc, oIld, oJld, oQld, oR, oLen, oIst, oBst, oJst, oQst, ciOf, rcv, oCp, cat1, cond_true, cond_false, Bool.and_self, Bool.and_true, Bool.true_and, Bool.or_true, Bool.true_or, Bool.or_false, Bool.false_or, Bool.not_false, Bool.not_true, ↓reduceIte, Nat.reduceBEq, Nat.reduceEqDiff, beq_self_eq_true, true_and, and_true, eq_self_iff_true, Nat.reduceAdd, Nat.blt, Nat.ble, z_le, z_lt, z_eq, z_cl, z_add, z_sub, z_mul, z_in, z_lt0, z_ofN, z_m1, z_ltm1, z_m1lt, z_eqm1, z_m1eq, z_m1le, z_lem1, z_beq, nI_0_1, nI_m1lt0, nI_0lem1, not_false_eq_true, not_true_eq_false, forall_const, false_implies, true_implies, implies_true, false_and, and_false, mrg, renc, tra, trv, sg, List.map_cons, List.map_nil, Option.map_some, Option.map_none, Option.toList_some, Option.toList_none, List.cons_append, List.nil_append, List.length_cons, List.length_nil, gH, gO, n10, t1]
              exact hg
            · have e2 : bN (σ'.ph == 2) = nI 1 := by rw [u2 z]; rfl
              rw [e2] at hg
              have t1 : ¬ 12 ≤ mkK k := fun w => z (hm12.mp w)
              generalize mkK k = kk at *
              simp (disch := first | exact rfl | decide | omega) only [u_110_0, u_110_1, u_110_4, u_110_5, u_110_6, u_110_7, u_110_8, u_110_9, u_110_12, u_110_13, u_110_14, u_110_17, u_110_18, u_110_19, u_110_22, u_110_23, u_110_24, u_110_27, u_110_28, u_110_29, u_110_30, u_110_33, u_110_34, u_110_35, u_110_38, u_110_39, u_110_40, u_110_43, u_110_46, u_110_47, u_110_48, u_110_49, u_110_51, u_110_54, u_110_55, u_110_58, u_110_59, u_110_60, u_110_63, u_110_64, u_110_66, u_110_69, u_110_70, u_110_73, u_110_76, u_110_77, u_110_78, u_110_81, u_110_82, u_110_83, u_110_86, u_110_87, u_110_88, u_110_91, u_110_92, u_110_93, u_110_96, u_110_97, u_110_98, u_110_101, u_110_104, u_110_105, u_110_107, u_110_110, u_110_111, u_110_114, u_110_117, u_110_118, u_110_119, u_110_122, u_110_123, u_110_124, u_110_125, u_110_128, u_110_129, u_110_130, u_110_131, u_110_134, u_110_135, u_110_136, u_110_139, u_110_142, u_110_143, u_110_144, u_110_145, u_110_147, u_110_150, u_110_151, u_110_154, u_110_155, u_110_156, u_110_157, u_110_158, u_110_161, u_110_162, u_110_163, u_110_166, wp_stop, lget, lput1, lput2, kil, hget, hset, vget, vset, fget, fgetC, fput, fputC, iget, igetC, jget, jgetC, qget, qgetC, alen, lenC, oI, oJ, oF, oA, oV, oH, oInc, oIld, oJld, oQld, oR, oLen, oIst, oBst, oJst, oQst, ciOf, rcv, oCp, cat1, cond_true, cond_false, Bool.and_self, Bool.and_true, Bool.true_and, Bool.or_true, Bool.true_or, Bool.or_false, Bool.false_or, Bool.not_false, Bool.not_true, ↓reduceIte, Nat.reduceBEq, Nat.reduceEqDiff, beq_self_eq_true, true_and, and_true, eq_self_iff_true, Nat.reduceAdd, Nat.blt, Nat.ble, z_le, z_lt, z_eq, z_cl, z_add, z_sub, z_mul, z_in, z_lt0, z_ofN, z_m1, z_ltm1, z_m1lt, z_eqm1, z_m1eq, z_m1le, z_lem1, z_beq, nI_0_1, nI_m1lt0, nI_0lem1, not_false_eq_true, not_true_eq_false, forall_const, false_implies, true_implies, implies_true, false_and, and_false, mrg, renc, tra, trv, sg, List.map_cons, List.map_nil, Option.map_some, Option.map_none, Option.toList_some, Option.toList_none, List.cons_append, List.nil_append, List.length_cons, List.length_nil, gH, gO, n10, t1]
              exact hg
        | none =>
          have hrn := rdH_no (σ := σ) hob
          rw [hrn] at hno hgo hfin
          rw [hob] at hopr
          have eV : opV none = -1 := rfl
          rw [eV] at hopr
          obtain ⟨pv1, pv2, pv3, pv4⟩ := popW_inv 1 (Nat.le_refl _) σ.W σ.L
          have pm := (popW_mem 1 σ.W σ.L).1
          by_cases q41 : c = 41
          · rw [if_pos q41] at hno hgo
            unfold rdC at hno hgo
            by_cases z : 0 < σ.o
            · rw [if_pos z] at hgo
              have pv2' := pv2 σ.o i5
              obtain ⟨W', hW'⟩ : ∃ W', (popW 1 σ.W σ.L).1 = 0 :: W' := by
                rcases popW_1 σ.W σ.L with e | e
                · rw [e] at pv2'
                  simp [nzW] at pv2'
                  omega
                · exact e
              rw [hW'] at hgo hred pv2' pm pv3
              have hwl : W'.length < 40 := by
                rw [List.length_cons] at pv3
                omega
              have t1 : ¬ σ.o ≤ 0 := by omega
              have ho8 : σ.o < 2 ^ 20 := by omega
              have hfn : ∀ gmd gop gom gwm, prG gmd gop gom gwt gwm (0 :: W') (popW 1 σ.W σ.L).2 1 → gwm = nI (W'.length + 1) ∧ AW 110 G 29 [some (.ref 0), some (.int (nI 0)), some (.int (nI c)), l3] [] (gH gal gps gst grf gmy gkd glf grt gpr gun gow gem ged gse gsz gtx (nI T.length) (nI (i2 + 1)) gmd gop gom gwt (nI W'.length) gtn (nI (σ.o - 1)) gsh gtr gbl gbd gwh gfl gfd gfe) 0 0 := fun gmd gop gom gwm hq => by
                obtain ⟨c1, c2⟩ := pr_cls hq
                exact ⟨c1, hgo _ gmd gop gom gwt (nI W'.length) gtn (nI (σ.o - 1)) l3 hok3 rfl (Or.inr rfl) ⟨c2, hgtn, rfl, fun y hy => hwo y (pm y (List.mem_cons_of_mem _ hy))⟩⟩
              clear hno hgo hfin hcs kd d1 d2 hopr hpr
              generalize T.length = len at *
              subst q41
              rw [hgon] at hred ⊢
              refine wp_aw (S := fun x => x == 29) (by decide) 200 _ _ _ _ _ _ ?_
              simp (disch := first | exact rfl | decide | omega) only [u_110_0, u_110_1, u_110_4, u_110_5, u_110_6, u_110_7, u_110_8, u_110_9, u_110_12, u_110_13, u_110_14, u_110_17, u_110_18, u_110_19, u_110_22, u_110_23, u_110_24, u_110_27, u_110_28, u_110_29, u_110_30, u_110_33, u_110_34, u_110_35, u_110_38, u_110_39, u_110_40, u_110_43, u_110_46, u_110_47, u_110_48, u_110_49, u_110_51, u_110_54, u_110_55, u_110_58, u_110_59, u_110_60, u_110_63, u_110_64, u_110_66, u_110_69, u_110_70, u_110_73, u_110_76, u_110_77, u_110_78, u_110_81, u_110_82, u_110_83, u_110_86, u_110_87, u_110_88, u_110_91, u_110_92, u_110_93, u_110_96, u_110_97, u_110_98, u_110_101, u_110_104, u_110_105, u_110_107, u_110_110, u_110_111, u_110_114, u_110_117, u_110_118, u_110_119, u_110_122, u_110_123, u_110_124, u_110_125, u_110_128, u_110_129, u_110_130, u_110_131, u_110_134, u_110_135, u_110_136, u_110_139, u_110_142, u_110_143, u_110_144, u_110_145, u_110_147, u_110_150, u_110_151, u_110_154, u_110_155, u_110_156, u_110_157, u_110_158, u_110_161, u_110_162, u_110_163, u_110_166, wp_stop, lget, lput1, lput2, kil, hget, hset, vget, vset, fget, fgetC, fput, fputC, iget, igetC, jget, jgetC, qget, qgetC, alen, lenC, oI, oJ, oF, oA, oV, oH, oInc, oIld, oJld, oQld, oR, oLen, oIst, oBst, oJst, oQst, ciOf, rcv, oCp, cat1, cond_true, cond_false, Bool.and_self, Bool.and_true, Bool.true_and, Bool.or_true, Bool.true_or, Bool.or_false, Bool.false_or, Bool.not_false, Bool.not_true, ↓reduceIte, Nat.reduceBEq, Nat.reduceEqDiff, beq_self_eq_true, true_and, and_true, eq_self_iff_true, Nat.reduceAdd, Nat.blt, Nat.ble, z_le, z_lt, z_eq, z_cl, z_add, z_sub, z_mul, z_in, z_lt0, z_ofN, z_m1, z_ltm1, z_m1lt, z_eqm1, z_m1eq, z_m1le, z_lem1, z_beq, nI_0_1, nI_m1lt0, nI_0lem1, not_false_eq_true, not_true_eq_false, forall_const, false_implies, true_implies, implies_true, false_and, and_false, mrg, renc, tra, trv, sg, List.map_cons, List.map_nil, Option.map_some, Option.map_none, Option.toList_some, Option.toList_none, List.cons_append, List.nil_append, List.length_cons, List.length_nil, gH, gO, t1]
              refine CAL.dir hred (by omega) (Nat.zero_le _) (Nat.zero_le _) (Nat.le_of_ble_eq_true rfl) (by rw [ggn]; exact Nat.le_of_ble_eq_true rfl) hok3 rfl ?_
              rintro _ _ ⟨rfl, gmd, gop, gom, gwm, rfl, hq⟩
              obtain ⟨c1, hg⟩ := hfn gmd gop gom gwm hq
              clear hfn
              subst c1
              generalize W'.length = wl at *
              simp (disch := first | exact rfl | decide | omega) only [u_110_0, u_110_1, u_110_4, u_110_5, u_110_6, u_110_7, u_110_8, u_110_9, u_110_12, u_110_13, u_110_14, u_110_17, u_110_18, u_110_19, u_110_22, u_110_23, u_110_24, u_110_27, u_110_28, u_110_29, u_110_30, u_110_33, u_110_34, u_110_35, u_110_38, u_110_39, u_110_40, u_110_43, u_110_46, u_110_47, u_110_48, u_110_49, u_110_51, u_110_54, u_110_55, u_110_58, u_110_59, u_110_60, u_110_63, u_110_64, u_110_66, u_110_69, u_110_70, u_110_73, u_110_76, u_110_77, u_110_78, u_110_81, u_110_82, u_110_83, u_110_86, u_110_87, u_110_88, u_110_91, u_110_92, u_110_93, u_110_96, u_110_97, u_110_98, u_110_101, u_110_104, u_110_105, u_110_107, u_110_110, u_110_111, u_110_114, u_110_117, u_110_118, u_110_119, u_110_122, u_110_123, u_110_124, u_110_125, u_110_128, u_110_129, u_110_130, u_110_131, u_110_134, u_110_135, u_110_136, u_110_139, u_110_142, u_110_143, u_110_144, u_110_145, u_110_147, u_110_150, u_110_151, u_110_154, u_110_155, u_110_156, u_110_157, u_110_158, u_110_161, u_110_162, u_110_163, u_110_166, wp_stop, lget, lput1, lput2, kil, hget, hset, vget, vset, fget, fgetC, fput, fputC, iget, igetC, jget, jgetC, qget, qgetC, alen, lenC, oI, oJ, oF, oA, oV, oH, oInc, oIld, oJld, oQld, oR, oLen, oIst, oBst, oJst, oQst, ciOf, rcv, oCp, cat1, cond_true, cond_false, Bool.and_self, Bool.and_true, Bool.true_and, Bool.or_true, Bool.true_or, Bool.or_false, Bool.false_or, Bool.not_false, Bool.not_true, ↓reduceIte, Nat.reduceBEq, Nat.reduceEqDiff, beq_self_eq_true, true_and, and_true, eq_self_iff_true, Nat.reduceAdd, Nat.blt, Nat.ble, z_le, z_lt, z_eq, z_cl, z_add, z_sub, z_mul, z_in, z_lt0, z_ofN, z_m1, z_ltm1, z_m1lt, z_eqm1, z_m1eq, z_m1le, z_lem1, z_beq, nI_0_1, nI_m1lt0, nI_0lem1, not_false_eq_true, not_true_eq_false, forall_const, false_implies, true_implies, implies_true, false_and, and_false, mrg, renc, tra, trv, sg, List.map_cons, List.map_nil, Option.map_some, Option.map_none, Option.toList_some, Option.toList_none, List.cons_append, List.nil_append, List.length_cons, List.length_nil, gH, gO, Nat.add_sub_cancel]
              exact hg
            · rw [if_neg z] at hno
              have hf := hno rfl gmd gop gom gwt gwm gtn gon
              have t1 : σ.o = 0 := by omega
              rw [t1] at hgon
              clear hno hgo hfin hcs kd d1 d2 hred hpr
              generalize T.length = len at *
              subst q41
              subst hgon
              refine wp_aw (S := fun x => x == 29) (by decide) 200 _ _ _ _ _ _ ?_
              simp (disch := first | exact rfl | decide | omega) only [u_110_0, u_110_1, u_110_4, u_110_5, u_110_6, u_110_7, u_110_8, u_110_9, u_110_12, u_110_13, u_110_14, u_110_17, u_110_18, u_110_19, u_110_22, u_110_23, u_110_24, u_110_27, u_110_28, u_110_29, u_110_30, u_110_33, u_110_34, u_110_35, u_110_38, u_110_39, u_110_40, u_110_43, u_110_46, u_110_47, u_110_48, u_110_49, u_110_51, u_110_54, u_110_55, u_110_58, u_110_59, u_110_60, u_110_63, u_110_64, u_110_66, u_110_69, u_110_70, u_110_73, u_110_76, u_110_77, u_110_78, u_110_81, u_110_82, u_110_83, u_110_86, u_110_87, u_110_88, u_110_91, u_110_92, u_110_93, u_110_96, u_110_97, u_110_98, u_110_101, u_110_104, u_110_105, u_110_107, u_110_110, u_110_111, u_110_114, u_110_117, u_110_118, u_110_119, u_110_122, u_110_123, u_110_124, u_110_125, u_110_128, u_110_129, u_110_130, u_110_131, u_110_134, u_110_135, u_110_136, u_110_139, u_110_142, u_110_143, u_110_144, u_110_145, u_110_147, u_110_150, u_110_151, u_110_154, u_110_155, u_110_156, u_110_157, u_110_158, u_110_161, u_110_162, u_110_163, u_110_166, wp_stop, lget, lput1, lput2, kil, hget, hset, vget, vset, fget, fgetC, fput, fputC, iget, igetC, jget, jgetC, qget, qgetC, alen, lenC, oI, oJ, oF, oA, oV, oH, oInc, oIld, oJld, oQld, oR, oLen, oIst, oBst, oJst, oQst, ciOf, rcv, oCp, cat1, cond_true, cond_false, Bool.and_self, Bool.and_true, Bool.true_and, Bool.or_true, Bool.true_or, Bool.or_false, Bool.false_or, Bool.not_false, Bool.not_true, ↓reduceIte, Nat.reduceBEq, Nat.reduceEqDiff, beq_self_eq_true, true_and, and_true, eq_self_iff_true, Nat.reduceAdd, Nat.blt, Nat.ble, z_le, z_lt, z_eq, z_cl, z_add, z_sub, z_mul, z_in, z_lt0, z_ofN, z_m1, z_ltm1, z_m1lt, z_eqm1, z_m1eq, z_m1le, z_lem1, z_beq, nI_0_1, nI_m1lt0, nI_0lem1, not_false_eq_true, not_true_eq_false, forall_const, false_implies, true_implies, implies_true, false_and, and_false, mrg, renc, tra, trv, sg, List.map_cons, List.map_nil, Option.map_some, Option.map_none, Option.toList_some, Option.toList_none, List.cons_append, List.nil_append, List.length_cons, List.length_nil, gH, gO, show (0 : Nat) ≤ 0 by decide]
              refine CAL.dir hopr (by omega) (Nat.zero_le _) (Nat.zero_le _) (Nat.le_of_ble_eq_true rfl) (by rw [ggn]; exact Nat.le_of_ble_eq_true rfl) hok3 rfl ?_
              rintro _ _ ⟨rfl, rfl⟩
              simp (disch := first | exact rfl | decide | omega) only [u_110_0, u_110_1, u_110_4, u_110_5, u_110_6, u_110_7, u_110_8, u_110_9, u_110_12, u_110_13, u_110_14, u_110_17, u_110_18, u_110_19, u_110_22, u_110_23, u_110_24, u_110_27, u_110_28, u_110_29, u_110_30, u_110_33, u_110_34, u_110_35, u_110_38, u_110_39, u_110_40, u_110_43, u_110_46, u_110_47, u_110_48, u_110_49, u_110_51, u_110_54, u_110_55, u_110_58, u_110_59, u_110_60, u_110_63, u_110_64, u_110_66, u_110_69, u_110_70, u_110_73, u_110_76, u_110_77, u_110_78, u_110_81, u_110_82, u_110_83, u_110_86, u_110_87, u_110_88, u_110_91, u_110_92, u_110_93, u_110_96, u_110_97, u_110_98, u_110_101, u_110_104, u_110_105, u_110_107, u_110_110, u_110_111, u_110_114, u_110_117, u_110_118, u_110_119, u_110_122, u_110_123, u_110_124, u_110_125, u_110_128, u_110_129, u_110_130, u_110_131, u_110_134, u_110_135, u_110_136, u_110_139, u_110_142, u_110_143, u_110_144, u_110_145, u_110_147, u_110_150, u_110_151, u_110_154, u_110_155, u_110_156, u_110_157, u_110_158, u_110_161, u_110_162, u_110_163, u_110_166, wp_stop, lget, lput1, lput2, kil, hget, hset, vget, vset, fget, fgetC, fput, fputC, iget, igetC, jget, jgetC, qget, qgetC, alen, lenC, oI, oJ, oF, oA, oV, oH, oInc, oIld, oJld, oQld, oR, oLen, oIst, oBst, oJst, oQst, ciOf, rcv, oCp, cat1, cond_true, cond_false, Bool.and_self, Bool.and_true, Bool.true_and, Bool.or_true, Bool.true_or, Bool.or_false, Bool.false_or, Bool.not_false, Bool.not_true, ↓reduceIte, Nat.reduceBEq, Nat.reduceEqDiff, beq_self_eq_true, true_and, and_true, eq_self_iff_true, Nat.reduceAdd, Nat.blt, Nat.ble, z_le, z_lt, z_eq, z_cl, z_add, z_sub, z_mul, z_in, z_lt0, z_ofN, z_m1, z_ltm1, z_m1lt, z_eqm1, z_m1eq, z_m1le, z_lem1, z_beq, nI_0_1, nI_m1lt0, nI_0lem1, not_false_eq_true, not_true_eq_false, forall_const, false_implies, true_implies, implies_true, false_and, and_false, mrg, renc, tra, trv, sg, List.map_cons, List.map_nil, Option.map_some, Option.map_none, Option.toList_some, Option.toList_none, List.cons_append, List.nil_append, List.length_cons, List.length_nil, gH, gO]
              exact hf
          · rw [if_neg q41] at hno hfin
            by_cases q59 : c = 59
            · rw [if_pos q59] at hno hfin
              unfold rdE at hno hfin
              by_cases z : σ.o = 0
              · rw [if_pos z] at hfin
                have hW0 := popW_all (W := σ.W) (L := σ.L) (by omega)
                rw [hW0] at hred pv1
                have hfn : ∀ gmd gop gom gwm, prG gmd gop gom gwt gwm [] (popW 1 σ.W σ.L).2 1 → RET G (some (.int (nI 1))) (gH gal gps gst grf gmy gkd glf grt gpr gun gow gem ged gse gsz gtx (nI T.length) (nI i2) gmd gop gom gwt gwm gtn gon gsh gtr gbl gbd gwh gfl gfd gfe) 0 0 := fun gmd gop gom gwm hq => hfin _ gmd gop gom gwt gwm gtn gon rfl rfl (mdO_of hq (show (popW 1 σ.W σ.L).2.length ≤ 16 by
                  have : nzW [] = 0 := rfl
                  omega))
                rw [z] at hgon
                clear hno hgo hfin hcs kd d1 d2 hopr hpr
                generalize T.length = len at *
                subst q59
                subst hgon
                refine wp_aw (S := fun x => x == 29) (by decide) 200 _ _ _ _ _ _ ?_
                simp (disch := first | exact rfl | decide | omega) only [u_110_0, u_110_1, u_110_4, u_110_5, u_110_6, u_110_7, u_110_8, u_110_9, u_110_12, u_110_13, u_110_14, u_110_17, u_110_18, u_110_19, u_110_22, u_110_23, u_110_24, u_110_27, u_110_28, u_110_29, u_110_30, u_110_33, u_110_34, u_110_35, u_110_38, u_110_39, u_110_40, u_110_43, u_110_46, u_110_47, u_110_48, u_110_49, u_110_51, u_110_54, u_110_55, u_110_58, u_110_59, u_110_60, u_110_63, u_110_64, u_110_66, u_110_69, u_110_70, u_110_73, u_110_76, u_110_77, u_110_78, u_110_81, u_110_82, u_110_83, u_110_86, u_110_87, u_110_88, u_110_91, u_110_92, u_110_93, u_110_96, u_110_97, u_110_98, u_110_101, u_110_104, u_110_105, u_110_107, u_110_110, u_110_111, u_110_114, u_110_117, u_110_118, u_110_119, u_110_122, u_110_123, u_110_124, u_110_125, u_110_128, u_110_129, u_110_130, u_110_131, u_110_134, u_110_135, u_110_136, u_110_139, u_110_142, u_110_143, u_110_144, u_110_145, u_110_147, u_110_150, u_110_151, u_110_154, u_110_155, u_110_156, u_110_157, u_110_158, u_110_161, u_110_162, u_110_163, u_110_166, wp_stop, lget, lput1, lput2, kil, hget, hset, vget, vset, fget, fgetC, fput, fputC, iget, igetC, jget, jgetC, qget, qgetC, alen, lenC, oI, oJ, oF, oA, oV, oH, oInc, oIld, oJld, oQld, oR, oLen, oIst, oBst, oJst, oQst, ciOf, rcv, oCp, cat1, cond_true, cond_false, Bool.and_self, Bool.and_true, Bool.true_and, Bool.or_true, Bool.true_or, Bool.or_false, Bool.false_or, Bool.not_false, Bool.not_true, ↓reduceIte, Nat.reduceBEq, Nat.reduceEqDiff, beq_self_eq_true, true_and, and_true, eq_self_iff_true, Nat.reduceAdd, Nat.blt, Nat.ble, z_le, z_lt, z_eq, z_cl, z_add, z_sub, z_mul, z_in, z_lt0, z_ofN, z_m1, z_ltm1, z_m1lt, z_eqm1, z_m1eq, z_m1le, z_lem1, z_beq, nI_0_1, nI_m1lt0, nI_0lem1, not_false_eq_true, not_true_eq_false, forall_const, false_implies, true_implies, implies_true, false_and, and_false, mrg, renc, tra, trv, sg, List.map_cons, List.map_nil, Option.map_some, Option.map_none, Option.toList_some, Option.toList_none, List.cons_append, List.nil_append, List.length_cons, List.length_nil, gH, gO]
                refine CAL.dir hred (by omega) (Nat.zero_le _) (Nat.zero_le _) (Nat.le_of_ble_eq_true rfl) (by rw [ggn]; exact Nat.le_of_ble_eq_true rfl) hok3 rfl ?_
                rintro _ _ ⟨rfl, gmd, gop, gom, gwm, rfl, hq⟩
                have hf := hfn gmd gop gom gwm hq
                clear hfn
                simp (disch := first | exact rfl | decide | omega) only [u_110_0, u_110_1, u_110_4, u_110_5, u_110_6, u_110_7, u_110_8, u_110_9, u_110_12, u_110_13, u_110_14, u_110_17, u_110_18, u_110_19, u_110_22, u_110_23, u_110_24, u_110_27, u_110_28, u_110_29, u_110_30, u_110_33, u_110_34, u_110_35, u_110_38, u_110_39, u_110_40, u_110_43, u_110_46, u_110_47, u_110_48, u_110_49, u_110_51, u_110_54, u_110_55, u_110_58, u_110_59, u_110_60, u_110_63, u_110_64, u_110_66, u_110_69, u_110_70, u_110_73, u_110_76, u_110_77, u_110_78, u_110_81, u_110_82, u_110_83, u_110_86, u_110_87, u_110_88, u_110_91, u_110_92, u_110_93, u_110_96, u_110_97, u_110_98, u_110_101, u_110_104, u_110_105, u_110_107, u_110_110, u_110_111, u_110_114, u_110_117, u_110_118, u_110_119, u_110_122, u_110_123, u_110_124, u_110_125, u_110_128, u_110_129, u_110_130, u_110_131, u_110_134, u_110_135, u_110_136, u_110_139, u_110_142, u_110_143, u_110_144, u_110_145, u_110_147, u_110_150, u_110_151, u_110_154, u_110_155, u_110_156, u_110_157, u_110_158, u_110_161, u_110_162, u_110_163, u_110_166, wp_stop, lget, lput1, lput2, kil, hget, hset, vget, vset, fget, fgetC, fput, fputC, iget, igetC, jget, jgetC, qget, qgetC, alen, lenC, oI, oJ, oF, oA, oV, oH, oInc, oIld, oJld, oQld, oR, oLen, oIst, oBst, oJst, oQst, ciOf, rcv, oCp, cat1, cond_true, cond_false, Bool.and_self, Bool.and_true, Bool.true_and, Bool.or_true, Bool.true_or, Bool.or_false, Bool.false_or, Bool.not_false, Bool.not_true, ↓reduceIte, Nat.reduceBEq, Nat.reduceEqDiff, beq_self_eq_true, true_and, and_true, eq_self_iff_true, Nat.reduceAdd, Nat.blt, Nat.ble, z_le, z_lt, z_eq, z_cl, z_add, z_sub, z_mul, z_in, z_lt0, z_ofN, z_m1, z_ltm1, z_m1lt, z_eqm1, z_m1eq, z_m1le, z_lem1, z_beq, nI_0_1, nI_m1lt0, nI_0lem1, not_false_eq_true, not_true_eq_false, forall_const, false_implies, true_implies, implies_true, false_and, and_false, mrg, renc, tra, trv, sg, List.map_cons, List.map_nil, Option.map_some, Option.map_none, Option.toList_some, Option.toList_none, List.cons_append, List.nil_append, List.length_cons, List.length_nil, gH, gO]
                exact hf
              · rw [if_neg z] at hno
                have hf := hno rfl gmd gop gom gwt gwm gtn gon
                have ho8 : σ.o < 2 ^ 20 := by omega
                clear hno hgo hfin hcs kd d1 d2 hred hpr
                generalize T.length = len at *
                generalize σ.o = oo at *
                subst q59
                subst hgon
                refine wp_aw (S := fun x => x == 29) (by decide) 200 _ _ _ _ _ _ ?_
                simp (disch := first | exact rfl | decide | omega) only [u_110_0, u_110_1, u_110_4, u_110_5, u_110_6, u_110_7, u_110_8, u_110_9, u_110_12, u_110_13, u_110_14, u_110_17, u_110_18, u_110_19, u_110_22, u_110_23, u_110_24, u_110_27, u_110_28, u_110_29, u_110_30, u_110_33, u_110_34, u_110_35, u_110_38, u_110_39, u_110_40, u_110_43, u_110_46, u_110_47, u_110_48, u_110_49, u_110_51, u_110_54, u_110_55, u_110_58, u_110_59, u_110_60, u_110_63, u_110_64, u_110_66, u_110_69, u_110_70, u_110_73, u_110_76, u_110_77, u_110_78, u_110_81, u_110_82, u_110_83, u_110_86, u_110_87, u_110_88, u_110_91, u_110_92, u_110_93, u_110_96, u_110_97, u_110_98, u_110_101, u_110_104, u_110_105, u_110_107, u_110_110, u_110_111, u_110_114, u_110_117, u_110_118, u_110_119, u_110_122, u_110_123, u_110_124, u_110_125, u_110_128, u_110_129, u_110_130, u_110_131, u_110_134, u_110_135, u_110_136, u_110_139, u_110_142, u_110_143, u_110_144, u_110_145, u_110_147, u_110_150, u_110_151, u_110_154, u_110_155, u_110_156, u_110_157, u_110_158, u_110_161, u_110_162, u_110_163, u_110_166, wp_stop, lget, lput1, lput2, kil, hget, hset, vget, vset, fget, fgetC, fput, fputC, iget, igetC, jget, jgetC, qget, qgetC, alen, lenC, oI, oJ, oF, oA, oV, oH, oInc, oIld, oJld, oQld, oR, oLen, oIst, oBst, oJst, oQst, ciOf, rcv, oCp, cat1, cond_true, cond_false, Bool.and_self, Bool.and_true, Bool.true_and, Bool.or_true, Bool.true_or, Bool.or_false, Bool.false_or, Bool.not_false, Bool.not_true, ↓reduceIte, Nat.reduceBEq, Nat.reduceEqDiff, beq_self_eq_true, true_and, and_true, eq_self_iff_true, Nat.reduceAdd, Nat.blt, Nat.ble, z_le, z_lt, z_eq, z_cl, z_add, z_sub, z_mul, z_in, z_lt0, z_ofN, z_m1, z_ltm1, z_m1lt, z_eqm1, z_m1eq, z_m1le, z_lem1, z_beq, nI_0_1, nI_m1lt0, nI_0lem1, not_false_eq_true, not_true_eq_false, forall_const, false_implies, true_implies, implies_true, false_and, and_false, mrg, renc, tra, trv, sg, List.map_cons, List.map_nil, Option.map_some, Option.map_none, Option.toList_some, Option.toList_none, List.cons_append, List.nil_append, List.length_cons, List.length_nil, gH, gO, z]
                refine CAL.dir hopr (by omega) (Nat.zero_le _) (Nat.zero_le _) (Nat.le_of_ble_eq_true rfl) (by rw [ggn]; exact Nat.le_of_ble_eq_true rfl) hok3 rfl ?_
                rintro _ _ ⟨rfl, rfl⟩
                simp (disch := first | exact rfl | decide | omega) only [u_110_0, u_110_1, u_110_4, u_110_5, u_110_6, u_110_7, u_110_8, u_110_9, u_110_12, u_110_13, u_110_14, u_110_17, u_110_18, u_110_19, u_110_22, u_110_23, u_110_24, u_110_27, u_110_28, u_110_29, u_110_30, u_110_33, u_110_34, u_110_35, u_110_38, u_110_39, u_110_40, u_110_43, u_110_46, u_110_47, u_110_48, u_110_49, u_110_51, u_110_54, u_110_55, u_110_58, u_110_59, u_110_60, u_110_63, u_110_64, u_110_66, u_110_69, u_110_70, u_110_73, u_110_76, u_110_77, u_110_78, u_110_81, u_110_82, u_110_83, u_110_86, u_110_87, u_110_88, u_110_91, u_110_92, u_110_93, u_110_96, u_110_97, u_110_98, u_110_101, u_110_104, u_110_105, u_110_107, u_110_110, u_110_111, u_110_114, u_110_117, u_110_118, u_110_119, u_110_122, u_110_123, u_110_124, u_110_125, u_110_128, u_110_129, u_110_130, u_110_131, u_110_134, u_110_135, u_110_136, u_110_139, u_110_142, u_110_143, u_110_144, u_110_145, u_110_147, u_110_150, u_110_151, u_110_154, u_110_155, u_110_156, u_110_157, u_110_158, u_110_161, u_110_162, u_110_163, u_110_166, wp_stop, lget, lput1, lput2, kil, hget, hset, vget, vset, fget, fgetC, fput, fputC, iget, igetC, jget, jgetC, qget, qgetC, alen, lenC, oI, oJ, oF, oA, oV, oH, oInc, oIld, oJld, oQld, oR, oLen, oIst, oBst, oJst, oQst, ciOf, rcv, oCp, cat1, cond_true, cond_false, Bool.and_self, Bool.and_true, Bool.true_and, Bool.or_true, Bool.true_or, Bool.or_false, Bool.false_or, Bool.not_false, Bool.not_true, ↓reduceIte, Nat.reduceBEq, Nat.reduceEqDiff, beq_self_eq_true, true_and, and_true, eq_self_iff_true, Nat.reduceAdd, Nat.blt, Nat.ble, z_le, z_lt, z_eq, z_cl, z_add, z_sub, z_mul, z_in, z_lt0, z_ofN, z_m1, z_ltm1, z_m1lt, z_eqm1, z_m1eq, z_m1le, z_lem1, z_beq, nI_0_1, nI_m1lt0, nI_0lem1, not_false_eq_true, not_true_eq_false, forall_const, false_implies, true_implies, implies_true, false_and, and_false, mrg, renc, tra, trv, sg, List.map_cons, List.map_nil, Option.map_some, Option.map_none, Option.toList_some, Option.toList_none, List.cons_append, List.nil_append, List.length_cons, List.length_nil, gH, gO]
                exact hf
            · rw [if_neg q59] at hno
              have hf := hno rfl gmd gop gom gwt gwm gtn gon
              clear hno hgo hfin hcs kd d1 d2 hred hpr
              generalize T.length = len at *
              refine wp_aw (S := fun x => x == 29) (by decide) 200 _ _ _ _ _ _ ?_
              simp (disch := first | exact rfl | decide | omega) only [u_110_0, u_110_1, u_110_4, u_110_5, u_110_6, u_110_7, u_110_8, u_110_9, u_110_12, u_110_13, u_110_14, u_110_17, u_110_18, u_110_19, u_110_22, u_110_23, u_110_24, u_110_27, u_110_28, u_110_29, u_110_30, u_110_33, u_110_34, u_110_35, u_110_38, u_110_39, u_110_40, u_110_43, u_110_46, u_110_47, u_110_48, u_110_49, u_110_51, u_110_54, u_110_55, u_110_58, u_110_59, u_110_60, u_110_63, u_110_64, u_110_66, u_110_69, u_110_70, u_110_73, u_110_76, u_110_77, u_110_78, u_110_81, u_110_82, u_110_83, u_110_86, u_110_87, u_110_88, u_110_91, u_110_92, u_110_93, u_110_96, u_110_97, u_110_98, u_110_101, u_110_104, u_110_105, u_110_107, u_110_110, u_110_111, u_110_114, u_110_117, u_110_118, u_110_119, u_110_122, u_110_123, u_110_124, u_110_125, u_110_128, u_110_129, u_110_130, u_110_131, u_110_134, u_110_135, u_110_136, u_110_139, u_110_142, u_110_143, u_110_144, u_110_145, u_110_147, u_110_150, u_110_151, u_110_154, u_110_155, u_110_156, u_110_157, u_110_158, u_110_161, u_110_162, u_110_163, u_110_166, wp_stop, lget, lput1, lput2, kil, hget, hset, vget, vset, fget, fgetC, fput, fputC, iget, igetC, jget, jgetC, qget, qgetC, alen, lenC, oI, oJ, oF, oA, oV, oH, oInc, oIld, oJld, oQld, oR, oLen, oIst, oBst, oJst, oQst, ciOf, rcv, oCp, cat1, cond_true, cond_false, Bool.and_self, Bool.and_true, Bool.true_and, Bool.or_true, Bool.true_or, Bool.or_false, Bool.false_or, Bool.not_false, Bool.not_true, ↓reduceIte, Nat.reduceBEq, Nat.reduceEqDiff, beq_self_eq_true, true_and, and_true, eq_self_iff_true, Nat.reduceAdd, Nat.blt, Nat.ble, z_le, z_lt, z_eq, z_cl, z_add, z_sub, z_mul, z_in, z_lt0, z_ofN, z_m1, z_ltm1, z_m1lt, z_eqm1, z_m1eq, z_m1le, z_lem1, z_beq, nI_0_1, nI_m1lt0, nI_0lem1, not_false_eq_true, not_true_eq_false, forall_const, false_implies, true_implies, implies_true, false_and, and_false, mrg, renc, tra, trv, sg, List.map_cons, List.map_nil, Option.map_some, Option.map_none, Option.toList_some, Option.toList_none, List.cons_append, List.nil_append, List.length_cons, List.length_nil, gH, gO, q41, q59]
              refine CAL.dir hopr (by omega) (Nat.zero_le _) (Nat.zero_le _) (Nat.le_of_ble_eq_true rfl) (by rw [ggn]; exact Nat.le_of_ble_eq_true rfl) hok3 rfl ?_
              rintro _ _ ⟨rfl, rfl⟩
              simp (disch := first | exact rfl | decide | omega) only [u_110_0, u_110_1, u_110_4, u_110_5, u_110_6, u_110_7, u_110_8, u_110_9, u_110_12, u_110_13, u_110_14, u_110_17, u_110_18, u_110_19, u_110_22, u_110_23, u_110_24, u_110_27, u_110_28, u_110_29, u_110_30, u_110_33, u_110_34, u_110_35, u_110_38, u_110_39, u_110_40, u_110_43, u_110_46, u_110_47, u_110_48, u_110_49, u_110_51, u_110_54, u_110_55, u_110_58, u_110_59, u_110_60, u_110_63, u_110_64, u_110_66, u_110_69, u_110_70, u_110_73, u_110_76, u_110_77, u_110_78, u_110_81, u_110_82, u_110_83, u_110_86, u_110_87, u_110_88, u_110_91, u_110_92, u_110_93, u_110_96, u_110_97, u_110_98, u_110_101, u_110_104, u_110_105, u_110_107, u_110_110, u_110_111, u_110_114, u_110_117, u_110_118, u_110_119, u_110_122, u_110_123, u_110_124, u_110_125, u_110_128, u_110_129, u_110_130, u_110_131, u_110_134, u_110_135, u_110_136, u_110_139, u_110_142, u_110_143, u_110_144, u_110_145, u_110_147, u_110_150, u_110_151, u_110_154, u_110_155, u_110_156, u_110_157, u_110_158, u_110_161, u_110_162, u_110_163, u_110_166, wp_stop, lget, lput1, lput2, kil, hget, hset, vget, vset, fget, fgetC, fput, fputC, iget, igetC, jget, jgetC, qget, qgetC, alen, lenC, oI, oJ, oF, oA, oV, oH, oInc, oIld, oJld, oQld, oR, oLen, oIst, oBst, oJst, oQst, ciOf, rcv, oCp, cat1, cond_true, cond_false, Bool.and_self, Bool.and_true, Bool.true_and, Bool.or_true, Bool.true_or, Bool.or_false, Bool.false_or, Bool.not_false, Bool.not_true, ↓reduceIte, Nat.reduceBEq, Nat.reduceEqDiff, beq_self_eq_true, true_and, and_true, eq_self_iff_true, Nat.reduceAdd, Nat.blt, Nat.ble, z_le, z_lt, z_eq, z_cl, z_add, z_sub, z_mul, z_in, z_lt0, z_ofN, z_m1, z_ltm1, z_m1lt, z_eqm1, z_m1eq, z_m1le, z_lem1, z_beq, nI_0_1, nI_m1lt0, nI_0lem1, not_false_eq_true, not_true_eq_false, forall_const, false_implies, true_implies, implies_true, false_and, and_false, mrg, renc, tra, trv, sg, List.map_cons, List.map_nil, Option.map_some, Option.map_none, Option.toList_some, Option.toList_none, List.cons_append, List.nil_append, List.length_cons, List.length_nil, gH, gO]
              exact hf
end GM
