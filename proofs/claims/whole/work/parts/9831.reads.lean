/-! ResidualJudgeModel.reads -/
/-- orders one behind another -/
def ordC : Nat → rS × List Nat × Nat → Option (rS × List Nat × Nat)
  | 0, s => some s
  | n + 1, s => match ordC n s with
    | none => none
    | some t => match ordF t.1 t.2.1 t.2.2 with
      | .inl _ => none
      | .inr u => some u
theorem ordC_pre {s : rS × List Nat × Nat} : ∀ {n : Nat} {t : rS × List Nat × Nat}, ordC n s = some t → ∀ k, k ≤ n → ∃ u, ordC k s = some u
  | 0, t, h, k, hk => by
    have : k = 0 := by omega
    subst this
    exact ⟨t, h⟩
  | n + 1, t, h, k, hk => by
    by_cases e : k = n + 1
    · subst e
      exact ⟨t, h⟩
    · cases e2 : ordC n s with
      | none =>
        have : ordC (n + 1) s = none := by
          show (match ordC n s with | none => none | some t => _) = none
          rw [e2]
        rw [this] at h
        simp at h
      | some u => exact ordC_pre e2 k (by omega)
theorem ordC_s {s t u : rS × List Nat × Nat} {n : Nat} (h : ordC n s = some t) (h2 : ordF t.1 t.2.1 t.2.2 = .inr u) : ordC (n + 1) s = some u := by
  show (match ordC n s with | none => none | some t => match ordF t.1 t.2.1 t.2.2 with | .inl _ => none | .inr u => some u) = some u
  rw [h]
  show (match ordF t.1 t.2.1 t.2.2 with | .inl _ => none | .inr u => some u) = some u
  rw [h2]
theorem ordC_i {s t u : rS × List Nat × Nat} {n : Nat} (h : ordC n s = some t) (h2 : ordC (n + 1) s = some u) : ordF t.1 t.2.1 t.2.2 = .inr u := by
  have h3 : (match ordC n s with | none => none | some t => match ordF t.1 t.2.1 t.2.2 with | .inl _ => none | .inr u => some u) = some u := h2
  rw [h] at h3
  have h4 : (match ordF t.1 t.2.1 t.2.2 with | .inl _ => none | .inr u => some u) = some u := h3
  cases e : ordF t.1 t.2.1 t.2.2 with
  | inl j => rw [e] at h4; simp at h4
  | inr v =>
    rw [e] at h4
    exact congrArg Sum.inr (Option.some.inj h4)
theorem rdL_sk (σ : rS) : ∀ (cs : List Nat) (i : Nat), rdL σ cs i = rdL σ (skF cs i).1 (skF cs i).2
  | [], _ => rfl
  | c :: cs, i => by
    unfold skF
    by_cases q : c = 32
    · rw [if_pos q]
      have : rdL σ (c :: cs) i = rdL σ cs (i + 1) := if_pos q
      rw [this]
      exact rdL_sk σ cs (i + 1)
    · rw [if_neg q]
section GM
variable (gal : Nat → Int32) (gps : Nat → Int32) (gst : Int32) (grf : Nat → Int32) (gmy : Int32) (gkd : Nat → Int32) (glf : Nat → Int32) (grt : Nat → Int32) (gpr : Nat → Int32) (gun : Nat → Int32) (gow : Nat → Int32) (gem : Nat → Int32) (ged : Nat → Int32) (gse : Nat → Int32) (gsz : Nat → Int32) (gtx : Nat → Int32) (gtl : Int32) (gsp : Int32) (gmd : Nat → Int32) (gop : Nat → Int32) (gom : Int32) (gwt : Nat → Int32) (gwm : Int32) (gtn : Int32) (gon : Int32) (gsh : Nat → Int32) (gtr : Nat → Int32) (gbl : Int32) (gbd : Int32) (gwh : Nat → Int32) (gfl : Int32) (gfd : Int32) (gfe : Int32)
set_option maxRecDepth 100000 in
set_option maxHeartbeats 16000000 in
theorem l_reads1 {G : aG} (T : List Nat) (hT : txR gtx T) (hl : T.length ≤ 150) (hd : 5 ≤ gD G) (ggn : gN G = 21) (s0 : rS × List Nat × Nat) (Q : Nat ⊕ rS)
    (hbad : ∀ j gsp gmd gop gom gwt gwm gtn gon, rdW Q T.length = some j → gsp = nI j → RET G (some (.int (-10 - nI j))) (gH gal gps gst grf gmy gkd glf grt gpr gun gow gem ged gse gsz gtx (nI T.length) gsp gmd gop gom gwt gwm gtn gon gsh gtr gbl gbd gwh gfl gfd gfe) 0 0)
    (hnext : ∀ n σF csF iF gsp gmd gop gom gwt gwm gtn gon, ordC n s0 = some (σF, csF, iF) → Q = .inr σF → σF.ph = 0 → σF.ord = n → 0 < n → n ≤ 150 → AW 107 G 34 [some (.ref 0), some (.int (nI n)), none, none] [] (gH gal gps gst grf gmy gkd glf grt gpr gun gow gem ged gse gsz gtx (nI T.length) gsp gmd gop gom gwt gwm gtn gon gsh gtr gbl gbd gwh gfl gfd gfe) 0 0) :
    ∀ (m k i ik : Nat) (cs csk : List Nat) (σ : rS) (gmd gop : Nat → Int32) (gom : Int32) (gwt : Nat → Int32) (gwm gtn gon : Int32), cs.length ≤ m → T.drop i = cs → i ≤ T.length → σ.ph = 0 → rdI σ → σ.ord = k → k + cs.length ≤ 150 → ordC k s0 = some (σ, csk, ik) → ordF σ cs i = ordF σ csk ik → rdL σ cs i = Q → (k = 0 ∨ ¬ (skF cs i).1 = []) →
    AW 107 G 7 [some (.ref 0), some (.int (nI k)), none, none] [] (gH gal gps gst grf gmy gkd glf grt gpr gun gow gem ged gse gsz gtx (nI T.length) (nI i) gmd gop gom gwt gwm gtn gon gsh gtr gbl gbd gwh gfl gfd gfe) 0 0 := by
  intro m
  induction m with
  | zero =>
    intro k i ik cs csk σ gmd gop gom gwt gwm gtn gon hm hcs hi hph hI hord h150 hC hF hQ hnb
    have e : cs = [] := List.length_eq_zero_iff.mp (by omega)
    subst e
    have hb := ordF_bad [] i (σ := σ) (j := i) (len := T.length) (by have := drop_nil hcs hi; rw [List.length_nil]; omega) (Or.inr (by rcases hnb with w | w; exact Or.inl (by omega); exact Or.inr w)) rfl
    rw [hQ] at hb
    have hto := g_takesOrder gal gps gst grf gmy gkd glf grt gpr gun gow gem ged gse gsz gtx gmd gop gom gwt gwm gtn gon gsh gtr gbl gbd gwh gfl gfd gfe 0 i false T [] hT hl hcs hi σ hph (by rw [List.length_nil]; omega)
    have hi150 : i < 200 := by omega
    clear hnext
    have ez : bN false = nI 0 := rfl
    rw [ez] at hto
    refine wq_aw (S := fun x => x == 7 || x == 34) (by decide) (f := 200) ?_
    simp (disch := first | exact rfl | decide | omega) only [v_107_7, v_107_45, u_107_0, u_107_1, u_107_2, u_107_5, u_107_6, u_107_7, u_107_8, u_107_9, u_107_12, u_107_15, u_107_17, u_107_18, u_107_21, u_107_22, u_107_23, u_107_26, u_107_27, u_107_30, u_107_31, u_107_34, u_107_35, u_107_38, u_107_39, u_107_40, u_107_43, u_107_44, u_107_45, u_107_46, u_107_47, u_107_50, u_107_51, u_107_52, u_107_55, u_107_56, u_107_59, u_107_62, u_107_63, u_107_66, u_107_67, wp_stop, lget, lput1, lput2, kil, hget, hset, vget, vset, fget, fgetC, fput, fputC, iget, igetC, jget, jgetC, qget, qgetC, alen, lenC, oI, oJ, oF, oA, oV, oH, oInc, oIld, oJld, oQld, oR, oLen, oIst, oBst, oJst, oQst, ciOf, rcv, oCp, cat1, cond_true, cond_false, Bool.and_self, Bool.and_true, Bool.true_and, Bool.or_true, Bool.true_or, Bool.or_false, Bool.false_or, Bool.not_false, Bool.not_true, ↓reduceIte, Nat.reduceBEq, Nat.reduceEqDiff, beq_self_eq_true, true_and, and_true, eq_self_iff_true, Nat.reduceAdd, Nat.blt, Nat.ble, z_le, z_lt, z_eq, z_cl, z_add, z_sub, z_mul, z_in, z_lt0, z_ofN, z_m1, z_ltm1, z_m1lt, z_eqm1, z_m1eq, z_m1le, z_lem1, z_beq, nI_0_1, nI_m1lt0, nI_0lem1, not_false_eq_true, not_true_eq_false, forall_const, false_implies, true_implies, implies_true, false_and, and_false, mrg, renc, tra, trv, sg, List.map_cons, List.map_nil, Option.map_some, Option.map_none, Option.toList_some, Option.toList_none, List.cons_append, List.nil_append, List.length_cons, List.length_nil, gH, gO]
    refine CAL.dir hto (by omega) (Nat.zero_le _) (Nat.zero_le _) (Nat.le_of_ble_eq_true rfl) (by rw [ggn]; exact Nat.le_of_ble_eq_true rfl) rfl rfl ?_
    rintro r _ ⟨gal', gsp, gmd, gop, gom, gwt, gwm, gtn, gon, rfl, hA, hB⟩
    obtain ⟨rfl, rfl, rfl⟩ := hA i rfl
    have hf := hbad i (nI i) gmd gop gom gwt gwm gtn gon hb rfl
    clear hbad hA hB
    simp (disch := first | exact rfl | decide | omega) only [u_107_0, u_107_1, u_107_2, u_107_5, u_107_6, u_107_7, u_107_8, u_107_9, u_107_12, u_107_15, u_107_17, u_107_18, u_107_21, u_107_22, u_107_23, u_107_26, u_107_27, u_107_30, u_107_31, u_107_34, u_107_35, u_107_38, u_107_39, u_107_40, u_107_43, u_107_44, u_107_45, u_107_46, u_107_47, u_107_50, u_107_51, u_107_52, u_107_55, u_107_56, u_107_59, u_107_62, u_107_63, u_107_66, u_107_67, wp_stop, lget, lput1, lput2, kil, hget, hset, vget, vset, fget, fgetC, fput, fputC, iget, igetC, jget, jgetC, qget, qgetC, alen, lenC, oI, oJ, oF, oA, oV, oH, oInc, oIld, oJld, oQld, oR, oLen, oIst, oBst, oJst, oQst, ciOf, rcv, oCp, cat1, cond_true, cond_false, Bool.and_self, Bool.and_true, Bool.true_and, Bool.or_true, Bool.true_or, Bool.or_false, Bool.false_or, Bool.not_false, Bool.not_true, ↓reduceIte, Nat.reduceBEq, Nat.reduceEqDiff, beq_self_eq_true, true_and, and_true, eq_self_iff_true, Nat.reduceAdd, Nat.blt, Nat.ble, z_le, z_lt, z_eq, z_cl, z_add, z_sub, z_mul, z_in, z_lt0, z_ofN, z_m1, z_ltm1, z_m1lt, z_eqm1, z_m1eq, z_m1le, z_lem1, z_beq, nI_0_1, nI_m1lt0, nI_0lem1, not_false_eq_true, not_true_eq_false, forall_const, false_implies, true_implies, implies_true, false_and, and_false, mrg, renc, tra, trv, sg, List.map_cons, List.map_nil, Option.map_some, Option.map_none, Option.toList_some, Option.toList_none, List.cons_append, List.nil_append, List.length_cons, List.length_nil, gH, gO]
    exact hf
  | succ m ih =>
    intro k i ik cs csk σ gmd gop gom gwt gwm gtn gon hm hcs hi hph hI hord h150 hC hF hQ hnb
    have hcl : cs.length = T.length - i := by rw [← hcs, List.length_drop]
    have hto := g_takesOrder gal gps gst grf gmy gkd glf grt gpr gun gow gem ged gse gsz gtx gmd gop gom gwt gwm gtn gon gsh gtr gbl gbd gwh gfl gfd gfe 0 i false T cs hT hl hcs hi σ hph (by omega)
    have ez : bN false = nI 0 := rfl
    rw [ez] at hto
    cases hres : ordF σ cs i with
    | inl j =>
      have hb := ordF_bad cs i (σ := σ) (j := j) (len := T.length) (by omega) (Or.inr (by rcases hnb with w | w; exact Or.inl (by omega); exact Or.inr w)) hres
      rw [hQ] at hb
      clear hnext ih
      refine wq_aw (S := fun x => x == 7 || x == 34) (by decide) (f := 200) ?_
      simp (disch := first | exact rfl | decide | omega) only [v_107_7, v_107_45, u_107_0, u_107_1, u_107_2, u_107_5, u_107_6, u_107_7, u_107_8, u_107_9, u_107_12, u_107_15, u_107_17, u_107_18, u_107_21, u_107_22, u_107_23, u_107_26, u_107_27, u_107_30, u_107_31, u_107_34, u_107_35, u_107_38, u_107_39, u_107_40, u_107_43, u_107_44, u_107_45, u_107_46, u_107_47, u_107_50, u_107_51, u_107_52, u_107_55, u_107_56, u_107_59, u_107_62, u_107_63, u_107_66, u_107_67, wp_stop, lget, lput1, lput2, kil, hget, hset, vget, vset, fget, fgetC, fput, fputC, iget, igetC, jget, jgetC, qget, qgetC, alen, lenC, oI, oJ, oF, oA, oV, oH, oInc, oIld, oJld, oQld, oR, oLen, oIst, oBst, oJst, oQst, ciOf, rcv, oCp, cat1, cond_true, cond_false, Bool.and_self, Bool.and_true, Bool.true_and, Bool.or_true, Bool.true_or, Bool.or_false, Bool.false_or, Bool.not_false, Bool.not_true, ↓reduceIte, Nat.reduceBEq, Nat.reduceEqDiff, beq_self_eq_true, true_and, and_true, eq_self_iff_true, Nat.reduceAdd, Nat.blt, Nat.ble, z_le, z_lt, z_eq, z_cl, z_add, z_sub, z_mul, z_in, z_lt0, z_ofN, z_m1, z_ltm1, z_m1lt, z_eqm1, z_m1eq, z_m1le, z_lem1, z_beq, nI_0_1, nI_m1lt0, nI_0lem1, not_false_eq_true, not_true_eq_false, forall_const, false_implies, true_implies, implies_true, false_and, and_false, mrg, renc, tra, trv, sg, List.map_cons, List.map_nil, Option.map_some, Option.map_none, Option.toList_some, Option.toList_none, List.cons_append, List.nil_append, List.length_cons, List.length_nil, gH, gO]
      refine CAL.dir hto (by omega) (Nat.zero_le _) (Nat.zero_le _) (Nat.le_of_ble_eq_true rfl) (by rw [ggn]; exact Nat.le_of_ble_eq_true rfl) rfl rfl ?_
      rintro r _ ⟨gal', gsp, gmd, gop, gom, gwt, gwm, gtn, gon, rfl, hA, hB⟩
      obtain ⟨rfl, rfl, rfl⟩ := hA j hres
      have hf := hbad j (nI j) gmd gop gom gwt gwm gtn gon hb rfl
      clear hbad hA hB
      generalize nI j = jv at *
      simp (disch := first | exact rfl | decide | omega) only [u_107_0, u_107_1, u_107_2, u_107_5, u_107_6, u_107_7, u_107_8, u_107_9, u_107_12, u_107_15, u_107_17, u_107_18, u_107_21, u_107_22, u_107_23, u_107_26, u_107_27, u_107_30, u_107_31, u_107_34, u_107_35, u_107_38, u_107_39, u_107_40, u_107_43, u_107_44, u_107_45, u_107_46, u_107_47, u_107_50, u_107_51, u_107_52, u_107_55, u_107_56, u_107_59, u_107_62, u_107_63, u_107_66, u_107_67, wp_stop, lget, lput1, lput2, kil, hget, hset, vget, vset, fget, fgetC, fput, fputC, iget, igetC, jget, jgetC, qget, qgetC, alen, lenC, oI, oJ, oF, oA, oV, oH, oInc, oIld, oJld, oQld, oR, oLen, oIst, oBst, oJst, oQst, ciOf, rcv, oCp, cat1, cond_true, cond_false, Bool.and_self, Bool.and_true, Bool.true_and, Bool.or_true, Bool.true_or, Bool.or_false, Bool.false_or, Bool.not_false, Bool.not_true, ↓reduceIte, Nat.reduceBEq, Nat.reduceEqDiff, beq_self_eq_true, true_and, and_true, eq_self_iff_true, Nat.reduceAdd, Nat.blt, Nat.ble, z_le, z_lt, z_eq, z_cl, z_add, z_sub, z_mul, z_in, z_lt0, z_ofN, z_m1, z_ltm1, z_m1lt, z_eqm1, z_m1eq, z_m1le, z_lem1, z_beq, nI_0_1, nI_m1lt0, nI_0lem1, not_false_eq_true, not_true_eq_false, forall_const, false_implies, true_implies, implies_true, false_and, and_false, mrg, renc, tra, trv, sg, List.map_cons, List.map_nil, Option.map_some, Option.map_none, Option.toList_some, Option.toList_none, List.cons_append, List.nil_append, List.length_cons, List.length_nil, gH, gO]
      exact hf
    | inr t =>
      obtain ⟨σ', cs', k'⟩ := t
      obtain ⟨s1, s2, s3, s4, s5, s6, s7, s8⟩ := ordF_st cs i hcs hi hI (by omega) hres
      have hC2 := ordC_s hC (u := (σ', cs', k')) (by show ordF σ csk ik = _; rw [← hF]; exact hres)
      have hord' : σ'.ord = k + 1 := by
        obtain ⟨o1, o2, o3, -⟩ := skF_ok cs i
        have hres2 := hres
        rw [ordF_sk] at hres2
        cases hc : (skF cs i).1 with
        | nil => rw [hc] at hres2; simp [ordF] at hres2
        | cons c r =>
          rw [hc] at hres2 o2
          rw [List.length_cons] at o2
          have hc32 := o3 c r hc
          rw [ordF_c _ _ _ _ hc32] at hres2
          have hT0 : rdT σ c = rdO σ c := by unfold rdT; rw [if_pos hph]
          rw [hT0] at hres2
          cases ho : rdO σ c with
          | none => rw [ho] at hres2; simp at hres2
          | some τ =>
            rw [ho] at hres2
            have hτ : 1 ≤ τ.ph ∧ τ.ord = σ.ord := by
              unfold rdO at ho
              split at ho
              · rw [← Option.some.inj ho]; exact ⟨Nat.le_refl 1, rfl⟩
              · split at ho
                · rw [← Option.some.inj ho]; exact ⟨Nat.le_refl 1, rfl⟩
                · simp at ho
            have h2 : (if τ.ph = 0 then Sum.inr (τ, r, (skF cs i).2 + 1) else ordF τ r ((skF cs i).2 + 1)) = .inr (σ', cs', k') := hres2
            rw [if_neg (by omega)] at h2
            have hIτ := (rdI_s hI (by omega) (hT0.trans ho)).1
            have := (ordF_gr r _ hτ.1 hIτ (by omega) h2).2
            omega
      have hh := g_here gal gps gst grf gmy gkd glf grt gpr gun gow gem ged gse gsz gtx gmd gop gom gwt gwm gtn gon gsh gtr gbl gbd gwh gfl gfd gfe 0 k' T cs' hT hl s1 s2
      obtain ⟨o1, o2, o3, -⟩ := skF_ok cs' k'
      have hdr := skF_drop s1
      have hcl' : cs'.length = T.length - k' := by rw [← s1, List.length_drop]
      have hk150 : k < 150 := by omega
      have hfin : (skF cs' k').1 = [] → ∀ gsp gmd gop gom gwt gwm gtn gon, AW 107 G 34 [some (.ref 0), some (.int (nI (k + 1))), none, none] [] (gH gal gps gst grf gmy gkd glf grt gpr gun gow gem ged gse gsz gtx (nI T.length) gsp gmd gop gom gwt gwm gtn gon gsh gtr gbl gbd gwh gfl gfd gfe) 0 0 := fun he gsp gmd gop gom gwt gwm gtn gon => hnext (k + 1) σ' cs' k' gsp gmd gop gom gwt gwm gtn gon hC2 (by rw [← hQ, s6, rdL_sk, he]; rfl) s5 hord' (by omega) (by omega)
      have hgo : ¬ (skF cs' k').1 = [] → ∀ gmd gop gom gwt gwm gtn gon, AW 107 G 7 [some (.ref 0), some (.int (nI (k + 1))), none, none] [] (gH gal gps gst grf gmy gkd glf grt gpr gun gow gem ged gse gsz gtx (nI T.length) (nI (skF cs' k').2) gmd gop gom gwt gwm gtn gon gsh gtr gbl gbd gwh gfl gfd gfe) 0 0 := fun he gmd gop gom gwt gwm gtn gon => ih (k + 1) (skF cs' k').2 k' (skF cs' k').1 cs' σ' gmd gop gom gwt gwm gtn gon (by omega) hdr (by omega) s5 s4 hord' (by omega) hC2 (ordF_sk σ' cs' k').symm (by rw [← hQ, s6, ← rdL_sk]) (Or.inr (by rw [skF_idem]; exact he))
      clear hnext ih hbad
      refine wq_aw (S := fun x => x == 7 || x == 34) (by decide) (f := 200) ?_
      simp (disch := first | exact rfl | decide | omega) only [v_107_7, v_107_45, u_107_0, u_107_1, u_107_2, u_107_5, u_107_6, u_107_7, u_107_8, u_107_9, u_107_12, u_107_15, u_107_17, u_107_18, u_107_21, u_107_22, u_107_23, u_107_26, u_107_27, u_107_30, u_107_31, u_107_34, u_107_35, u_107_38, u_107_39, u_107_40, u_107_43, u_107_44, u_107_45, u_107_46, u_107_47, u_107_50, u_107_51, u_107_52, u_107_55, u_107_56, u_107_59, u_107_62, u_107_63, u_107_66, u_107_67, wp_stop, lget, lput1, lput2, kil, hget, hset, vget, vset, fget, fgetC, fput, fputC, iget, igetC, jget, jgetC, qget, qgetC, alen, lenC, oI, oJ, oF, oA, oV, oH, oInc, oIld, oJld, oQld, oR, oLen, oIst, oBst, oJst, oQst, ciOf, rcv, oCp, cat1, cond_true, cond_false, Bool.and_self, Bool.and_true, Bool.true_and, Bool.or_true, Bool.true_or, Bool.or_false, Bool.false_or, Bool.not_false, Bool.not_true, ↓reduceIte, Nat.reduceBEq, Nat.reduceEqDiff, beq_self_eq_true, true_and, and_true, eq_self_iff_true, Nat.reduceAdd, Nat.blt, Nat.ble, z_le, z_lt, z_eq, z_cl, z_add, z_sub, z_mul, z_in, z_lt0, z_ofN, z_m1, z_ltm1, z_m1lt, z_eqm1, z_m1eq, z_m1le, z_lem1, z_beq, nI_0_1, nI_m1lt0, nI_0lem1, not_false_eq_true, not_true_eq_false, forall_const, false_implies, true_implies, implies_true, false_and, and_false, mrg, renc, tra, trv, sg, List.map_cons, List.map_nil, Option.map_some, Option.map_none, Option.toList_some, Option.toList_none, List.cons_append, List.nil_append, List.length_cons, List.length_nil, gH, gO]
      refine CAL.dir hto (by omega) (Nat.zero_le _) (Nat.zero_le _) (Nat.le_of_ble_eq_true rfl) (by rw [ggn]; exact Nat.le_of_ble_eq_true rfl) rfl rfl ?_
      rintro r _ ⟨gal', gsp, gmd, gop, gom, gwt, gwm, gtn, gon, rfl, hA, hB⟩
      obtain ⟨rfl, rfl, hg1, -⟩ := hB σ' cs' k' hres
      have hg2 := hg1 rfl
      rw [hg2]
      clear hg1 hg2
      have hh := g_here gal gps gst grf gmy gkd glf grt gpr gun gow gem ged gse gsz gtx gmd gop gom gwt gwm gtn gon gsh gtr gbl gbd gwh gfl gfd gfe 0 k' T cs' hT hl s1 s2
      clear hA hB
      simp (disch := first | exact rfl | decide | omega) only [u_107_0, u_107_1, u_107_2, u_107_5, u_107_6, u_107_7, u_107_8, u_107_9, u_107_12, u_107_15, u_107_17, u_107_18, u_107_21, u_107_22, u_107_23, u_107_26, u_107_27, u_107_30, u_107_31, u_107_34, u_107_35, u_107_38, u_107_39, u_107_40, u_107_43, u_107_44, u_107_45, u_107_46, u_107_47, u_107_50, u_107_51, u_107_52, u_107_55, u_107_56, u_107_59, u_107_62, u_107_63, u_107_66, u_107_67, wp_stop, lget, lput1, lput2, kil, hget, hset, vget, vset, fget, fgetC, fput, fputC, iget, igetC, jget, jgetC, qget, qgetC, alen, lenC, oI, oJ, oF, oA, oV, oH, oInc, oIld, oJld, oQld, oR, oLen, oIst, oBst, oJst, oQst, ciOf, rcv, oCp, cat1, cond_true, cond_false, Bool.and_self, Bool.and_true, Bool.true_and, Bool.or_true, Bool.true_or, Bool.or_false, Bool.false_or, Bool.not_false, Bool.not_true, ↓reduceIte, Nat.reduceBEq, Nat.reduceEqDiff, beq_self_eq_true, true_and, and_true, eq_self_iff_true, Nat.reduceAdd, Nat.blt, Nat.ble, z_le, z_lt, z_eq, z_cl, z_add, z_sub, z_mul, z_in, z_lt0, z_ofN, z_m1, z_ltm1, z_m1lt, z_eqm1, z_m1eq, z_m1le, z_lem1, z_beq, nI_0_1, nI_m1lt0, nI_0lem1, not_false_eq_true, not_true_eq_false, forall_const, false_implies, true_implies, implies_true, false_and, and_false, mrg, renc, tra, trv, sg, List.map_cons, List.map_nil, Option.map_some, Option.map_none, Option.toList_some, Option.toList_none, List.cons_append, List.nil_append, List.length_cons, List.length_nil, gH, gO, n10]
      refine CAL.dir hh (by omega) (Nat.zero_le _) (Nat.zero_le _) (Nat.le_of_ble_eq_true rfl) (by rw [ggn]; exact Nat.le_of_ble_eq_true rfl) rfl rfl ?_
      rintro _ _ ⟨rfl, rfl⟩
      cases hc : (skF cs' k').1 with
      | nil =>
        have hf := hfin hc (nI (skF cs' k').2) gmd gop gom gwt gwm gtn gon
        have hhd : hdV [] = -1 := rfl
        rw [hhd]
        clear hfin hgo
        simp (disch := first | exact rfl | decide | omega) only [u_107_0, u_107_1, u_107_2, u_107_5, u_107_6, u_107_7, u_107_8, u_107_9, u_107_12, u_107_15, u_107_17, u_107_18, u_107_21, u_107_22, u_107_23, u_107_26, u_107_27, u_107_30, u_107_31, u_107_34, u_107_35, u_107_38, u_107_39, u_107_40, u_107_43, u_107_44, u_107_45, u_107_46, u_107_47, u_107_50, u_107_51, u_107_52, u_107_55, u_107_56, u_107_59, u_107_62, u_107_63, u_107_66, u_107_67, wp_stop, lget, lput1, lput2, kil, hget, hset, vget, vset, fget, fgetC, fput, fputC, iget, igetC, jget, jgetC, qget, qgetC, alen, lenC, oI, oJ, oF, oA, oV, oH, oInc, oIld, oJld, oQld, oR, oLen, oIst, oBst, oJst, oQst, ciOf, rcv, oCp, cat1, cond_true, cond_false, Bool.and_self, Bool.and_true, Bool.true_and, Bool.or_true, Bool.true_or, Bool.or_false, Bool.false_or, Bool.not_false, Bool.not_true, ↓reduceIte, Nat.reduceBEq, Nat.reduceEqDiff, beq_self_eq_true, true_and, and_true, eq_self_iff_true, Nat.reduceAdd, Nat.blt, Nat.ble, z_le, z_lt, z_eq, z_cl, z_add, z_sub, z_mul, z_in, z_lt0, z_ofN, z_m1, z_ltm1, z_m1lt, z_eqm1, z_m1eq, z_m1le, z_lem1, z_beq, nI_0_1, nI_m1lt0, nI_0lem1, not_false_eq_true, not_true_eq_false, forall_const, false_implies, true_implies, implies_true, false_and, and_false, mrg, renc, tra, trv, sg, List.map_cons, List.map_nil, Option.map_some, Option.map_none, Option.toList_some, Option.toList_none, List.cons_append, List.nil_append, List.length_cons, List.length_nil, gH, gO]
        exact hf
      | cons c r =>
        have hf := hgo (by rw [hc]; simp) gmd gop gom gwt gwm gtn gon
        have hhd : hdV (c :: r) = nI c := rfl
        rw [hhd]
        rw [hc] at hdr
        have hc128 := (hT _ c (drop_get hdr).1).2
        clear hfin hgo
        simp (disch := first | exact rfl | decide | omega) only [u_107_0, u_107_1, u_107_2, u_107_5, u_107_6, u_107_7, u_107_8, u_107_9, u_107_12, u_107_15, u_107_17, u_107_18, u_107_21, u_107_22, u_107_23, u_107_26, u_107_27, u_107_30, u_107_31, u_107_34, u_107_35, u_107_38, u_107_39, u_107_40, u_107_43, u_107_44, u_107_45, u_107_46, u_107_47, u_107_50, u_107_51, u_107_52, u_107_55, u_107_56, u_107_59, u_107_62, u_107_63, u_107_66, u_107_67, wp_stop, lget, lput1, lput2, kil, hget, hset, vget, vset, fget, fgetC, fput, fputC, iget, igetC, jget, jgetC, qget, qgetC, alen, lenC, oI, oJ, oF, oA, oV, oH, oInc, oIld, oJld, oQld, oR, oLen, oIst, oBst, oJst, oQst, ciOf, rcv, oCp, cat1, cond_true, cond_false, Bool.and_self, Bool.and_true, Bool.true_and, Bool.or_true, Bool.true_or, Bool.or_false, Bool.false_or, Bool.not_false, Bool.not_true, ↓reduceIte, Nat.reduceBEq, Nat.reduceEqDiff, beq_self_eq_true, true_and, and_true, eq_self_iff_true, Nat.reduceAdd, Nat.blt, Nat.ble, z_le, z_lt, z_eq, z_cl, z_add, z_sub, z_mul, z_in, z_lt0, z_ofN, z_m1, z_ltm1, z_m1lt, z_eqm1, z_m1eq, z_m1le, z_lem1, z_beq, nI_0_1, nI_m1lt0, nI_0lem1, not_false_eq_true, not_true_eq_false, forall_const, false_implies, true_implies, implies_true, false_and, and_false, mrg, renc, tra, trv, sg, List.map_cons, List.map_nil, Option.map_some, Option.map_none, Option.toList_some, Option.toList_none, List.cons_append, List.nil_append, List.length_cons, List.length_nil, gH, gO]
        exact hf
set_option maxRecDepth 100000 in
set_option maxHeartbeats 8000000 in
theorem l_reads2 {G : aG} (T : List Nat) (hT : txR gtx T) (hl : T.length ≤ 150) (hd : 5 ≤ gD G) (ggn : gN G = 21) (s0 : rS × List Nat × Nat) (n : Nat) (hn : n ≤ 150) (σF : rS) (csF : List Nat) (iF : Nat) (hN : ordC n s0 = some (σF, csF, iF)) (gal0 : Nat → Int32)
    (hret : ∀ gal h', (∀ j, 441 ≤ j → gal j = gal0 j) → (∀ y, y < 9 → paL gal y (σF.Gr y)) → gHx (upd (upd gal 442 (nI 8)) 443 (nI 0)) gps gst grf gtx (nI T.length) h' → RET G (some (.int (nI n))) h' 0 0) :
    ∀ (m k i : Nat) (cs : List Nat) (σ : rS) (l3 : Option Value) (gal gmd gop : Nat → Int32) (gom : Int32) (gwt : Nat → Int32) (gwm gtn gon : Int32), k + m = n → T.drop i = cs → i ≤ T.length → σ.ph = 0 → rdI σ → σ.ord + cs.length ≤ 150 → ordC k s0 = some (σ, cs, i) → okL 21 nomv [l3] = true → (∀ j, 441 ≤ j → gal j = gal0 j) → (∀ y, y < 9 → paL gal y (σ.Gr y)) →
    AW 107 G 45 [some (.ref 0), some (.int (nI n)), some (.int (nI k)), l3] [] (gH gal gps gst grf gmy gkd glf grt gpr gun gow gem ged gse gsz gtx (nI T.length) (nI i) gmd gop gom gwt gwm gtn gon gsh gtr gbl gbd gwh gfl gfd gfe) 0 0 := by
  intro m
  induction m with
  | zero =>
    intro k i cs σ l3 gal gmd gop gom gwt gwm gtn gon hm hcs hi hph hI h150 hC hok h1 h2
    have e : k = n := by omega
    subst e
    rw [hC] at hN
    have eσ := (Prod.mk.inj (Option.some.inj hN)).1
    subst eσ
    have hfg := g_forgets gal gps gst grf gmy gkd glf grt gpr gun gow gem ged gse gsz gtx (nI T.length) (nI i) gmd gop gom gwt gwm gtn gon gsh gtr gbl gbd gwh gfl gfd gfe 0
    have t1 : k ≤ k := Nat.le_refl _
    refine wq_aw (S := fun x => x == 45) (by decide) (f := 200) ?_
    simp (disch := first | exact rfl | decide | omega) only [v_107_7, v_107_45, u_107_0, u_107_1, u_107_2, u_107_5, u_107_6, u_107_7, u_107_8, u_107_9, u_107_12, u_107_15, u_107_17, u_107_18, u_107_21, u_107_22, u_107_23, u_107_26, u_107_27, u_107_30, u_107_31, u_107_34, u_107_35, u_107_38, u_107_39, u_107_40, u_107_43, u_107_44, u_107_45, u_107_46, u_107_47, u_107_50, u_107_51, u_107_52, u_107_55, u_107_56, u_107_59, u_107_62, u_107_63, u_107_66, u_107_67, wp_stop, lget, lput1, lput2, kil, hget, hset, vget, vset, fget, fgetC, fput, fputC, iget, igetC, jget, jgetC, qget, qgetC, alen, lenC, oI, oJ, oF, oA, oV, oH, oInc, oIld, oJld, oQld, oR, oLen, oIst, oBst, oJst, oQst, ciOf, rcv, oCp, cat1, cond_true, cond_false, Bool.and_self, Bool.and_true, Bool.true_and, Bool.or_true, Bool.true_or, Bool.or_false, Bool.false_or, Bool.not_false, Bool.not_true, ↓reduceIte, Nat.reduceBEq, Nat.reduceEqDiff, beq_self_eq_true, true_and, and_true, eq_self_iff_true, Nat.reduceAdd, Nat.blt, Nat.ble, z_le, z_lt, z_eq, z_cl, z_add, z_sub, z_mul, z_in, z_lt0, z_ofN, z_m1, z_ltm1, z_m1lt, z_eqm1, z_m1eq, z_m1le, z_lem1, z_beq, nI_0_1, nI_m1lt0, nI_0lem1, not_false_eq_true, not_true_eq_false, forall_const, false_implies, true_implies, implies_true, false_and, and_false, mrg, renc, tra, trv, sg, List.map_cons, List.map_nil, Option.map_some, Option.map_none, Option.toList_some, Option.toList_none, List.cons_append, List.nil_append, List.length_cons, List.length_nil, gH, gO, t1]
    refine CAL.dir hfg (by omega) (Nat.zero_le _) (Nat.zero_le _) (Nat.le_of_ble_eq_true rfl) (by rw [ggn]; exact Nat.le_of_ble_eq_true rfl) hok rfl ?_
    rintro _ _ ⟨rfl, rfl⟩
    have hf := hret gal _ h1 h2 (gHx_i (upd (upd gal 442 (nI 8)) 443 (nI 0)) gps gst grf gmy gkd glf grt gpr gun gow gem ged gse gsz gtx (nI T.length) (nI i) gmd gop gom gwt gwm gtn gon gsh gtr gbl gbd gwh gfl gfd gfe)
    clear hret
    simp (disch := first | exact rfl | decide | omega) only [u_107_0, u_107_1, u_107_2, u_107_5, u_107_6, u_107_7, u_107_8, u_107_9, u_107_12, u_107_15, u_107_17, u_107_18, u_107_21, u_107_22, u_107_23, u_107_26, u_107_27, u_107_30, u_107_31, u_107_34, u_107_35, u_107_38, u_107_39, u_107_40, u_107_43, u_107_44, u_107_45, u_107_46, u_107_47, u_107_50, u_107_51, u_107_52, u_107_55, u_107_56, u_107_59, u_107_62, u_107_63, u_107_66, u_107_67, wp_stop, lget, lput1, lput2, kil, hget, hset, vget, vset, fget, fgetC, fput, fputC, iget, igetC, jget, jgetC, qget, qgetC, alen, lenC, oI, oJ, oF, oA, oV, oH, oInc, oIld, oJld, oQld, oR, oLen, oIst, oBst, oJst, oQst, ciOf, rcv, oCp, cat1, cond_true, cond_false, Bool.and_self, Bool.and_true, Bool.true_and, Bool.or_true, Bool.true_or, Bool.or_false, Bool.false_or, Bool.not_false, Bool.not_true, ↓reduceIte, Nat.reduceBEq, Nat.reduceEqDiff, beq_self_eq_true, true_and, and_true, eq_self_iff_true, Nat.reduceAdd, Nat.blt, Nat.ble, z_le, z_lt, z_eq, z_cl, z_add, z_sub, z_mul, z_in, z_lt0, z_ofN, z_m1, z_ltm1, z_m1lt, z_eqm1, z_m1eq, z_m1le, z_lem1, z_beq, nI_0_1, nI_m1lt0, nI_0lem1, not_false_eq_true, not_true_eq_false, forall_const, false_implies, true_implies, implies_true, false_and, and_false, mrg, renc, tra, trv, sg, List.map_cons, List.map_nil, Option.map_some, Option.map_none, Option.toList_some, Option.toList_none, List.cons_append, List.nil_append, List.length_cons, List.length_nil, gH, gO]
    exact hf
  | succ m ih =>
    intro k i cs σ l3 gal gmd gop gom gwt gwm gtn gon hm hcs hi hph hI h150 hC hok h1 h2
    obtain ⟨u, hu⟩ := ordC_pre hN (k + 1) (by omega)
    have hres := ordC_i hC hu
    obtain ⟨σ', cs', k'⟩ := u
    dsimp only at hres
    obtain ⟨s1, s2, s3, s4, s5, s6, s7, s8⟩ := ordF_st cs i hcs hi hI (by omega) hres
    have hto := g_takesOrder gal gps gst grf gmy gkd glf grt gpr gun gow gem ged gse gsz gtx gmd gop gom gwt gwm gtn gon gsh gtr gbl gbd gwh gfl gfd gfe 0 i true T cs hT hl hcs hi σ hph (by omega)
    have ez : bN true = nI 1 := rfl
    rw [ez] at hto
    have t1 : ¬ n ≤ k := by omega
    have hgo := fun l3 gal gmd gop gom gwt gwm gtn gon q1 q2 q3 => ih (k + 1) k' cs' σ' l3 gal gmd gop gom gwt gwm gtn gon (by omega) s1 s2 s5 s4 (by omega) hu q1 q2 q3
    clear ih hret
    refine wq_aw (S := fun x => x == 45) (by decide) (f := 200) ?_
    simp (disch := first | exact rfl | decide | omega) only [v_107_7, v_107_45, u_107_0, u_107_1, u_107_2, u_107_5, u_107_6, u_107_7, u_107_8, u_107_9, u_107_12, u_107_15, u_107_17, u_107_18, u_107_21, u_107_22, u_107_23, u_107_26, u_107_27, u_107_30, u_107_31, u_107_34, u_107_35, u_107_38, u_107_39, u_107_40, u_107_43, u_107_44, u_107_45, u_107_46, u_107_47, u_107_50, u_107_51, u_107_52, u_107_55, u_107_56, u_107_59, u_107_62, u_107_63, u_107_66, u_107_67, wp_stop, lget, lput1, lput2, kil, hget, hset, vget, vset, fget, fgetC, fput, fputC, iget, igetC, jget, jgetC, qget, qgetC, alen, lenC, oI, oJ, oF, oA, oV, oH, oInc, oIld, oJld, oQld, oR, oLen, oIst, oBst, oJst, oQst, ciOf, rcv, oCp, cat1, cond_true, cond_false, Bool.and_self, Bool.and_true, Bool.true_and, Bool.or_true, Bool.true_or, Bool.or_false, Bool.false_or, Bool.not_false, Bool.not_true, ↓reduceIte, Nat.reduceBEq, Nat.reduceEqDiff, beq_self_eq_true, true_and, and_true, eq_self_iff_true, Nat.reduceAdd, Nat.blt, Nat.ble, z_le, z_lt, z_eq, z_cl, z_add, z_sub, z_mul, z_in, z_lt0, z_ofN, z_m1, z_ltm1, z_m1lt, z_eqm1, z_m1eq, z_m1le, z_lem1, z_beq, nI_0_1, nI_m1lt0, nI_0lem1, not_false_eq_true, not_true_eq_false, forall_const, false_implies, true_implies, implies_true, false_and, and_false, mrg, renc, tra, trv, sg, List.map_cons, List.map_nil, Option.map_some, Option.map_none, Option.toList_some, Option.toList_none, List.cons_append, List.nil_append, List.length_cons, List.length_nil, gH, gO, t1]
    refine CAL.dir hto (by omega) (Nat.zero_le _) (Nat.zero_le _) (Nat.le_of_ble_eq_true rfl) (by rw [ggn]; exact Nat.le_of_ble_eq_true rfl) hok rfl ?_
    rintro r _ ⟨gal', gsp, gmd, gop, gom, gwt, gwm, gtn, gon, rfl, hA, hB⟩
    obtain ⟨rfl, rfl, -, hg⟩ := hB σ' cs' k' hres
    obtain ⟨g1, g2⟩ := hg rfl
    have hgo2 := hgo (some (.int (nI 1))) gal' gmd gop gom gwt gwm gtn gon rfl (fun j hj => (g1 j hj).trans (h1 j hj)) (g2 h2)
    clear hgo hA hB
    simp (disch := first | exact rfl | decide | omega) only [u_107_0, u_107_1, u_107_2, u_107_5, u_107_6, u_107_7, u_107_8, u_107_9, u_107_12, u_107_15, u_107_17, u_107_18, u_107_21, u_107_22, u_107_23, u_107_26, u_107_27, u_107_30, u_107_31, u_107_34, u_107_35, u_107_38, u_107_39, u_107_40, u_107_43, u_107_44, u_107_45, u_107_46, u_107_47, u_107_50, u_107_51, u_107_52, u_107_55, u_107_56, u_107_59, u_107_62, u_107_63, u_107_66, u_107_67, wp_stop, lget, lput1, lput2, kil, hget, hset, vget, vset, fget, fgetC, fput, fputC, iget, igetC, jget, jgetC, qget, qgetC, alen, lenC, oI, oJ, oF, oA, oV, oH, oInc, oIld, oJld, oQld, oR, oLen, oIst, oBst, oJst, oQst, ciOf, rcv, oCp, cat1, cond_true, cond_false, Bool.and_self, Bool.and_true, Bool.true_and, Bool.or_true, Bool.true_or, Bool.or_false, Bool.false_or, Bool.not_false, Bool.not_true, ↓reduceIte, Nat.reduceBEq, Nat.reduceEqDiff, beq_self_eq_true, true_and, and_true, eq_self_iff_true, Nat.reduceAdd, Nat.blt, Nat.ble, z_le, z_lt, z_eq, z_cl, z_add, z_sub, z_mul, z_in, z_lt0, z_ofN, z_m1, z_ltm1, z_m1lt, z_eqm1, z_m1eq, z_m1le, z_lem1, z_beq, nI_0_1, nI_m1lt0, nI_0lem1, not_false_eq_true, not_true_eq_false, forall_const, false_implies, true_implies, implies_true, false_and, and_false, mrg, renc, tra, trv, sg, List.map_cons, List.map_nil, Option.map_some, Option.map_none, Option.toList_some, Option.toList_none, List.cons_append, List.nil_append, List.length_cons, List.length_nil, gH, gO]
    exact hgo2
set_option maxRecDepth 100000 in
theorem g_readsBad (d j : Nat) (T : List Nat) (hT : txR gtx T) (hl : T.length ≤ 150) (Gr : Nat → List Nat) (hW : rdW (rdL (0, 0, [], 0, 0, [], Gr, 0) T 0) T.length = some j) :
    aSp (d + 5) 107 [.ref 0] (gH gal gps gst grf gmy gkd glf grt gpr gun gow gem ged gse gsz gtx (nI T.length) gsp gmd gop gom gwt gwm gtn gon gsh gtr gbl gbd gwh gfl gfd gfe) nomv 0 0 (fun r h' => r = some (.int (-10 - nI j)) ∧ gHx gal gps gst grf gtx (nI T.length) h') := by
  refine sp_of (by decide) (Nat.le_of_ble_eq_true rfl) ?_
  generalize hG : ((d + 5, _, nomv, _, _, _) : aG) = G
  have ggd : gD G = d + 5 := by subst hG; rfl
  have ggn : gN G = 21 := by subst hG; rfl
  have ggm : gM G = nomv := by subst hG; rfl
  have ggc : gC G = 0 := by subst hG; rfl
  have ggs : gS G = 0 := by subst hG; rfl
  have hret : ∀ h', gHx gal gps gst grf gtx (nI T.length) h' → RET G (some (.int (-10 - nI j))) h' 0 0 := by
    subst hG
    intro h' q
    exact RET.id ⟨rfl, q⟩ (Nat.le_refl _) (Nat.le_refl _)
  clear hG
  have hI : rdI (0, 0, [], 0, 0, [], Gr, 0) := ⟨Nat.zero_le _, by show 0 < 2 ^ 20; decide, fun w => absurd w (by show ¬ 1 ≤ 0; decide)⟩
  have hgo := l_reads1 gal gps gst grf gmy gkd glf grt gpr gun gow gem ged gse gsz gtx gsh gtr gbl gbd gwh gfl gfd gfe (G := G) T hT hl (by rw [ggd]; omega) ggn ((0, 0, [], 0, 0, [], Gr, 0), T, 0) (rdL (0, 0, [], 0, 0, [], Gr, 0) T 0) (fun i gsp gmd gop gom gwt gwm gtn gon e e2 => by
    rw [hW] at e
    have := Option.some.inj e
    subst this
    exact hret _ (gHx_i gal gps gst grf gmy gkd glf grt gpr gun gow gem ged gse gsz gtx (nI T.length) gsp gmd gop gom gwt gwm gtn gon gsh gtr gbl gbd gwh gfl gfd gfe)) (fun n σF csF iF gsp gmd gop gom gwt gwm gtn gon e1 e2 e3 e4 e5 e6 => by
    exfalso
    rw [e2] at hW
    have : (if σF.ph = 0 ∧ 0 < σF.ord then none else some T.length) = some j := hW
    rw [if_pos ⟨e3, by omega⟩] at this
    simp at this) T.length 0 0 0 T T (0, 0, [], 0, 0, [], Gr, 0) gmd gop gom gwt gwm gtn gon (Nat.le_refl _) rfl (Nat.zero_le _) rfl hI rfl (by omega) rfl rfl rfl (Or.inl rfl)
  clear hret hW
  generalize T.length = len at *
  refine wp_aw (S := fun x => x == 7) (by decide) 200 _ _ _ _ _ _ ?_
  simp (disch := first | exact rfl | decide | omega) only [u_107_0, u_107_1, u_107_2, u_107_5, u_107_6, u_107_7, u_107_8, u_107_9, u_107_12, u_107_15, u_107_17, u_107_18, u_107_21, u_107_22, u_107_23, u_107_26, u_107_27, u_107_30, u_107_31, u_107_34, u_107_35, u_107_38, u_107_39, u_107_40, u_107_43, u_107_44, u_107_45, u_107_46, u_107_47, u_107_50, u_107_51, u_107_52, u_107_55, u_107_56, u_107_59, u_107_62, u_107_63, u_107_66, u_107_67, wp_stop, lget, lput1, lput2, kil, hget, hset, vget, vset, fget, fgetC, fput, fputC, iget, igetC, jget, jgetC, qget, qgetC, alen, lenC, oI, oJ, oF, oA, oV, oH, oInc, oIld, oJld, oQld, oR, oLen, oIst, oBst, oJst, oQst, ciOf, rcv, oCp, cat1, cond_true, cond_false, Bool.and_self, Bool.and_true, Bool.true_and, Bool.or_true, Bool.true_or, Bool.or_false, Bool.false_or, Bool.not_false, Bool.not_true, ↓reduceIte, Nat.reduceBEq, Nat.reduceEqDiff, beq_self_eq_true, true_and, and_true, eq_self_iff_true, Nat.reduceAdd, Nat.blt, Nat.ble, z_le, z_lt, z_eq, z_cl, z_add, z_sub, z_mul, z_in, z_lt0, z_ofN, z_m1, z_ltm1, z_m1lt, z_eqm1, z_m1eq, z_m1le, z_lem1, z_beq, nI_0_1, nI_m1lt0, nI_0lem1, not_false_eq_true, not_true_eq_false, forall_const, false_implies, true_implies, implies_true, false_and, and_false, mrg, renc, tra, trv, sg, List.map_cons, List.map_nil, Option.map_some, Option.map_none, Option.toList_some, Option.toList_none, List.cons_append, List.nil_append, List.length_cons, List.length_nil, eL, mL_107, gH, gO]
  exact hgo
set_option maxRecDepth 100000 in
theorem g_reads (d c : Nat) (hc : c ≤ 4) (hst : gst = nI c) (T : List Nat) (hT : txR gtx T) (hl : T.length ≤ 150) (Gr : Nat → List Nat) (hG0 : ∀ y, y < 9 → paL gal y (Gr y)) (σF : rS) (hQ : rdL (0, 0, [], 0, 0, [], Gr, 0) T 0 = .inr σF) (hF : σF.ph = 0 ∧ 0 < σF.ord) :
    aSp (d + 5) 107 [.ref 0] (gH gal gps gst grf gmy gkd glf grt gpr gun gow gem ged gse gsz gtx (nI T.length) gsp gmd gop gom gwt gwm gtn gon gsh gtr gbl gbd gwh gfl gfd gfe) nomv 0 0 (fun r h' => r = some (.int (nI σF.ord)) ∧ ∃ gps' gal', gHx (upd (upd gal' 442 (nI 8)) 443 (nI 0)) gps' (nI (c1N c)) grf gtx (nI T.length) h' ∧ kpR gps gps' gal c ∧ (∀ j, 441 ≤ j → gal' j = gal j) ∧ ∀ y, y < 9 → paL gal' y (σF.Gr y)) := by
  refine sp_of (by decide) (Nat.le_of_ble_eq_true rfl) ?_
  generalize hG : ((d + 5, _, nomv, _, _, _) : aG) = G
  have ggd : gD G = d + 5 := by subst hG; rfl
  have ggn : gN G = 21 := by subst hG; rfl
  have ggm : gM G = nomv := by subst hG; rfl
  have ggc : gC G = 0 := by subst hG; rfl
  have ggs : gS G = 0 := by subst hG; rfl
  have hret : ∀ gps' gal' h', kpR gps gps' gal c → (∀ j, 441 ≤ j → gal' j = gal j) → (∀ y, y < 9 → paL gal' y (σF.Gr y)) → gHx (upd (upd gal' 442 (nI 8)) 443 (nI 0)) gps' (nI (c1N c)) grf gtx (nI T.length) h' → RET G (some (.int (nI σF.ord))) h' 0 0 := by
    subst hG
    intro gps' gal' h' q1 q2 q3 q4
    exact RET.id ⟨rfl, gps', gal', q4, q1, q2, q3⟩ (Nat.le_refl _) (Nat.le_refl _)
  clear hG
  have hd5 : 5 ≤ gD G := by rw [ggd]; omega
  have hI : rdI (0, 0, [], 0, 0, [], Gr, 0) := ⟨Nat.zero_le _, by show 0 < 2 ^ 20; decide, fun w => absurd w (by show ¬ 1 ≤ 0; decide)⟩
  have hgo := l_reads1 gal gps gst grf gmy gkd glf grt gpr gun gow gem ged gse gsz gtx gsh gtr gbl gbd gwh gfl gfd gfe (G := G) T hT hl hd5 ggn ((0, 0, [], 0, 0, [], Gr, 0), T, 0) (rdL (0, 0, [], 0, 0, [], Gr, 0) T 0) (fun i gsp gmd gop gom gwt gwm gtn gon e e2 => by
    exfalso
    rw [hQ] at e
    have : (if σF.ph = 0 ∧ 0 < σF.ord then none else some T.length) = some i := e
    rw [if_pos hF] at this
    simp at this) (fun n τ csF iF gsp gmd gop gom gwt gwm gtn gon e1 e2 e3 e4 e5 e6 => by
    rw [hQ] at e2
    have := Sum.inr.inj e2
    subst this
    have hk := g_keep gal gps gst grf gmy gkd glf grt gpr gun gow gem ged gse gsz gtx (nI T.length) gsp gmd gop gom gwt gwm gtn gon gsh gtr gbl gbd gwh gfl gfd gfe 0 c hc hst
    have hfin := fun gps' (q : kpR gps gps' gal c) => l_reads2 gps' (nI (c1N c)) grf gmy gkd glf grt gpr gun gow gem ged gse gsz gtx gsh gtr gbl gbd gwh gfl gfd gfe (G := G) T hT hl hd5 ggn ((0, 0, [], 0, 0, [], Gr, 0), T, 0) n e6 σF csF iF e1 gal (fun gal' h' w1 w2 w3 => by rw [← e4]; exact hret gps' gal' h' q w1 w2 w3) n 0 0 T (0, 0, [], 0, 0, [], Gr, 0) none gal gmd gop gom gwt gwm gtn gon (by omega) rfl (Nat.zero_le _) rfl hI (by show 0 + T.length ≤ 150; omega) rfl rfl (fun j _ => rfl) hG0
    clear hret
    refine wp_aw (S := fun x => x == 45) (by decide) 200 _ _ _ _ _ _ ?_
    simp (disch := first | exact rfl | decide | omega) only [u_107_0, u_107_1, u_107_2, u_107_5, u_107_6, u_107_7, u_107_8, u_107_9, u_107_12, u_107_15, u_107_17, u_107_18, u_107_21, u_107_22, u_107_23, u_107_26, u_107_27, u_107_30, u_107_31, u_107_34, u_107_35, u_107_38, u_107_39, u_107_40, u_107_43, u_107_44, u_107_45, u_107_46, u_107_47, u_107_50, u_107_51, u_107_52, u_107_55, u_107_56, u_107_59, u_107_62, u_107_63, u_107_66, u_107_67, wp_stop, lget, lput1, lput2, kil, hget, hset, vget, vset, fget, fgetC, fput, fputC, iget, igetC, jget, jgetC, qget, qgetC, alen, lenC, oI, oJ, oF, oA, oV, oH, oInc, oIld, oJld, oQld, oR, oLen, oIst, oBst, oJst, oQst, ciOf, rcv, oCp, cat1, cond_true, cond_false, Bool.and_self, Bool.and_true, Bool.true_and, Bool.or_true, Bool.true_or, Bool.or_false, Bool.false_or, Bool.not_false, Bool.not_true, ↓reduceIte, Nat.reduceBEq, Nat.reduceEqDiff, beq_self_eq_true, true_and, and_true, eq_self_iff_true, Nat.reduceAdd, Nat.blt, Nat.ble, z_le, z_lt, z_eq, z_cl, z_add, z_sub, z_mul, z_in, z_lt0, z_ofN, z_m1, z_ltm1, z_m1lt, z_eqm1, z_m1eq, z_m1le, z_lem1, z_beq, nI_0_1, nI_m1lt0, nI_0lem1, not_false_eq_true, not_true_eq_false, forall_const, false_implies, true_implies, implies_true, false_and, and_false, mrg, renc, tra, trv, sg, List.map_cons, List.map_nil, Option.map_some, Option.map_none, Option.toList_some, Option.toList_none, List.cons_append, List.nil_append, List.length_cons, List.length_nil, gH, gO]
    refine CAL.dir hk (by omega) (Nat.zero_le _) (Nat.zero_le _) (Nat.le_of_ble_eq_true rfl) (by rw [ggn]; exact Nat.le_of_ble_eq_true rfl) rfl rfl ?_
    rintro _ _ ⟨rfl, gps', rfl, hq⟩
    have hg := hfin gps' hq
    clear hfin
    simp (disch := first | exact rfl | decide | omega) only [u_107_0, u_107_1, u_107_2, u_107_5, u_107_6, u_107_7, u_107_8, u_107_9, u_107_12, u_107_15, u_107_17, u_107_18, u_107_21, u_107_22, u_107_23, u_107_26, u_107_27, u_107_30, u_107_31, u_107_34, u_107_35, u_107_38, u_107_39, u_107_40, u_107_43, u_107_44, u_107_45, u_107_46, u_107_47, u_107_50, u_107_51, u_107_52, u_107_55, u_107_56, u_107_59, u_107_62, u_107_63, u_107_66, u_107_67, wp_stop, lget, lput1, lput2, kil, hget, hset, vget, vset, fget, fgetC, fput, fputC, iget, igetC, jget, jgetC, qget, qgetC, alen, lenC, oI, oJ, oF, oA, oV, oH, oInc, oIld, oJld, oQld, oR, oLen, oIst, oBst, oJst, oQst, ciOf, rcv, oCp, cat1, cond_true, cond_false, Bool.and_self, Bool.and_true, Bool.true_and, Bool.or_true, Bool.true_or, Bool.or_false, Bool.false_or, Bool.not_false, Bool.not_true, ↓reduceIte, Nat.reduceBEq, Nat.reduceEqDiff, beq_self_eq_true, true_and, and_true, eq_self_iff_true, Nat.reduceAdd, Nat.blt, Nat.ble, z_le, z_lt, z_eq, z_cl, z_add, z_sub, z_mul, z_in, z_lt0, z_ofN, z_m1, z_ltm1, z_m1lt, z_eqm1, z_m1eq, z_m1le, z_lem1, z_beq, nI_0_1, nI_m1lt0, nI_0lem1, not_false_eq_true, not_true_eq_false, forall_const, false_implies, true_implies, implies_true, false_and, and_false, mrg, renc, tra, trv, sg, List.map_cons, List.map_nil, Option.map_some, Option.map_none, Option.toList_some, Option.toList_none, List.cons_append, List.nil_append, List.length_cons, List.length_nil, gH, gO]
    exact hg) T.length 0 0 0 T T (0, 0, [], 0, 0, [], Gr, 0) gmd gop gom gwt gwm gtn gon (Nat.le_refl _) rfl (Nat.zero_le _) rfl hI rfl (by omega) rfl rfl rfl (Or.inl rfl)
  clear hret hQ
  generalize T.length = len at *
  refine wp_aw (S := fun x => x == 7) (by decide) 200 _ _ _ _ _ _ ?_
  simp (disch := first | exact rfl | decide | omega) only [u_107_0, u_107_1, u_107_2, u_107_5, u_107_6, u_107_7, u_107_8, u_107_9, u_107_12, u_107_15, u_107_17, u_107_18, u_107_21, u_107_22, u_107_23, u_107_26, u_107_27, u_107_30, u_107_31, u_107_34, u_107_35, u_107_38, u_107_39, u_107_40, u_107_43, u_107_44, u_107_45, u_107_46, u_107_47, u_107_50, u_107_51, u_107_52, u_107_55, u_107_56, u_107_59, u_107_62, u_107_63, u_107_66, u_107_67, wp_stop, lget, lput1, lput2, kil, hget, hset, vget, vset, fget, fgetC, fput, fputC, iget, igetC, jget, jgetC, qget, qgetC, alen, lenC, oI, oJ, oF, oA, oV, oH, oInc, oIld, oJld, oQld, oR, oLen, oIst, oBst, oJst, oQst, ciOf, rcv, oCp, cat1, cond_true, cond_false, Bool.and_self, Bool.and_true, Bool.true_and, Bool.or_true, Bool.true_or, Bool.or_false, Bool.false_or, Bool.not_false, Bool.not_true, ↓reduceIte, Nat.reduceBEq, Nat.reduceEqDiff, beq_self_eq_true, true_and, and_true, eq_self_iff_true, Nat.reduceAdd, Nat.blt, Nat.ble, z_le, z_lt, z_eq, z_cl, z_add, z_sub, z_mul, z_in, z_lt0, z_ofN, z_m1, z_ltm1, z_m1lt, z_eqm1, z_m1eq, z_m1le, z_lem1, z_beq, nI_0_1, nI_m1lt0, nI_0lem1, not_false_eq_true, not_true_eq_false, forall_const, false_implies, true_implies, implies_true, false_and, and_false, mrg, renc, tra, trv, sg, List.map_cons, List.map_nil, Option.map_some, Option.map_none, Option.toList_some, Option.toList_none, List.cons_append, List.nil_append, List.length_cons, List.length_nil, eL, mL_107, gH, gO]
  exact hgo
end GM
