/-! ResidualJudgeModel.goes -/
theorem mk_so {k x : Nat} (h2 : k ≤ 15) (hx : x < 8) : mkK k = x + 1 ↔ k = x + 1 := by
  unfold mkK
  split
  · exact Iff.rfl
  · split
    · omega
    · split
      · omega
      · split <;> omega
/-- what a set leads to by a sort -/
def goX (K lf : Nat → Nat) (n x S i X : Nat) : Prop := ∃ j, j < i ∧ j < n ∧ K j = x + 1 ∧ tgX K lf n S j X
section GM
variable (gal : Nat → Int32) (gps : Nat → Int32) (gst : Int32) (grf : Nat → Int32) (gmy : Int32) (gkd : Nat → Int32) (glf : Nat → Int32) (grt : Nat → Int32) (gpr : Nat → Int32) (gun : Nat → Int32) (gow : Nat → Int32) (gem : Nat → Int32) (ged : Nat → Int32) (gse : Nat → Int32) (gsz : Nat → Int32) (gtx : Nat → Int32) (gtl : Int32) (gsp : Int32) (gmd : Nat → Int32) (gop : Nat → Int32) (gom : Int32) (gwt : Nat → Int32) (gwm : Int32) (gtn : Int32) (gon : Int32) (gsh : Nat → Int32) (gtr : Nat → Int32) (gbl : Int32) (gbd : Int32) (gwh : Nat → Int32) (gfl : Int32) (gfd : Int32) (gfe : Int32)
set_option maxRecDepth 100000 in
set_option maxHeartbeats 8000000 in
theorem l_goI {G : aG} (gse0 gsz0 : Nat → Int32) (n S a e x k : Nat) (a6 : Int32) (K lf : Nat → Nat) (hw : wfP K lf n) (hL : pLd K lf n gmy gkd glf grt gpr gun gow gem) (hE : ∀ j, j < n → ged j = bN (enM K lf S j)) (hS : S < 256) (hSu : S &&& unM K lf (n - 1) = S) (he : e < 21) (hx : x < 8) (hd : 2 ≤ gD G) (ggn : gN G = 21) (L0 : List Nat)
    (hk256 : k < 256)
    (hnext : ∀ gse gsz L, rpS gse gsz e L → (∀ X, X ∈ L ↔ X ∈ L0 ∨ goX K lf n x S n X) → frE gse0 gsz0 gse gsz e → AW 128 G 10 [some (.ref 0), some (.int (nI a)), some (.int (nI x)), some (.int (nI e)), some (.int (nI (k + 1))), some (.int (nI S)), some (.int a6), some (.int (nI n))] [] (gH gal gps gst grf gmy gkd glf grt gpr gun gow gem ged gse gsz gtx gtl gsp gmd gop gom gwt gwm gtn gon gsh gtr gbl gbd gwh gfl gfd gfe) 0 0) :
    ∀ (m i : Nat) (gse gsz : Nat → Int32) (L : List Nat), i + m = n → rpS gse gsz e L → (∀ X, X ∈ L ↔ X ∈ L0 ∨ goX K lf n x S i X) → frE gse0 gsz0 gse gsz e →
    AW 128 G 47 [some (.ref 0), some (.int (nI a)), some (.int (nI x)), some (.int (nI e)), some (.int (nI k)), some (.int (nI S)), some (.int a6), some (.int (nI i))] [] (gH gal gps gst grf gmy gkd glf grt gpr gun gow gem ged gse gsz gtx gtl gsp gmd gop gom gwt gwm gtn gon gsh gtr gbl gbd gwh gfl gfd gfe) 0 0 := by
  have hL' := hL
  obtain ⟨hmy, hN, hP⟩ := hL'
  have h16 := hw.2.1
  intro m
  induction m with
  | zero =>
    intro i gse gsz L hm hR hX hF
    have e0 : i = n := by omega
    subst e0
    have hgo := hnext gse gsz L hR hX hF
    clear hnext
    have t1 : i ≤ i := Nat.le_refl _
    refine wq_aw (S := fun x => x == 10 || x == 47) (by decide) (f := 200) ?_
    simp (disch := first | exact rfl | decide | omega) only [v_128_10, v_128_47, u_128_0, u_128_1, u_128_4, u_128_5, u_128_6, u_128_7, u_128_8, u_128_10, u_128_12, u_128_13, u_128_16, u_128_17, u_128_18, u_128_21, u_128_22, u_128_25, u_128_28, u_128_29, u_128_30, u_128_32, u_128_33, u_128_34, u_128_36, u_128_37, u_128_39, u_128_42, u_128_44, u_128_45, u_128_47, u_128_49, u_128_50, u_128_53, u_128_56, u_128_57, u_128_60, u_128_62, u_128_63, u_128_64, u_128_65, u_128_66, u_128_69, u_128_70, u_128_72, u_128_74, u_128_75, u_128_78, u_128_81, u_128_84, u_128_87, u_128_90, u_128_91, u_128_94, u_128_95, u_128_96, u_128_99, u_128_100, u_128_103, u_128_104, wp_stop, lget, lput1, lput2, kil, hget, hset, vget, vset, fget, fgetC, fput, fputC, iget, igetC, jget, jgetC, qget, qgetC, alen, lenC, oI, oJ, oF, oA, oV, oH, oInc, oIld, oJld, oQld, oR, oLen, oIst, oBst, oJst, oQst, ciOf, rcv, oCp, cat1, cond_true, cond_false, Bool.and_self, Bool.and_true, Bool.true_and, Bool.or_true, Bool.true_or, Bool.or_false, Bool.false_or, Bool.not_false, Bool.not_true, ↓reduceIte, Nat.reduceBEq, Nat.reduceEqDiff, beq_self_eq_true, true_and, and_true, eq_self_iff_true, Nat.reduceAdd, Nat.blt, Nat.ble, z_le, z_lt, z_eq, z_cl, z_add, z_sub, z_mul, z_in, z_lt0, z_ofN, z_m1, z_ltm1, z_m1lt, z_eqm1, z_m1eq, z_m1le, z_lem1, z_beq, nI_0_1, nI_m1lt0, nI_0lem1, not_false_eq_true, not_true_eq_false, forall_const, false_implies, true_implies, implies_true, false_and, and_false, mrg, renc, tra, trv, sg, List.map_cons, List.map_nil, Option.map_some, Option.map_none, Option.toList_some, Option.toList_none, List.cons_append, List.nil_append, List.length_cons, List.length_nil, gH, gO, hmy, t1]
    rw [hmy] at hgo
    exact hgo
  | succ m ih =>
    intro i gse gsz L hm hR hX hF
    have hi : i < n := by omega
    have t1 : ¬ n ≤ i := by omega
    have hi16 : i < 16 := by omega
    obtain ⟨p1, -⟩ := hN i hi
    have hk15 := (hw.2.2.1 i hi).2.1
    have hml := mk_le hk15
    have hgo := fun gse gsz L q1 q2 q3 => ih (i + 1) gse gsz L (by omega) q1 q2 q3
    clear ih hnext
    by_cases q : K i = x + 1
    · have m1 := (mk_so hk15 hx).mpr q
      have hrl := g_readsLetter gal gps gst grf gmy gkd glf grt gpr gun gow gem ged gse gsz gtx gtl gsp gmd gop gom gwt gwm gtn gon gsh gtr gbl gbd gwh gfl gfd gfe 0 n S i e K lf hw hL hE hS hSu hi (by omega) he L hR
      have p1' : gkd i = nI (x + 1) := by rw [p1, m1]
      refine wq_aw (S := fun x => x == 10 || x == 47) (by decide) (f := 200) ?_
      simp (disch := first | exact rfl | decide | omega) only [v_128_10, v_128_47, u_128_0, u_128_1, u_128_4, u_128_5, u_128_6, u_128_7, u_128_8, u_128_10, u_128_12, u_128_13, u_128_16, u_128_17, u_128_18, u_128_21, u_128_22, u_128_25, u_128_28, u_128_29, u_128_30, u_128_32, u_128_33, u_128_34, u_128_36, u_128_37, u_128_39, u_128_42, u_128_44, u_128_45, u_128_47, u_128_49, u_128_50, u_128_53, u_128_56, u_128_57, u_128_60, u_128_62, u_128_63, u_128_64, u_128_65, u_128_66, u_128_69, u_128_70, u_128_72, u_128_74, u_128_75, u_128_78, u_128_81, u_128_84, u_128_87, u_128_90, u_128_91, u_128_94, u_128_95, u_128_96, u_128_99, u_128_100, u_128_103, u_128_104, wp_stop, lget, lput1, lput2, kil, hget, hset, vget, vset, fget, fgetC, fput, fputC, iget, igetC, jget, jgetC, qget, qgetC, alen, lenC, oI, oJ, oF, oA, oV, oH, oInc, oIld, oJld, oQld, oR, oLen, oIst, oBst, oJst, oQst, ciOf, rcv, oCp, cat1, cond_true, cond_false, Bool.and_self, Bool.and_true, Bool.true_and, Bool.or_true, Bool.true_or, Bool.or_false, Bool.false_or, Bool.not_false, Bool.not_true, ↓reduceIte, Nat.reduceBEq, Nat.reduceEqDiff, beq_self_eq_true, true_and, and_true, eq_self_iff_true, Nat.reduceAdd, Nat.blt, Nat.ble, z_le, z_lt, z_eq, z_cl, z_add, z_sub, z_mul, z_in, z_lt0, z_ofN, z_m1, z_ltm1, z_m1lt, z_eqm1, z_m1eq, z_m1le, z_lem1, z_beq, nI_0_1, nI_m1lt0, nI_0lem1, not_false_eq_true, not_true_eq_false, forall_const, false_implies, true_implies, implies_true, false_and, and_false, mrg, renc, tra, trv, sg, List.map_cons, List.map_nil, Option.map_some, Option.map_none, Option.toList_some, Option.toList_none, List.cons_append, List.nil_append, List.length_cons, List.length_nil, gH, gO, hmy, t1, p1']
      rw [hmy] at hrl
      refine CAL.dir hrl (by omega) (Nat.zero_le _) (Nat.zero_le _) (Nat.le_of_ble_eq_true rfl) (by rw [ggn]; exact Nat.le_of_ble_eq_true rfl) rfl rfl ?_
      rintro _ _ ⟨rfl, gse', gsz', L', rfl, q1, q2, q3⟩
      have hgo2 := hgo gse' gsz' L' q1 (fun X => by
        rw [q2 X, hX X]
        constructor
        · rintro ((w | ⟨j, j1, j2, j3, j4⟩) | w)
          · exact Or.inl w
          · exact Or.inr ⟨j, by omega, j2, j3, j4⟩
          · exact Or.inr ⟨i, by omega, hi, q, w⟩
        · rintro (w | ⟨j, j1, j2, j3, j4⟩)
          · exact Or.inl (Or.inl w)
          · by_cases ej : j = i
            · subst ej
              exact Or.inr j4
            · exact Or.inl (Or.inr ⟨j, by omega, j2, j3, j4⟩)) (frE_tr hF q3)
      clear hgo
      rw [hmy] at hgo2
      simp (disch := first | exact rfl | decide | omega) only [u_128_0, u_128_1, u_128_4, u_128_5, u_128_6, u_128_7, u_128_8, u_128_10, u_128_12, u_128_13, u_128_16, u_128_17, u_128_18, u_128_21, u_128_22, u_128_25, u_128_28, u_128_29, u_128_30, u_128_32, u_128_33, u_128_34, u_128_36, u_128_37, u_128_39, u_128_42, u_128_44, u_128_45, u_128_47, u_128_49, u_128_50, u_128_53, u_128_56, u_128_57, u_128_60, u_128_62, u_128_63, u_128_64, u_128_65, u_128_66, u_128_69, u_128_70, u_128_72, u_128_74, u_128_75, u_128_78, u_128_81, u_128_84, u_128_87, u_128_90, u_128_91, u_128_94, u_128_95, u_128_96, u_128_99, u_128_100, u_128_103, u_128_104, wp_stop, lget, lput1, lput2, kil, hget, hset, vget, vset, fget, fgetC, fput, fputC, iget, igetC, jget, jgetC, qget, qgetC, alen, lenC, oI, oJ, oF, oA, oV, oH, oInc, oIld, oJld, oQld, oR, oLen, oIst, oBst, oJst, oQst, ciOf, rcv, oCp, cat1, cond_true, cond_false, Bool.and_self, Bool.and_true, Bool.true_and, Bool.or_true, Bool.true_or, Bool.or_false, Bool.false_or, Bool.not_false, Bool.not_true, ↓reduceIte, Nat.reduceBEq, Nat.reduceEqDiff, beq_self_eq_true, true_and, and_true, eq_self_iff_true, Nat.reduceAdd, Nat.blt, Nat.ble, z_le, z_lt, z_eq, z_cl, z_add, z_sub, z_mul, z_in, z_lt0, z_ofN, z_m1, z_ltm1, z_m1lt, z_eqm1, z_m1eq, z_m1le, z_lem1, z_beq, nI_0_1, nI_m1lt0, nI_0lem1, not_false_eq_true, not_true_eq_false, forall_const, false_implies, true_implies, implies_true, false_and, and_false, mrg, renc, tra, trv, sg, List.map_cons, List.map_nil, Option.map_some, Option.map_none, Option.toList_some, Option.toList_none, List.cons_append, List.nil_append, List.length_cons, List.length_nil, gH, gO]
      exact hgo2
    · have m1 : ¬ mkK (K i) = x + 1 := fun w => q ((mk_so hk15 hx).mp w)
      have hgo2 := hgo gse gsz L hR (fun X => by
        rw [hX X]
        constructor
        · rintro (w | ⟨j, j1, j2, j3, j4⟩)
          · exact Or.inl w
          · exact Or.inr ⟨j, by omega, j2, j3, j4⟩
        · rintro (w | ⟨j, j1, j2, j3, j4⟩)
          · exact Or.inl w
          · by_cases ej : j = i
            · subst ej
              exact absurd j3 q
            · exact Or.inr ⟨j, by omega, j2, j3, j4⟩) hF
      clear hgo
      generalize mkK (K i) = kk at *
      rw [hmy] at hgo2
      refine wq_aw (S := fun x => x == 10 || x == 47) (by decide) (f := 200) ?_
      simp (disch := first | exact rfl | decide | omega) only [v_128_10, v_128_47, u_128_0, u_128_1, u_128_4, u_128_5, u_128_6, u_128_7, u_128_8, u_128_10, u_128_12, u_128_13, u_128_16, u_128_17, u_128_18, u_128_21, u_128_22, u_128_25, u_128_28, u_128_29, u_128_30, u_128_32, u_128_33, u_128_34, u_128_36, u_128_37, u_128_39, u_128_42, u_128_44, u_128_45, u_128_47, u_128_49, u_128_50, u_128_53, u_128_56, u_128_57, u_128_60, u_128_62, u_128_63, u_128_64, u_128_65, u_128_66, u_128_69, u_128_70, u_128_72, u_128_74, u_128_75, u_128_78, u_128_81, u_128_84, u_128_87, u_128_90, u_128_91, u_128_94, u_128_95, u_128_96, u_128_99, u_128_100, u_128_103, u_128_104, wp_stop, lget, lput1, lput2, kil, hget, hset, vget, vset, fget, fgetC, fput, fputC, iget, igetC, jget, jgetC, qget, qgetC, alen, lenC, oI, oJ, oF, oA, oV, oH, oInc, oIld, oJld, oQld, oR, oLen, oIst, oBst, oJst, oQst, ciOf, rcv, oCp, cat1, cond_true, cond_false, Bool.and_self, Bool.and_true, Bool.true_and, Bool.or_true, Bool.true_or, Bool.or_false, Bool.false_or, Bool.not_false, Bool.not_true, ↓reduceIte, Nat.reduceBEq, Nat.reduceEqDiff, beq_self_eq_true, true_and, and_true, eq_self_iff_true, Nat.reduceAdd, Nat.blt, Nat.ble, z_le, z_lt, z_eq, z_cl, z_add, z_sub, z_mul, z_in, z_lt0, z_ofN, z_m1, z_ltm1, z_m1lt, z_eqm1, z_m1eq, z_m1le, z_lem1, z_beq, nI_0_1, nI_m1lt0, nI_0lem1, not_false_eq_true, not_true_eq_false, forall_const, false_implies, true_implies, implies_true, false_and, and_false, mrg, renc, tra, trv, sg, List.map_cons, List.map_nil, Option.map_some, Option.map_none, Option.toList_some, Option.toList_none, List.cons_append, List.nil_append, List.length_cons, List.length_nil, gH, gO, hmy, t1, p1, m1]
      exact hgo2
set_option maxRecDepth 100000 in
set_option maxHeartbeats 8000000 in
theorem l_goO {G : aG} (gse0 gsz0 : Nat → Int32) (n a e x : Nat) (K lf : Nat → Nat) (hw : wfP K lf n) (hL : pLd K lf n gmy gkd glf grt gpr gun gow gem) (ha : a < 21) (he : e < 21) (hae : a ≠ e) (hx : x < 8) (hd : 2 ≤ gD G) (ggn : gN G = 21) (La : List Nat) (hA : rpS gse0 gsz0 a La) (hAu : ∀ S ∈ La, S &&& unM K lf (n - 1) = S)
    (hret : ∀ ged gse gsz L, rpS gse gsz e L → (∀ X, X ∈ L ↔ ∃ S ∈ La, goX K lf n x S n X) → frE gse0 gsz0 gse gsz e → RET G (some (.int (bN (!L.isEmpty)))) (gH gal gps gst grf gmy gkd glf grt gpr gun gow gem ged gse gsz gtx gtl gsp gmd gop gom gwt gwm gtn gon gsh gtr gbl gbd gwh gfl gfd gfe) 0 0) :
    ∀ (m k : Nat) (l5 l6 l7 : Option Value) (ged gse gsz : Nat → Int32) (L : List Nat), k + m = La.length → rpS gse gsz e L → (∀ X, X ∈ L ↔ ∃ S ∈ La.take k, goX K lf n x S n X) → frE gse0 gsz0 gse gsz e → okL 21 nomv [l6, l7] = true →
    AW 128 G 10 [some (.ref 0), some (.int (nI a)), some (.int (nI x)), some (.int (nI e)), some (.int (nI k)), l5, l6, l7] [] (gH gal gps gst grf gmy gkd glf grt gpr gun gow gem ged gse gsz gtx gtl gsp gmd gop gom gwt gwm gtn gon gsh gtr gbl gbd gwh gfl gfd gfe) 0 0 := by
  have hL' := hL
  obtain ⟨hmy, hN, hP⟩ := hL'
  have h16 := hw.2.1
  have hlA := rpS_len hA
  intro m
  induction m with
  | zero =>
    intro k l5 l6 l7 ged gse gsz L hm hR hX hF hok
    have hk : k = La.length := by omega
    have r1 := (rpS_fr hA hF hae).1
    have r2 := hR.1
    have hl := rpS_len hR
    have hf := hret ged gse gsz L hR (fun X => by rw [hX X, hk, List.take_length]) hF
    clear hret
    have t1 : La.length ≤ La.length := Nat.le_refl _
    subst hk
    generalize La.length = len at *
    cases L with
    | nil =>
      have r2' : gsz e = nI 0 := r2
      have t2 : (0 : Nat) ≤ 0 := Nat.le_refl _
      have hf2 : RET G (some (.int (nI 0))) (gH gal gps gst grf gmy gkd glf grt gpr gun gow gem ged gse gsz gtx gtl gsp gmd gop gom gwt gwm gtn gon gsh gtr gbl gbd gwh gfl gfd gfe) 0 0 := hf
      refine wq_aw (S := fun x => x == 10) (by decide) (f := 200) ?_
      simp (disch := first | exact rfl | decide | omega) only [v_128_10, v_128_47, u_128_0, u_128_1, u_128_4, u_128_5, u_128_6, u_128_7, u_128_8, u_128_10, u_128_12, u_128_13, u_128_16, u_128_17, u_128_18, u_128_21, u_128_22, u_128_25, u_128_28, u_128_29, u_128_30, u_128_32, u_128_33, u_128_34, u_128_36, u_128_37, u_128_39, u_128_42, u_128_44, u_128_45, u_128_47, u_128_49, u_128_50, u_128_53, u_128_56, u_128_57, u_128_60, u_128_62, u_128_63, u_128_64, u_128_65, u_128_66, u_128_69, u_128_70, u_128_72, u_128_74, u_128_75, u_128_78, u_128_81, u_128_84, u_128_87, u_128_90, u_128_91, u_128_94, u_128_95, u_128_96, u_128_99, u_128_100, u_128_103, u_128_104, wp_stop, lget, lput1, lput2, kil, hget, hset, vget, vset, fget, fgetC, fput, fputC, iget, igetC, jget, jgetC, qget, qgetC, alen, lenC, oI, oJ, oF, oA, oV, oH, oInc, oIld, oJld, oQld, oR, oLen, oIst, oBst, oJst, oQst, ciOf, rcv, oCp, cat1, cond_true, cond_false, Bool.and_self, Bool.and_true, Bool.true_and, Bool.or_true, Bool.true_or, Bool.or_false, Bool.false_or, Bool.not_false, Bool.not_true, ↓reduceIte, Nat.reduceBEq, Nat.reduceEqDiff, beq_self_eq_true, true_and, and_true, eq_self_iff_true, Nat.reduceAdd, Nat.blt, Nat.ble, z_le, z_lt, z_eq, z_cl, z_add, z_sub, z_mul, z_in, z_lt0, z_ofN, z_m1, z_ltm1, z_m1lt, z_eqm1, z_m1eq, z_m1le, z_lem1, z_beq, nI_0_1, nI_m1lt0, nI_0lem1, not_false_eq_true, not_true_eq_false, forall_const, false_implies, true_implies, implies_true, false_and, and_false, mrg, renc, tra, trv, sg, List.map_cons, List.map_nil, Option.map_some, Option.map_none, Option.toList_some, Option.toList_none, List.cons_append, List.nil_append, List.length_cons, List.length_nil, gH, gO, r1, t1, r2', t2]
      exact hf2
    | cons y L =>
      have hf2 : RET G (some (.int (nI 1))) (gH gal gps gst grf gmy gkd glf grt gpr gun gow gem ged gse gsz gtx gtl gsp gmd gop gom gwt gwm gtn gon gsh gtr gbl gbd gwh gfl gfd gfe) 0 0 := hf
      have t2 : ¬ (y :: L).length ≤ 0 := by rw [List.length_cons]; omega
      generalize (y :: L).length = len2 at *
      refine wq_aw (S := fun x => x == 10) (by decide) (f := 200) ?_
      simp (disch := first | exact rfl | decide | omega) only [v_128_10, v_128_47, u_128_0, u_128_1, u_128_4, u_128_5, u_128_6, u_128_7, u_128_8, u_128_10, u_128_12, u_128_13, u_128_16, u_128_17, u_128_18, u_128_21, u_128_22, u_128_25, u_128_28, u_128_29, u_128_30, u_128_32, u_128_33, u_128_34, u_128_36, u_128_37, u_128_39, u_128_42, u_128_44, u_128_45, u_128_47, u_128_49, u_128_50, u_128_53, u_128_56, u_128_57, u_128_60, u_128_62, u_128_63, u_128_64, u_128_65, u_128_66, u_128_69, u_128_70, u_128_72, u_128_74, u_128_75, u_128_78, u_128_81, u_128_84, u_128_87, u_128_90, u_128_91, u_128_94, u_128_95, u_128_96, u_128_99, u_128_100, u_128_103, u_128_104, wp_stop, lget, lput1, lput2, kil, hget, hset, vget, vset, fget, fgetC, fput, fputC, iget, igetC, jget, jgetC, qget, qgetC, alen, lenC, oI, oJ, oF, oA, oV, oH, oInc, oIld, oJld, oQld, oR, oLen, oIst, oBst, oJst, oQst, ciOf, rcv, oCp, cat1, cond_true, cond_false, Bool.and_self, Bool.and_true, Bool.true_and, Bool.or_true, Bool.true_or, Bool.or_false, Bool.false_or, Bool.not_false, Bool.not_true, ↓reduceIte, Nat.reduceBEq, Nat.reduceEqDiff, beq_self_eq_true, true_and, and_true, eq_self_iff_true, Nat.reduceAdd, Nat.blt, Nat.ble, z_le, z_lt, z_eq, z_cl, z_add, z_sub, z_mul, z_in, z_lt0, z_ofN, z_m1, z_ltm1, z_m1lt, z_eqm1, z_m1eq, z_m1le, z_lem1, z_beq, nI_0_1, nI_m1lt0, nI_0lem1, not_false_eq_true, not_true_eq_false, forall_const, false_implies, true_implies, implies_true, false_and, and_false, mrg, renc, tra, trv, sg, List.map_cons, List.map_nil, Option.map_some, Option.map_none, Option.toList_some, Option.toList_none, List.cons_append, List.nil_append, List.length_cons, List.length_nil, gH, gO, r1, t1, r2, t2]
      exact hf2
  | succ m ih =>
    intro k l5 l6 l7 ged gse gsz L hm hR hX hF hok
    have hk : k < La.length := by omega
    have hA2 := rpS_fr hA hF hae
    have r1 := hA2.1
    have hg := hA2.2.2.2 k _ (List.getElem?_eq_getElem hk)
    have hSl := hA2.2.2.1 _ (List.getElem_mem hk)
    have hSu := hAu _ (List.getElem_mem hk)
    have htk : La.take (k + 1) = La.take k ++ [La[k]] := by rw [List.take_succ_eq_append_getElem hk]
    have hgo := fun l5 l6 l7 ged gse gsz L q1 q2 q3 q4 => ih (k + 1) l5 l6 l7 ged gse gsz L (by omega) q1 q2 q3 q4
    clear ih hret
    have t1 : ¬ La.length ≤ k := by omega
    generalize hSe : La[k] = S at *
    have hen := g_ends gal gps gst grf gmy gkd glf grt gpr gun gow gem ged gse gsz gtx gtl gsp gmd gop gom gwt gwm gtn gon gsh gtr gbl gbd gwh gfl gfd gfe 0 n S K lf hw hL
    have hko : okL 21 nomv [some (.ref 0), some (.int (nI a)), some (.int (nI x)), some (.int (nI e)), some (.int (nI k)), some (.int (nI S)), l6, l7] = true := by exact hok
    have hin := fun ged hE => l_goI gal gps gst grf gmy gkd glf grt gpr gun gow gem ged gtx gtl gsp gmd gop gom gwt gwm gtn gon gsh gtr gbl gbd gwh gfl gfd gfe gse0 gsz0 n S a e x k (bN (enM K lf S (n - 1))) K lf hw hL hE hSl hSu he hx hd ggn L (by omega) (fun gse gsz L2 q1 q2 q3 => hgo _ _ _ ged gse gsz L2 q1 (fun X => by
      rw [q2 X, hX X, htk]
      constructor
      · rintro (⟨T, w1, w2⟩ | w)
        · exact ⟨T, List.mem_append.mpr (Or.inl w1), w2⟩
        · exact ⟨S, List.mem_append.mpr (Or.inr (List.mem_singleton.mpr rfl)), w⟩
      · rintro ⟨T, w1, w2⟩
        rcases List.mem_append.mp w1 with w1 | w1
        · exact Or.inl ⟨T, w1, w2⟩
        · rw [List.mem_singleton] at w1
          rw [w1] at w2
          exact Or.inr w2) q3 rfl) n 0 gse gsz L (by omega) hR (fun X => ⟨Or.inl, fun w => w.elim id (fun ⟨j, j1, _⟩ => absurd j1 (Nat.not_lt_zero j))⟩) hF
    clear hgo
    have hal : k < 256 := by omega
    clear htk
    clear hSe
    generalize La.length = len at *
    refine wq_aw (S := fun x => x == 10 || x == 47) (by decide) (f := 200) ?_
    simp (disch := first | exact rfl | decide | omega) only [v_128_10, v_128_47, u_128_0, u_128_1, u_128_4, u_128_5, u_128_6, u_128_7, u_128_8, u_128_10, u_128_12, u_128_13, u_128_16, u_128_17, u_128_18, u_128_21, u_128_22, u_128_25, u_128_28, u_128_29, u_128_30, u_128_32, u_128_33, u_128_34, u_128_36, u_128_37, u_128_39, u_128_42, u_128_44, u_128_45, u_128_47, u_128_49, u_128_50, u_128_53, u_128_56, u_128_57, u_128_60, u_128_62, u_128_63, u_128_64, u_128_65, u_128_66, u_128_69, u_128_70, u_128_72, u_128_74, u_128_75, u_128_78, u_128_81, u_128_84, u_128_87, u_128_90, u_128_91, u_128_94, u_128_95, u_128_96, u_128_99, u_128_100, u_128_103, u_128_104, wp_stop, lget, lput1, lput2, kil, hget, hset, vget, vset, fget, fgetC, fput, fputC, iget, igetC, jget, jgetC, qget, qgetC, alen, lenC, oI, oJ, oF, oA, oV, oH, oInc, oIld, oJld, oQld, oR, oLen, oIst, oBst, oJst, oQst, ciOf, rcv, oCp, cat1, cond_true, cond_false, Bool.and_self, Bool.and_true, Bool.true_and, Bool.or_true, Bool.true_or, Bool.or_false, Bool.false_or, Bool.not_false, Bool.not_true, ↓reduceIte, Nat.reduceBEq, Nat.reduceEqDiff, beq_self_eq_true, true_and, and_true, eq_self_iff_true, Nat.reduceAdd, Nat.blt, Nat.ble, z_le, z_lt, z_eq, z_cl, z_add, z_sub, z_mul, z_in, z_lt0, z_ofN, z_m1, z_ltm1, z_m1lt, z_eqm1, z_m1eq, z_m1le, z_lem1, z_beq, nI_0_1, nI_m1lt0, nI_0lem1, not_false_eq_true, not_true_eq_false, forall_const, false_implies, true_implies, implies_true, false_and, and_false, mrg, renc, tra, trv, sg, List.map_cons, List.map_nil, Option.map_some, Option.map_none, Option.toList_some, Option.toList_none, List.cons_append, List.nil_append, List.length_cons, List.length_nil, gH, gO, r1, t1, hg]
    refine CAL.dir hen (by omega) (Nat.zero_le _) (Nat.zero_le _) (Nat.le_of_ble_eq_true rfl) (by rw [ggn]; exact Nat.le_of_ble_eq_true rfl) hko rfl ?_
    rintro _ _ ⟨rfl, ged', rfl, hE⟩
    have hin2 := hin ged' hE
    clear hin
    simp (disch := first | exact rfl | decide | omega) only [u_128_0, u_128_1, u_128_4, u_128_5, u_128_6, u_128_7, u_128_8, u_128_10, u_128_12, u_128_13, u_128_16, u_128_17, u_128_18, u_128_21, u_128_22, u_128_25, u_128_28, u_128_29, u_128_30, u_128_32, u_128_33, u_128_34, u_128_36, u_128_37, u_128_39, u_128_42, u_128_44, u_128_45, u_128_47, u_128_49, u_128_50, u_128_53, u_128_56, u_128_57, u_128_60, u_128_62, u_128_63, u_128_64, u_128_65, u_128_66, u_128_69, u_128_70, u_128_72, u_128_74, u_128_75, u_128_78, u_128_81, u_128_84, u_128_87, u_128_90, u_128_91, u_128_94, u_128_95, u_128_96, u_128_99, u_128_100, u_128_103, u_128_104, wp_stop, lget, lput1, lput2, kil, hget, hset, vget, vset, fget, fgetC, fput, fputC, iget, igetC, jget, jgetC, qget, qgetC, alen, lenC, oI, oJ, oF, oA, oV, oH, oInc, oIld, oJld, oQld, oR, oLen, oIst, oBst, oJst, oQst, ciOf, rcv, oCp, cat1, cond_true, cond_false, Bool.and_self, Bool.and_true, Bool.true_and, Bool.or_true, Bool.true_or, Bool.or_false, Bool.false_or, Bool.not_false, Bool.not_true, ↓reduceIte, Nat.reduceBEq, Nat.reduceEqDiff, beq_self_eq_true, true_and, and_true, eq_self_iff_true, Nat.reduceAdd, Nat.blt, Nat.ble, z_le, z_lt, z_eq, z_cl, z_add, z_sub, z_mul, z_in, z_lt0, z_ofN, z_m1, z_ltm1, z_m1lt, z_eqm1, z_m1eq, z_m1le, z_lem1, z_beq, nI_0_1, nI_m1lt0, nI_0lem1, not_false_eq_true, not_true_eq_false, forall_const, false_implies, true_implies, implies_true, false_and, and_false, mrg, renc, tra, trv, sg, List.map_cons, List.map_nil, Option.map_some, Option.map_none, Option.toList_some, Option.toList_none, List.cons_append, List.nil_append, List.length_cons, List.length_nil, gH, gO, bNb]
    exact hin2
set_option maxRecDepth 100000 in
theorem g_goes (d n a e x : Nat) (K lf : Nat → Nat) (hw : wfP K lf n) (hL : pLd K lf n gmy gkd glf grt gpr gun gow gem) (ha : a < 21) (he : e < 21) (hae : a ≠ e) (hx : x < 8) (La : List Nat) (hA : rpS gse gsz a La) (hAu : ∀ S ∈ La, S &&& unM K lf (n - 1) = S) :
    aSp (d + 2) 128 [.ref 0, .int (nI a), .int (nI x), .int (nI e)] (gH gal gps gst grf gmy gkd glf grt gpr gun gow gem ged gse gsz gtx gtl gsp gmd gop gom gwt gwm gtn gon gsh gtr gbl gbd gwh gfl gfd gfe) nomv 0 0 (fun r h' => ∃ ged' gse' gsz' L', r = some (.int (bN (!L'.isEmpty))) ∧ h' = (gH gal gps gst grf gmy gkd glf grt gpr gun gow gem ged' gse' gsz' gtx gtl gsp gmd gop gom gwt gwm gtn gon gsh gtr gbl gbd gwh gfl gfd gfe) ∧ rpS gse' gsz' e L' ∧ (∀ X, X ∈ L' ↔ ∃ S ∈ La, goX K lf n x S n X) ∧ frE gse gsz gse' gsz' e) := by
  refine sp_of (by decide) (Nat.le_of_ble_eq_true rfl) ?_
  generalize hG : ((d + 2, _, nomv, _, _, _) : aG) = G
  have ggd : gD G = d + 2 := by subst hG; rfl
  have ggn : gN G = 21 := by subst hG; rfl
  have ggm : gM G = nomv := by subst hG; rfl
  have ggc : gC G = 0 := by subst hG; rfl
  have ggs : gS G = 0 := by subst hG; rfl
  have hret : ∀ ged' gse' gsz' L', rpS gse' gsz' e L' → (∀ X, X ∈ L' ↔ ∃ S ∈ La, goX K lf n x S n X) → frE gse gsz gse' gsz' e → RET G (some (.int (bN (!L'.isEmpty)))) (gH gal gps gst grf gmy gkd glf grt gpr gun gow gem ged' gse' gsz' gtx gtl gsp gmd gop gom gwt gwm gtn gon gsh gtr gbl gbd gwh gfl gfd gfe) 0 0 := by
    subst hG
    intro ged' gse' gsz' L' q1 q2 q3
    exact RET.id ⟨ged', gse', gsz', L', rfl, rfl, q1, q2, q3⟩ (Nat.le_refl _) (Nat.le_refl _)
  clear hG
  have hgo := l_goO gal gps gst grf gmy gkd glf grt gpr gun gow gem gtx gtl gsp gmd gop gom gwt gwm gtn gon gsh gtr gbl gbd gwh gfl gfd gfe gse gsz n a e x K lf hw hL ha he hae hx (by rw [ggd]; omega) ggn La hA hAu hret La.length 0 none none none ged gse (upd gsz e (nI 0)) [] (by omega) ⟨upd_s, List.nodup_nil, fun x hx => absurd hx List.not_mem_nil, fun k x hx => by simp at hx⟩ (fun X => by simp) (fun f hf => ⟨upd_n hf, fun _ _ => rfl⟩) rfl
  refine wp_aw (S := fun x => x == 10) (by decide) 200 _ _ _ _ _ _ ?_
  simp (disch := first | exact rfl | decide | omega) only [u_128_0, u_128_1, u_128_4, u_128_5, u_128_6, u_128_7, u_128_8, u_128_10, u_128_12, u_128_13, u_128_16, u_128_17, u_128_18, u_128_21, u_128_22, u_128_25, u_128_28, u_128_29, u_128_30, u_128_32, u_128_33, u_128_34, u_128_36, u_128_37, u_128_39, u_128_42, u_128_44, u_128_45, u_128_47, u_128_49, u_128_50, u_128_53, u_128_56, u_128_57, u_128_60, u_128_62, u_128_63, u_128_64, u_128_65, u_128_66, u_128_69, u_128_70, u_128_72, u_128_74, u_128_75, u_128_78, u_128_81, u_128_84, u_128_87, u_128_90, u_128_91, u_128_94, u_128_95, u_128_96, u_128_99, u_128_100, u_128_103, u_128_104, wp_stop, lget, lput1, lput2, kil, hget, hset, vget, vset, fget, fgetC, fput, fputC, iget, igetC, jget, jgetC, qget, qgetC, alen, lenC, oI, oJ, oF, oA, oV, oH, oInc, oIld, oJld, oQld, oR, oLen, oIst, oBst, oJst, oQst, ciOf, rcv, oCp, cat1, cond_true, cond_false, Bool.and_self, Bool.and_true, Bool.true_and, Bool.or_true, Bool.true_or, Bool.or_false, Bool.false_or, Bool.not_false, Bool.not_true, ↓reduceIte, Nat.reduceBEq, Nat.reduceEqDiff, beq_self_eq_true, true_and, and_true, eq_self_iff_true, Nat.reduceAdd, Nat.blt, Nat.ble, z_le, z_lt, z_eq, z_cl, z_add, z_sub, z_mul, z_in, z_lt0, z_ofN, z_m1, z_ltm1, z_m1lt, z_eqm1, z_m1eq, z_m1le, z_lem1, z_beq, nI_0_1, nI_m1lt0, nI_0lem1, not_false_eq_true, not_true_eq_false, forall_const, false_implies, true_implies, implies_true, false_and, and_false, mrg, renc, tra, trv, sg, List.map_cons, List.map_nil, Option.map_some, Option.map_none, Option.toList_some, Option.toList_none, List.cons_append, List.nil_append, List.length_cons, List.length_nil, eL, mL_128, gH, gO]
  exact hgo
end GM
