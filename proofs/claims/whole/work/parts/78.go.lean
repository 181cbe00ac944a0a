/-! BookJudge.goThrough -/
/-- what a pass over a text ends with -/
noncomputable def goP (f : Option Nat) (κF : kB) (len : Nat) (tb : Nat → Int32) (r : Option Value) (h' : aH) : Prop :=
  (∀ i, f = some i → r = some (.int (nI i)) ∧ ∃ dp br fl du en le ah de ow st PM, h' = gF dp br fl du en le ah de ow st (nI len) tb ++ blks 7 PM 9 ∧ ∀ x, x < 9 → yR (PM x) (κF.2.2.2.2.2 x)) ∧
  (f = none → r = some (.int (-1)) ∧ ∃ ow st PM, h' = gQ 0 none (kbE κF len) κF.2.2.2.1 κF.2.2.2.2.1 ow st len tb PM ∧ ∀ x, x < 9 → yR (PM x) (κF.2.2.2.2.2 x))
/-- the fault of a text as a book -/
noncomputable def kbW (κ : kB) (T : List Nat) : Option Nat := match (kbF κ T 0).1 with
  | some i => some i
  | none => if 2 ≤ (kbF κ T 0).2.1.length then some T.length else none
section GO
variable (len : Nat) (tb : Nat → Int32) (T : List Nat)
set_option maxRecDepth 100000 in
theorem c_goThrough (d : Nat) (hT : txR tb T) (hl : T.length = len) (hl2 : len ≤ 150) (dp br fl du en le ah de : Int32) (ow st : Nat → Int32) (PM : Nat → PS × MS) (ν : Nat → aN) (hy : ∀ x, x < 9 → yR (PM x) (ν x)) (h9 : ∀ x, 9 ≤ x → okN (ν x))
    (hF14 : ∀ x, x < 9 → ((kbF ([(8, 1)], none, none, 0, 0, ν) T 0).2.2.2.2.2.2 x).2.1.1.length ≤ 2 ^ 14) :
    aSp (d + 9) 76 [.ref 0, .ref 5, .ref 3] (gF dp br fl du en le ah de ow st (nI len) tb ++ blks 7 PM 9) (mvI 7) (fY yC (kbF ([(8, 1)], none, none, 0, 0, ν) T 0).2.2.2.2.2.2 - fY yC ν) (fY yS (kbF ([(8, 1)], none, none, 0, 0, ν) T 0).2.2.2.2.2.2 - fY yS ν)
      (goP (kbW ([(8, 1)], none, none, 0, 0, ν) T) (kbF ([(8, 1)], none, none, 0, 0, ν) T 0).2 len tb) := by
  have h0 := (y_ok (hy 8 (by decide))).2.2.2.1
  have hR0 : ∀ ow st, kbR ([(8, 1)], none, none, 0, 0, ν) (upd ow 0 (nI 8)) (upd st 0 (nI 0)) PM := fun ow st => ⟨⟨upd_s, by show 8 < 9; decide, ⟨0, upd_s, h0⟩, trivial⟩, Nat.le_refl _, by show 1 ≤ 9; decide, fun b hb => absurd hb (by simp), fun t ht => absurd ht (by simp), by show 0 < 2 ^ 20; decide, hy⟩
  have hK0 := kbR_K (hR0 ow st) h9
  have hleF := kbF_le T 0 hK0 (Nat.le_refl 1) (by show 1 ≤ 9; decide) (fun b hb => absurd hb (by simp))
  have hW : kbW ([(8, 1)], none, none, 0, 0, ν) T = match (kbF ([(8, 1)], none, none, 0, 0, ν) T 0).1 with
    | some i => some i
    | none => if 2 ≤ (kbF ([(8, 1)], none, none, 0, 0, ν) T 0).2.1.length then some T.length else none := rfl
  generalize kbW ([(8, 1)], none, none, 0, 0, ν) T = fw at *
  generalize hkF : kbF ([(8, 1)], none, none, 0, 0, ν) T 0 = FF at *
  obtain ⟨f, κF⟩ := FF
  dsimp only at *
  refine sp_of (by decide) (Nat.le_of_ble_eq_true rfl) ?_
  generalize hG : ((d + 9, _, mvI 7, _, _, _) : aG) = G
  have ggd : gD G = d + 9 := by subst hG; rfl
  have ggn : gN G = 169 := by subst hG; exact fb_len (gF dp br fl du en le ah de ow st (nI len) tb) PM (nb := 9)
  have ggm : gM G = mvI 7 := by subst hG; rfl
  have ggc : gC G = fY yC κF.2.2.2.2.2 - fY yC ν := by subst hG; rfl
  have ggs : gS G = fY yS κF.2.2.2.2.2 - fY yS ν := by subst hG; rfl
  have hret : ∀ r h' k' n', goP fw κF len tb r h' → k' ≤ gC G → n' ≤ gS G → RET G r h' k' n' := by
    subst hG
    exact fun r h' k' n' q q2 q3 => RET.id q q2 q3
  clear hG
  have v1 : fY yS ν ≤ fY yS κF.2.2.2.2.2 := hleF.1
  have v2 : fY yC ν ≤ fY yC κF.2.2.2.2.2 := hleF.2.1
  have hbad : ∀ i dp br fl du en le ah de ow st PM k' n', f = some i → (∀ x, x < 9 → yR (PM x) (κF.2.2.2.2.2 x)) → k' ≤ gC G → n' ≤ gS G → RET G (some (.int (nI i))) (gF dp br fl du en le ah de ow st (nI len) tb ++ blks 7 PM 9) k' n' := by
    intro i dp br fl du en le ah de ow st PM k' n' hf hz hk hn
    rw [hf] at hW
    refine hret _ _ k' n' ⟨fun j hj => ?_, fun hj => ?_⟩ hk hn
    · rw [hW] at hj
      rw [Option.some.inj hj]
      exact ⟨rfl, dp, br, fl, du, en, le, ah, de, ow, st, PM, rfl, hz⟩
    · rw [hW] at hj
      exact absurd hj (by simp)
  have hend : ∀ dep ow st PM k' n', f = none → dep + 1 = κF.1.length → kbR κF ow st PM → κF.2.2.2.1 ≤ len → k' ≤ gC G → n' ≤ gS G → AW 76 G 114 [some (.ref 0), some (.ref 5), some (.ref 3), none, none, none] [] (gQ dep κF.2.1 κF.2.2.1 κF.2.2.2.1 κF.2.2.2.2.1 ow st len tb PM) k' n' := by
    intro dep ow st PM k' n' hf hdep hR hle hk hn
    rw [hf] at hW
    have hd9 : dep < 9 := by have := hR.2.2.1; omega
    by_cases hd0 : 0 < dep
    · have hw2 : fw = some T.length := by
        rw [hW]
        exact if_pos (by omega)
      have hfin := hret (some (.int (nI len))) (gQ dep κF.2.1 κF.2.2.1 κF.2.2.2.1 κF.2.2.2.2.1 ow st len tb PM) k' n' ⟨fun j hj => by
        rw [hw2] at hj
        rw [← Option.some.inj hj, hl]
        exact ⟨rfl, _, _, _, _, _, _, _, _, ow, st, PM, rfl, hR.2.2.2.2.2.2⟩, fun hj => by
        rw [hw2] at hj
        exact absurd hj (by simp)⟩ hk hn
      have t1 : ¬ dep ≤ 0 := by omega
      refine wp_aw (S := fun x => x == 6) (by decide) 200 _ _ _ _ _ _ ?_
      simp (disch := first | exact rfl | decide | omega) only [u_76_0, u_76_1, u_76_4, u_76_5, u_76_6, u_76_7, u_76_8, u_76_11, u_76_14, u_76_15, u_76_16, u_76_19, u_76_21, u_76_23, u_76_26, u_76_28, u_76_30, u_76_31, u_76_34, u_76_35, u_76_36, u_76_38, u_76_39, u_76_42, u_76_45, u_76_47, u_76_49, u_76_52, u_76_53, u_76_56, u_76_57, u_76_60, u_76_61, u_76_64, u_76_66, u_76_69, u_76_70, u_76_73, u_76_76, u_76_78, u_76_80, u_76_83, u_76_84, u_76_87, u_76_90, u_76_91, u_76_92, u_76_93, u_76_96, u_76_99, u_76_101, u_76_103, u_76_106, u_76_107, u_76_108, u_76_111, u_76_114, u_76_115, u_76_118, u_76_121, u_76_122, u_76_125, u_76_126, u_76_127, u_76_128, u_76_129, u_76_132, u_76_135, u_76_136, u_76_137, u_76_138, u_76_141, u_76_144, u_76_145, wp_stop, lget, lput1, lput2, kil, hget, hset, vget, vset, fget, fgetC, fput, fputC, iget, igetC, jget, jgetC, qget, qgetC, alen, lenC, oI, oJ, oF, oA, oV, oH, oInc, oIld, oJld, oQld, oR, oLen, oIst, oBst, oJst, oQst, ciOf, rcv, oCp, cat1, cond_true, cond_false, Bool.and_self, Bool.and_true, Bool.true_and, Bool.or_true, Bool.true_or, Bool.or_false, Bool.false_or, Bool.not_false, Bool.not_true, ↓reduceIte, Nat.reduceBEq, Nat.reduceEqDiff, beq_self_eq_true, true_and, and_true, eq_self_iff_true, Nat.reduceAdd, Nat.blt, Nat.ble, z_le, z_lt, z_eq, z_cl, z_add, z_sub, z_mul, z_in, z_lt0, z_ofN, z_m1, z_ltm1, z_m1lt, z_eqm1, z_m1eq, z_m1le, z_lem1, z_beq, nI_0_1, nI_m1lt0, nI_0lem1, not_false_eq_true, not_true_eq_false, forall_const, false_implies, true_implies, implies_true, false_and, and_false, mrg, renc, tra, trv, sg, List.map_cons, List.map_nil, Option.map_some, Option.map_none, Option.toList_some, Option.toList_none, List.cons_append, List.nil_append, List.length_cons, List.length_nil, gQ, gF, t1]
      exact hfin
    · have hdz : dep = 0 := by omega
      subst hdz
      have hw2 : fw = none := by
        rw [hW]
        exact if_neg (by omega)
      obtain ⟨stk, bb, qq, le2, de2, ν2⟩ := κF
      obtain ⟨hst, hl1, hl9, hbr, hqo, hde, hy2⟩ := hR
      dsimp only at *
      cases stk with
      | nil => simp at hl1
      | cons p R =>
        obtain ⟨x, m⟩ := p
        have hR0 : R.length = 0 := by
          rw [List.length_cons] at hdep
          omega
        obtain ⟨hw, hx9, ⟨s, hsst, hsm⟩, hstR⟩ := hst
        rw [hR0] at hw hsst
        have hb9 : ∀ b, bb = some b → b < 9 := fun b hbb => by have := hbr b hbb; omega
        have hc1 := c_endBare (nI 0) bb (nI de2) ow st PM 0 qq hqo le2 len ν2 hy2 hb9
        have hc2 := c_endRow none (nI de2) ow st PM 0 0 (by decide) (ebA ν2 bb qq len le2) (ebA_ok hqo (by omega)) le2 len x s m hx9 hw hsst (hy2 x hx9) hsm
        have hfin := hret (some (.int (-1))) (gQ 0 none (kbE ((x, m) :: R, bb, qq, le2, de2, ν2) len) le2 de2 ow st len tb PM) k' n' ⟨fun j hj => by
          rw [hw2] at hj
          exact absurd hj (by simp), fun _ => ⟨rfl, ow, st, PM, rfl, hy2⟩⟩ hk hn
        have hfin2 : RET G (some (.int (-1))) (gQ 0 none (eaA (ebA ν2 bb qq len le2) len (ν2 x).1 m le2) le2 de2 ow st len tb PM) k' n' := hfin
        clear hfin hret hbad
        generalize ebA ν2 bb qq len le2 = q2 at *
        generalize eaA q2 len (ν2 x).1 m le2 = q3 at *
        have t1 : (0 : Nat) ≤ 0 := Nat.le_refl _
        refine wp_aw (S := fun x => x == 6) (by decide) 200 _ _ _ _ _ _ ?_
        simp (disch := first | exact rfl | decide | omega) only [u_76_0, u_76_1, u_76_4, u_76_5, u_76_6, u_76_7, u_76_8, u_76_11, u_76_14, u_76_15, u_76_16, u_76_19, u_76_21, u_76_23, u_76_26, u_76_28, u_76_30, u_76_31, u_76_34, u_76_35, u_76_36, u_76_38, u_76_39, u_76_42, u_76_45, u_76_47, u_76_49, u_76_52, u_76_53, u_76_56, u_76_57, u_76_60, u_76_61, u_76_64, u_76_66, u_76_69, u_76_70, u_76_73, u_76_76, u_76_78, u_76_80, u_76_83, u_76_84, u_76_87, u_76_90, u_76_91, u_76_92, u_76_93, u_76_96, u_76_99, u_76_101, u_76_103, u_76_106, u_76_107, u_76_108, u_76_111, u_76_114, u_76_115, u_76_118, u_76_121, u_76_122, u_76_125, u_76_126, u_76_127, u_76_128, u_76_129, u_76_132, u_76_135, u_76_136, u_76_137, u_76_138, u_76_141, u_76_144, u_76_145, wp_stop, lget, lput1, lput2, kil, hget, hset, vget, vset, fget, fgetC, fput, fputC, iget, igetC, jget, jgetC, qget, qgetC, alen, lenC, oI, oJ, oF, oA, oV, oH, oInc, oIld, oJld, oQld, oR, oLen, oIst, oBst, oJst, oQst, ciOf, rcv, oCp, cat1, cond_true, cond_false, Bool.and_self, Bool.and_true, Bool.true_and, Bool.or_true, Bool.true_or, Bool.or_false, Bool.false_or, Bool.not_false, Bool.not_true, ↓reduceIte, Nat.reduceBEq, Nat.reduceEqDiff, beq_self_eq_true, true_and, and_true, eq_self_iff_true, Nat.reduceAdd, Nat.blt, Nat.ble, z_le, z_lt, z_eq, z_cl, z_add, z_sub, z_mul, z_in, z_lt0, z_ofN, z_m1, z_ltm1, z_m1lt, z_eqm1, z_m1eq, z_m1le, z_lem1, z_beq, nI_0_1, nI_m1lt0, nI_0lem1, not_false_eq_true, not_true_eq_false, forall_const, false_implies, true_implies, implies_true, false_and, and_false, mrg, renc, tra, trv, sg, List.map_cons, List.map_nil, Option.map_some, Option.map_none, Option.toList_some, Option.toList_none, List.cons_append, List.nil_append, List.length_cons, List.length_nil, gQ, gF, t1]
        show CAL _ _ _ _ _ _ _ (gF (nI 0) (bv bb) (fv qq).1 (fv qq).2.1 (fv qq).2.2.1 (nI le2) (fv qq).2.2.2 (nI de2) ow st (nI len) tb ++ blks 7 PM 9) _ _
        refine CAL.bkN hc1 rfl (fun r hc' q => by obtain ⟨rfl, -⟩ := q; exact fun _ => rfl) (by rw [ggd]; omega) (by show _ ≤ gC G; omega) (by show _ ≤ gS G; omega) (Nat.le_of_ble_eq_true rfl) (by rw [ggn]; exact Nat.le_refl _) rfl rfl ?_
        rintro r hc' ⟨rfl, rfl⟩
        refine ⟨_, _, _, _, _, _, _, _, _, _, _, rfl, ?_⟩
        simp (disch := first | exact rfl | decide | omega) only [u_76_0, u_76_1, u_76_4, u_76_5, u_76_6, u_76_7, u_76_8, u_76_11, u_76_14, u_76_15, u_76_16, u_76_19, u_76_21, u_76_23, u_76_26, u_76_28, u_76_30, u_76_31, u_76_34, u_76_35, u_76_36, u_76_38, u_76_39, u_76_42, u_76_45, u_76_47, u_76_49, u_76_52, u_76_53, u_76_56, u_76_57, u_76_60, u_76_61, u_76_64, u_76_66, u_76_69, u_76_70, u_76_73, u_76_76, u_76_78, u_76_80, u_76_83, u_76_84, u_76_87, u_76_90, u_76_91, u_76_92, u_76_93, u_76_96, u_76_99, u_76_101, u_76_103, u_76_106, u_76_107, u_76_108, u_76_111, u_76_114, u_76_115, u_76_118, u_76_121, u_76_122, u_76_125, u_76_126, u_76_127, u_76_128, u_76_129, u_76_132, u_76_135, u_76_136, u_76_137, u_76_138, u_76_141, u_76_144, u_76_145, wp_stop, lget, lput1, lput2, kil, hget, hset, vget, vset, fget, fgetC, fput, fputC, iget, igetC, jget, jgetC, qget, qgetC, alen, lenC, oI, oJ, oF, oA, oV, oH, oInc, oIld, oJld, oQld, oR, oLen, oIst, oBst, oJst, oQst, ciOf, rcv, oCp, cat1, cond_true, cond_false, Bool.and_self, Bool.and_true, Bool.true_and, Bool.or_true, Bool.true_or, Bool.or_false, Bool.false_or, Bool.not_false, Bool.not_true, ↓reduceIte, Nat.reduceBEq, Nat.reduceEqDiff, beq_self_eq_true, true_and, and_true, eq_self_iff_true, Nat.reduceAdd, Nat.blt, Nat.ble, z_le, z_lt, z_eq, z_cl, z_add, z_sub, z_mul, z_in, z_lt0, z_ofN, z_m1, z_ltm1, z_m1lt, z_eqm1, z_m1eq, z_m1le, z_lem1, z_beq, nI_0_1, nI_m1lt0, nI_0lem1, not_false_eq_true, not_true_eq_false, forall_const, false_implies, true_implies, implies_true, false_and, and_false, mrg, renc, tra, trv, sg, List.map_cons, List.map_nil, Option.map_some, Option.map_none, Option.toList_some, Option.toList_none, List.cons_append, List.nil_append, List.length_cons, List.length_nil, gF]
        show CAL _ _ _ _ _ _ _ (gF (nI 0) (bv none) (fv q2).1 (fv q2).2.1 (fv q2).2.2.1 (nI le2) (fv q2).2.2.2 (nI de2) ow st (nI len) tb ++ blks 7 PM 9) _ _
        refine CAL.bkN hc2 rfl (fun r hc' q => by obtain ⟨rfl, -⟩ := q; exact fun _ => rfl) (by rw [ggd]; omega) (by show _ ≤ gC G; omega) (by show _ ≤ gS G; omega) (Nat.le_of_ble_eq_true rfl) (by rw [ggn]; exact Nat.le_refl _) rfl rfl ?_
        rintro r hc' ⟨rfl, rfl⟩
        refine ⟨_, _, _, _, _, _, _, _, _, _, _, rfl, ?_⟩
        simp (disch := first | exact rfl | decide | omega) only [u_76_0, u_76_1, u_76_4, u_76_5, u_76_6, u_76_7, u_76_8, u_76_11, u_76_14, u_76_15, u_76_16, u_76_19, u_76_21, u_76_23, u_76_26, u_76_28, u_76_30, u_76_31, u_76_34, u_76_35, u_76_36, u_76_38, u_76_39, u_76_42, u_76_45, u_76_47, u_76_49, u_76_52, u_76_53, u_76_56, u_76_57, u_76_60, u_76_61, u_76_64, u_76_66, u_76_69, u_76_70, u_76_73, u_76_76, u_76_78, u_76_80, u_76_83, u_76_84, u_76_87, u_76_90, u_76_91, u_76_92, u_76_93, u_76_96, u_76_99, u_76_101, u_76_103, u_76_106, u_76_107, u_76_108, u_76_111, u_76_114, u_76_115, u_76_118, u_76_121, u_76_122, u_76_125, u_76_126, u_76_127, u_76_128, u_76_129, u_76_132, u_76_135, u_76_136, u_76_137, u_76_138, u_76_141, u_76_144, u_76_145, wp_stop, lget, lput1, lput2, kil, hget, hset, vget, vset, fget, fgetC, fput, fputC, iget, igetC, jget, jgetC, qget, qgetC, alen, lenC, oI, oJ, oF, oA, oV, oH, oInc, oIld, oJld, oQld, oR, oLen, oIst, oBst, oJst, oQst, ciOf, rcv, oCp, cat1, cond_true, cond_false, Bool.and_self, Bool.and_true, Bool.true_and, Bool.or_true, Bool.true_or, Bool.or_false, Bool.false_or, Bool.not_false, Bool.not_true, ↓reduceIte, Nat.reduceBEq, Nat.reduceEqDiff, beq_self_eq_true, true_and, and_true, eq_self_iff_true, Nat.reduceAdd, Nat.blt, Nat.ble, z_le, z_lt, z_eq, z_cl, z_add, z_sub, z_mul, z_in, z_lt0, z_ofN, z_m1, z_ltm1, z_m1lt, z_eqm1, z_m1eq, z_m1le, z_lem1, z_beq, nI_0_1, nI_m1lt0, nI_0lem1, not_false_eq_true, not_true_eq_false, forall_const, false_implies, true_implies, implies_true, false_and, and_false, mrg, renc, tra, trv, sg, List.map_cons, List.map_nil, Option.map_some, Option.map_none, Option.toList_some, Option.toList_none, List.cons_append, List.nil_append, List.length_cons, List.length_nil, gF]
        exact hfin2
  have hgo := l_go len tb T hT hl hl2 (by rw [ggd]; omega) ggn ggm f κF hF14 hbad hend T 0 0 ([(8, 1)], none, none, 0, 0, ν) (upd ow 0 (nI 8)) (upd st 0 (nI 0)) PM 0 0 rfl (hR0 ow st) hK0 rfl (by omega) (Nat.le_refl _) hkF (by rw [ggc]; show 0 + _ ≤ _ + fY yC ν; omega) (by rw [ggs]; show 0 + _ ≤ _ + fY yS ν; omega)
  clear hret hbad hend
  have hbg := c_bBegin ow st PM d dp br fl du en le ah de
  refine wp_aw (S := fun x => x == 6 || x == 114) (by decide) 200 _ _ _ _ _ _ ?_
  simp (disch := first | exact rfl | decide | omega) only [u_76_0, u_76_1, u_76_4, u_76_5, u_76_6, u_76_7, u_76_8, u_76_11, u_76_14, u_76_15, u_76_16, u_76_19, u_76_21, u_76_23, u_76_26, u_76_28, u_76_30, u_76_31, u_76_34, u_76_35, u_76_36, u_76_38, u_76_39, u_76_42, u_76_45, u_76_47, u_76_49, u_76_52, u_76_53, u_76_56, u_76_57, u_76_60, u_76_61, u_76_64, u_76_66, u_76_69, u_76_70, u_76_73, u_76_76, u_76_78, u_76_80, u_76_83, u_76_84, u_76_87, u_76_90, u_76_91, u_76_92, u_76_93, u_76_96, u_76_99, u_76_101, u_76_103, u_76_106, u_76_107, u_76_108, u_76_111, u_76_114, u_76_115, u_76_118, u_76_121, u_76_122, u_76_125, u_76_126, u_76_127, u_76_128, u_76_129, u_76_132, u_76_135, u_76_136, u_76_137, u_76_138, u_76_141, u_76_144, u_76_145, wp_stop, lget, lput1, lput2, kil, hget, hset, vget, vset, fget, fgetC, fput, fputC, iget, igetC, jget, jgetC, qget, qgetC, alen, lenC, oI, oJ, oF, oA, oV, oH, oInc, oIld, oJld, oQld, oR, oLen, oIst, oBst, oJst, oQst, ciOf, rcv, oCp, cat1, cond_true, cond_false, Bool.and_self, Bool.and_true, Bool.true_and, Bool.or_true, Bool.true_or, Bool.or_false, Bool.false_or, Bool.not_false, Bool.not_true, ↓reduceIte, Nat.reduceBEq, Nat.reduceEqDiff, beq_self_eq_true, true_and, and_true, eq_self_iff_true, Nat.reduceAdd, Nat.blt, Nat.ble, z_le, z_lt, z_eq, z_cl, z_add, z_sub, z_mul, z_in, z_lt0, z_ofN, z_m1, z_ltm1, z_m1lt, z_eqm1, z_m1eq, z_m1le, z_lem1, z_beq, nI_0_1, nI_m1lt0, nI_0lem1, not_false_eq_true, not_true_eq_false, forall_const, false_implies, true_implies, implies_true, false_and, and_false, mrg, renc, tra, trv, sg, List.map_cons, List.map_nil, Option.map_some, Option.map_none, Option.toList_some, Option.toList_none, List.cons_append, List.nil_append, List.length_cons, List.length_nil, eL, mL_76, gF]
  show CAL _ _ _ _ _ _ _ (gF dp br fl du en le ah de ow st (nI len) tb ++ blks 7 PM 9) _ _
  refine CAL.bkN hbg rfl (fun r hc' q => by obtain ⟨rfl, -⟩ := q; exact fun _ => rfl) (by rw [ggd]; omega) (by show _ ≤ gC G; omega) (by show _ ≤ gS G; omega) (Nat.le_of_ble_eq_true rfl) (by rw [ggn]; exact Nat.le_refl _) rfl rfl ?_
  rintro r hc' ⟨rfl, rfl⟩
  refine ⟨_, _, _, _, _, _, _, _, _, _, _, rfl, ?_⟩
  simp (disch := first | exact rfl | decide | omega) only [u_76_0, u_76_1, u_76_4, u_76_5, u_76_6, u_76_7, u_76_8, u_76_11, u_76_14, u_76_15, u_76_16, u_76_19, u_76_21, u_76_23, u_76_26, u_76_28, u_76_30, u_76_31, u_76_34, u_76_35, u_76_36, u_76_38, u_76_39, u_76_42, u_76_45, u_76_47, u_76_49, u_76_52, u_76_53, u_76_56, u_76_57, u_76_60, u_76_61, u_76_64, u_76_66, u_76_69, u_76_70, u_76_73, u_76_76, u_76_78, u_76_80, u_76_83, u_76_84, u_76_87, u_76_90, u_76_91, u_76_92, u_76_93, u_76_96, u_76_99, u_76_101, u_76_103, u_76_106, u_76_107, u_76_108, u_76_111, u_76_114, u_76_115, u_76_118, u_76_121, u_76_122, u_76_125, u_76_126, u_76_127, u_76_128, u_76_129, u_76_132, u_76_135, u_76_136, u_76_137, u_76_138, u_76_141, u_76_144, u_76_145, wp_stop, lget, lput1, lput2, kil, hget, hset, vget, vset, fget, fgetC, fput, fputC, iget, igetC, jget, jgetC, qget, qgetC, alen, lenC, oI, oJ, oF, oA, oV, oH, oInc, oIld, oJld, oQld, oR, oLen, oIst, oBst, oJst, oQst, ciOf, rcv, oCp, cat1, cond_true, cond_false, Bool.and_self, Bool.and_true, Bool.true_and, Bool.or_true, Bool.true_or, Bool.or_false, Bool.false_or, Bool.not_false, Bool.not_true, ↓reduceIte, Nat.reduceBEq, Nat.reduceEqDiff, beq_self_eq_true, true_and, and_true, eq_self_iff_true, Nat.reduceAdd, Nat.blt, Nat.ble, z_le, z_lt, z_eq, z_cl, z_add, z_sub, z_mul, z_in, z_lt0, z_ofN, z_m1, z_ltm1, z_m1lt, z_eqm1, z_m1eq, z_m1le, z_lem1, z_beq, nI_0_1, nI_m1lt0, nI_0lem1, not_false_eq_true, not_true_eq_false, forall_const, false_implies, true_implies, implies_true, false_and, and_false, mrg, renc, tra, trv, sg, List.map_cons, List.map_nil, Option.map_some, Option.map_none, Option.toList_some, Option.toList_none, List.cons_append, List.nil_append, List.length_cons, List.length_nil, gF]
  exact hgo
end GO
