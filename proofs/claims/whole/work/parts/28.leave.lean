/-! Plan.leave -/
theorem kst_n (a l : Nat) (σ : kS) (m : Nat × Nat) : (kst a l σ m).2.1 = kN σ.1 (a + σ.1.length) σ.2.1 m := by
  unfold kst
  by_cases h : m ∈ σ.1
  · rw [if_pos h]; unfold kN; rw [if_pos h]
  · rw [if_neg h]
theorem kst_gd {a l : Nat} {σ : kS} {mo mo' : Nat → Int32} {s t : Nat} (hs : s < 8) (ht : t < 256) (hg : kGd a σ mo) (hq : (s, t) ∉ σ.1) (hc : a + σ.1.length < 2 ^ 19) (h1 : ∀ j, j < a + σ.1.length → mo' j = mo j) (h2 : mo' (a + σ.1.length) = nI (s * 256 + t)) : kGd a (kst a l σ (s, t)) mo' := by
  obtain ⟨g1, g2, g3, g4⟩ := hg
  have hk : kst a l σ (s, t) = (σ.1 ++ [(s, t)], kN σ.1 (a + σ.1.length) σ.2.1 (s, t), kT σ.2.2 l s t) := by unfold kst; rw [if_neg hq]
  rw [hk]
  have hn : kN σ.1 (a + σ.1.length) σ.2.1 (s, t) = if a + σ.1.length < σ.2.1 then σ.2.1 else 2 * σ.2.1 := by unfold kN; rw [if_neg hq]
  refine ⟨?_, ?_, ?_, ?_⟩
  · intro j hj
    have hj' : j < σ.1.length + 1 := by simpa using hj
    by_cases hlt : j < σ.1.length
    · have e : (σ.1 ++ [(s, t)])[j] = σ.1[j] := List.getElem_append_left hlt
      rw [e, h1 (a + j) (by omega)]
      exact g1 j hlt
    · have hje : j = σ.1.length := by omega
      subst hje
      have e : (σ.1 ++ [(s, t)])[σ.1.length] = (s, t) := by simp
      rw [e]
      exact ⟨h2, hs, ht⟩
  · show a + (σ.1 ++ [(s, t)]).length ≤ kN σ.1 (a + σ.1.length) σ.2.1 (s, t)
    rw [hn, List.length_append, List.length_singleton]
    split <;> omega
  · show 0 < kN σ.1 (a + σ.1.length) σ.2.1 (s, t)
    rw [hn]
    split <;> omega
  · show kN σ.1 (a + σ.1.length) σ.2.1 (s, t) < 2 ^ 21
    rw [hn]
    split <;> omega
section LV4
variable {K lf : Nat → Nat} {n S l a N : Nat} {root sorts : Int32} {kd sa la sp sh ms me : Nat → Int32}
set_option maxRecDepth 100000 in
theorem lv_leave (hw : wfP K lf n) (hk : ∀ j, j < n → kd j = nI (K j)) (hg : gdN K lf n sa la sp sh) (hS : S ≤ 256) (hl : l < S) (hN : S ≤ N) (hN2 : N < 2 ^ 20) (hms : ms l = nI a) : ∀ i, i < n → LV K lf S l a N root sorts kd sa la sp sh ms me 16 i (2 * i + 17) := by
  intro i
  induction i using Nat.strongRecOn with
  | _ i ih =>
    intro hi p sc sf σ mo hp hsc hs1 hsf hgd hc
    have hn := hw.2.1
    have hki := hk i hi
    obtain ⟨hk1, hk2, hk3, hk4⟩ := hw.2.2.1 i hi
    have m1 := kfo_le a l (scl sc sf (pmv K lf i p)) σ
    generalize hM : kfo a l σ (scl sc sf (pmv K lf i p)) = M at m1 ⊢
    refine sp_of (by decide) (Nat.le_of_ble_eq_true rfl) ?_
    generalize hG : ((2 * i + 17, _, mvP, _, _, _) : aG) = G
    have ggd : gD G = 2 * i + 17 := by subst hG; rfl
    have ggn : gN G = 10 := by subst hG; rfl
    have ggm : gM G = mvP := by subst hG; rfl
    have ggc : gC G = M.2.1 - σ.2.1 := by subst hG; rfl
    have ggs : gS G = 2 * (M.2.1 - σ.2.1) := by subst hG; rfl
    have hret : ∀ mo', kGd a M mo' → (∀ j, j < a → mo' j = mo j) → ∀ k0 n0, k0 ≤ M.2.1 - σ.2.1 → n0 ≤ 2 * (M.2.1 - σ.2.1) → RET G none (kH S l a N root sorts kd sa la sp sh ms me M mo') k0 n0 := by
      intro mo' h1 h2 k0 n0 h3 h4
      subst hG
      exact RET.id ⟨rfl, mo', rfl, h1, h2⟩ h3 h4
    clear hG
    have hsp := wf_sp hw hi
    by_cases h8 : K i ≤ 8
    · have t1 : ¬ 8 < K i := by omega
      rw [psp_let h8] at hp hsc hsf
      by_cases hp0 : p = 0
      · subst hp0
        rw [pmv_let h8, if_pos rfl] at hM hc
        rw [List.length_singleton] at hc
        have hM2 : kst a l σ (K i - 1, sc + sf) = M := by
          rw [← hM]
          show _ = kst a l σ (K i - 1, 1 * sc + sf)
          rw [Nat.one_mul]
        have hMn := kst_n a l σ (K i - 1, sc + sf)
        rw [hM2] at hMn
        have hsl : sc + sf < S := by omega
        refine wp_aw (S := fun _ => false) (by decide) 200 _ _ _ _ _ _ ?_
        simp (disch := first | exact rfl | decide | omega) only [u_16_0, u_16_1, u_16_4, u_16_5, u_16_6, u_16_9, u_16_10, u_16_11, u_16_13, u_16_15, u_16_17, u_16_20, u_16_21, u_16_24, u_16_25, u_16_27, u_16_28, u_16_29, u_16_30, u_16_32, u_16_33, u_16_36, u_16_39, u_16_41, u_16_43, u_16_46, u_16_47, u_16_48, u_16_49, u_16_50, u_16_52, u_16_55, u_16_58, u_16_60, u_16_62, u_16_65, u_16_66, u_16_67, u_16_68, u_16_69, u_16_71, u_16_74, u_16_77, u_16_79, u_16_81, u_16_84, u_16_85, u_16_86, u_16_87, u_16_88, u_16_90, u_16_93, wp_stop, lget, lput1, lput2, kil, hget, hset, vget, vset, fget, fgetC, fput, fputC, iget, igetC, jget, jgetC, qget, qgetC, alen, lenC, oI, oJ, oF, oA, oV, oH, oInc, oIld, oJld, oQld, oR, oLen, oIst, oBst, oJst, oQst, ciOf, rcv, oCp, cat1, cond_true, cond_false, Bool.and_self, Bool.and_true, Bool.true_and, Bool.or_true, Bool.true_or, Bool.or_false, Bool.false_or, Bool.not_false, Bool.not_true, ↓reduceIte, Nat.reduceBEq, Nat.reduceEqDiff, beq_self_eq_true, true_and, and_true, eq_self_iff_true, Nat.reduceAdd, Nat.blt, Nat.ble, z_le, z_lt, z_eq, z_cl, z_add, z_sub, z_mul, z_in, z_lt0, z_ofN, z_m1, z_ltm1, z_m1lt, z_eqm1, z_m1eq, z_m1le, z_lem1, z_beq, nI_0_1, nI_m1lt0, nI_0lem1, not_false_eq_true, not_true_eq_false, forall_const, false_implies, true_implies, implies_true, false_and, and_false, mrg, renc, tra, trv, sg, List.map_cons, List.map_nil, Option.map_some, Option.map_none, Option.toList_some, Option.toList_none, List.cons_append, List.nil_append, List.length_cons, List.length_nil, eL, mL_16, pH, pO, hki, t1]
        refine ⟨2, mvP, _, _, _, c_keepMove 0 S l (K i - 1) (sc + sf) a (a + σ.1.length) σ.2.1 N root sorts kd sa la sp sh σ.2.2 mo ms me σ.1 (by omega) hsl hS hl hN hN2 hms rfl hgd.2.1 (by have := hgd.2.2.2; omega) hgd.2.2.1 hgd.1, by rw [ggd]; omega, by rw [ggc, hMn]; omega, by rw [ggs, hMn]; omega, Nat.le_of_ble_eq_true rfl, by rw [ggn]; exact Nat.le_refl _, fun x _ h2 => by rw [ggm] at h2; exact h2, rfl, rfl, ?_⟩
        rintro _ _ ⟨rfl, ⟨q, rfl⟩ | ⟨q, mo', rfl, f1, f2⟩⟩
        · have hMs : M = σ := by rw [← hM2]; unfold kst; rw [if_pos q]
          simp (disch := first | exact rfl | decide | omega) only [u_16_0, u_16_1, u_16_4, u_16_5, u_16_6, u_16_9, u_16_10, u_16_11, u_16_13, u_16_15, u_16_17, u_16_20, u_16_21, u_16_24, u_16_25, u_16_27, u_16_28, u_16_29, u_16_30, u_16_32, u_16_33, u_16_36, u_16_39, u_16_41, u_16_43, u_16_46, u_16_47, u_16_48, u_16_49, u_16_50, u_16_52, u_16_55, u_16_58, u_16_60, u_16_62, u_16_65, u_16_66, u_16_67, u_16_68, u_16_69, u_16_71, u_16_74, u_16_77, u_16_79, u_16_81, u_16_84, u_16_85, u_16_86, u_16_87, u_16_88, u_16_90, u_16_93, wp_stop, lget, lput1, lput2, kil, hget, hset, vget, vset, fget, fgetC, fput, fputC, iget, igetC, jget, jgetC, qget, qgetC, alen, lenC, oI, oJ, oF, oA, oV, oH, oInc, oIld, oJld, oQld, oR, oLen, oIst, oBst, oJst, oQst, ciOf, rcv, oCp, cat1, cond_true, cond_false, Bool.and_self, Bool.and_true, Bool.true_and, Bool.or_true, Bool.true_or, Bool.or_false, Bool.false_or, Bool.not_false, Bool.not_true, ↓reduceIte, Nat.reduceBEq, Nat.reduceEqDiff, beq_self_eq_true, true_and, and_true, eq_self_iff_true, Nat.reduceAdd, Nat.blt, Nat.ble, z_le, z_lt, z_eq, z_cl, z_add, z_sub, z_mul, z_in, z_lt0, z_ofN, z_m1, z_ltm1, z_m1lt, z_eqm1, z_m1eq, z_m1le, z_lem1, z_beq, nI_0_1, nI_m1lt0, nI_0lem1, not_false_eq_true, not_true_eq_false, forall_const, false_implies, true_implies, implies_true, false_and, and_false, mrg, renc, tra, trv, sg, List.map_cons, List.map_nil, Option.map_some, Option.map_none, Option.toList_some, Option.toList_none, List.cons_append, List.nil_append, List.length_cons, List.length_nil, pH, pO]
          have := hret mo (by rw [hMs]; exact hgd) (fun _ _ => rfl) (0 + (kN σ.1 (a + σ.1.length) σ.2.1 (K i - 1, sc + sf) - σ.2.1)) (0 + 2 * (kN σ.1 (a + σ.1.length) σ.2.1 (K i - 1, sc + sf) - σ.2.1)) (by rw [hMn]; omega) (by rw [hMn]; omega)
          rw [hMs] at this
          exact this
        · have hMs : M = (σ.1 ++ [(K i - 1, sc + sf)], kN σ.1 (a + σ.1.length) σ.2.1 (K i - 1, sc + sf), kT σ.2.2 l (K i - 1) (sc + sf)) := by rw [← hM2]; unfold kst; rw [if_neg q]
          have hgd2 : kGd a M mo' := by rw [← hM2]; exact kst_gd (by omega) (by omega) hgd q (by omega) f1 f2
          simp (disch := first | exact rfl | decide | omega) only [u_16_0, u_16_1, u_16_4, u_16_5, u_16_6, u_16_9, u_16_10, u_16_11, u_16_13, u_16_15, u_16_17, u_16_20, u_16_21, u_16_24, u_16_25, u_16_27, u_16_28, u_16_29, u_16_30, u_16_32, u_16_33, u_16_36, u_16_39, u_16_41, u_16_43, u_16_46, u_16_47, u_16_48, u_16_49, u_16_50, u_16_52, u_16_55, u_16_58, u_16_60, u_16_62, u_16_65, u_16_66, u_16_67, u_16_68, u_16_69, u_16_71, u_16_74, u_16_77, u_16_79, u_16_81, u_16_84, u_16_85, u_16_86, u_16_87, u_16_88, u_16_90, u_16_93, wp_stop, lget, lput1, lput2, kil, hget, hset, vget, vset, fget, fgetC, fput, fputC, iget, igetC, jget, jgetC, qget, qgetC, alen, lenC, oI, oJ, oF, oA, oV, oH, oInc, oIld, oJld, oQld, oR, oLen, oIst, oBst, oJst, oQst, ciOf, rcv, oCp, cat1, cond_true, cond_false, Bool.and_self, Bool.and_true, Bool.true_and, Bool.or_true, Bool.true_or, Bool.or_false, Bool.false_or, Bool.not_false, Bool.not_true, ↓reduceIte, Nat.reduceBEq, Nat.reduceEqDiff, beq_self_eq_true, true_and, and_true, eq_self_iff_true, Nat.reduceAdd, Nat.blt, Nat.ble, z_le, z_lt, z_eq, z_cl, z_add, z_sub, z_mul, z_in, z_lt0, z_ofN, z_m1, z_ltm1, z_m1lt, z_eqm1, z_m1eq, z_m1le, z_lem1, z_beq, nI_0_1, nI_m1lt0, nI_0lem1, not_false_eq_true, not_true_eq_false, forall_const, false_implies, true_implies, implies_true, false_and, and_false, mrg, renc, tra, trv, sg, List.map_cons, List.map_nil, Option.map_some, Option.map_none, Option.toList_some, Option.toList_none, List.cons_append, List.nil_append, List.length_cons, List.length_nil, pH, pO]
          have := hret mo' hgd2 (fun j hj => f1 j (by omega)) (0 + (kN σ.1 (a + σ.1.length) σ.2.1 (K i - 1, sc + sf) - σ.2.1)) (0 + 2 * (kN σ.1 (a + σ.1.length) σ.2.1 (K i - 1, sc + sf) - σ.2.1)) (by rw [hMn]; omega) (by rw [hMn]; omega)
          rw [hMs] at this
          simp only [kH, List.length_append, List.length_singleton, ← Nat.add_assoc] at this
          exact this
      · rw [pmv_let h8, if_neg hp0] at hM
        have hMs : M = σ := by rw [← hM]; rfl
        refine wp_aw (S := fun _ => false) (by decide) 200 _ _ _ _ _ _ ?_
        simp (disch := first | exact rfl | decide | omega) only [u_16_0, u_16_1, u_16_4, u_16_5, u_16_6, u_16_9, u_16_10, u_16_11, u_16_13, u_16_15, u_16_17, u_16_20, u_16_21, u_16_24, u_16_25, u_16_27, u_16_28, u_16_29, u_16_30, u_16_32, u_16_33, u_16_36, u_16_39, u_16_41, u_16_43, u_16_46, u_16_47, u_16_48, u_16_49, u_16_50, u_16_52, u_16_55, u_16_58, u_16_60, u_16_62, u_16_65, u_16_66, u_16_67, u_16_68, u_16_69, u_16_71, u_16_74, u_16_77, u_16_79, u_16_81, u_16_84, u_16_85, u_16_86, u_16_87, u_16_88, u_16_90, u_16_93, wp_stop, lget, lput1, lput2, kil, hget, hset, vget, vset, fget, fgetC, fput, fputC, iget, igetC, jget, jgetC, qget, qgetC, alen, lenC, oI, oJ, oF, oA, oV, oH, oInc, oIld, oJld, oQld, oR, oLen, oIst, oBst, oJst, oQst, ciOf, rcv, oCp, cat1, cond_true, cond_false, Bool.and_self, Bool.and_true, Bool.true_and, Bool.or_true, Bool.true_or, Bool.or_false, Bool.false_or, Bool.not_false, Bool.not_true, ↓reduceIte, Nat.reduceBEq, Nat.reduceEqDiff, beq_self_eq_true, true_and, and_true, eq_self_iff_true, Nat.reduceAdd, Nat.blt, Nat.ble, z_le, z_lt, z_eq, z_cl, z_add, z_sub, z_mul, z_in, z_lt0, z_ofN, z_m1, z_ltm1, z_m1lt, z_eqm1, z_m1eq, z_m1le, z_lem1, z_beq, nI_0_1, nI_m1lt0, nI_0lem1, not_false_eq_true, not_true_eq_false, forall_const, false_implies, true_implies, implies_true, false_and, and_false, mrg, renc, tra, trv, sg, List.map_cons, List.map_nil, Option.map_some, Option.map_none, Option.toList_some, Option.toList_none, List.cons_append, List.nil_append, List.length_cons, List.length_nil, eL, mL_16, pH, pO, hki, t1, hp0]
        have := hret mo (by rw [hMs]; exact hgd) (fun _ _ => rfl) 0 0 (Nat.zero_le _) (Nat.zero_le _)
        rw [hMs] at this
        exact this
    · have t1 : 8 < K i := by omega
      by_cases h13 : 13 ≤ K i
      · have t2 : ¬ K i < 13 := by omega
        have h0 := hk3 (by omega)
        have L := lv_times (D := 2 * (i - 1) + 17) hw hk hg hi h13 (by omega) (ih (i - 1) (by omega) (by omega)) hS
        refine wp_aw (S := fun _ => false) (by decide) 200 _ _ _ _ _ _ ?_
        simp (disch := first | exact rfl | decide | omega) only [u_16_0, u_16_1, u_16_4, u_16_5, u_16_6, u_16_9, u_16_10, u_16_11, u_16_13, u_16_15, u_16_17, u_16_20, u_16_21, u_16_24, u_16_25, u_16_27, u_16_28, u_16_29, u_16_30, u_16_32, u_16_33, u_16_36, u_16_39, u_16_41, u_16_43, u_16_46, u_16_47, u_16_48, u_16_49, u_16_50, u_16_52, u_16_55, u_16_58, u_16_60, u_16_62, u_16_65, u_16_66, u_16_67, u_16_68, u_16_69, u_16_71, u_16_74, u_16_77, u_16_79, u_16_81, u_16_84, u_16_85, u_16_86, u_16_87, u_16_88, u_16_90, u_16_93, wp_stop, lget, lput1, lput2, kil, hget, hset, vget, vset, fget, fgetC, fput, fputC, iget, igetC, jget, jgetC, qget, qgetC, alen, lenC, oI, oJ, oF, oA, oV, oH, oInc, oIld, oJld, oQld, oR, oLen, oIst, oBst, oJst, oQst, ciOf, rcv, oCp, cat1, cond_true, cond_false, Bool.and_self, Bool.and_true, Bool.true_and, Bool.or_true, Bool.true_or, Bool.or_false, Bool.false_or, Bool.not_false, Bool.not_true, ↓reduceIte, Nat.reduceBEq, Nat.reduceEqDiff, beq_self_eq_true, true_and, and_true, eq_self_iff_true, Nat.reduceAdd, Nat.blt, Nat.ble, z_le, z_lt, z_eq, z_cl, z_add, z_sub, z_mul, z_in, z_lt0, z_ofN, z_m1, z_ltm1, z_m1lt, z_eqm1, z_m1eq, z_m1le, z_lem1, z_beq, nI_0_1, nI_m1lt0, nI_0lem1, not_false_eq_true, not_true_eq_false, forall_const, false_implies, true_implies, implies_true, false_and, and_false, mrg, renc, tra, trv, sg, List.map_cons, List.map_nil, Option.map_some, Option.map_none, Option.toList_some, Option.toList_none, List.cons_append, List.nil_append, List.length_cons, List.length_nil, eL, mL_16, pH, pO, hki, t1, t2]
        refine cal_lv L hp hsc hs1 hsf hgd hc (by rw [ggd]; omega) (by rw [ggc, hM]; omega) (by rw [ggs, hM]; omega) ggn ggm rfl (fun mo1 g1 f1 => ?_)
        rw [hM] at g1 ⊢
        simp (disch := first | exact rfl | decide | omega) only [u_16_0, u_16_1, u_16_4, u_16_5, u_16_6, u_16_9, u_16_10, u_16_11, u_16_13, u_16_15, u_16_17, u_16_20, u_16_21, u_16_24, u_16_25, u_16_27, u_16_28, u_16_29, u_16_30, u_16_32, u_16_33, u_16_36, u_16_39, u_16_41, u_16_43, u_16_46, u_16_47, u_16_48, u_16_49, u_16_50, u_16_52, u_16_55, u_16_58, u_16_60, u_16_62, u_16_65, u_16_66, u_16_67, u_16_68, u_16_69, u_16_71, u_16_74, u_16_77, u_16_79, u_16_81, u_16_84, u_16_85, u_16_86, u_16_87, u_16_88, u_16_90, u_16_93, wp_stop, lget, lput1, lput2, kil, hget, hset, vget, vset, fget, fgetC, fput, fputC, iget, igetC, jget, jgetC, qget, qgetC, alen, lenC, oI, oJ, oF, oA, oV, oH, oInc, oIld, oJld, oQld, oR, oLen, oIst, oBst, oJst, oQst, ciOf, rcv, oCp, cat1, cond_true, cond_false, Bool.and_self, Bool.and_true, Bool.true_and, Bool.or_true, Bool.true_or, Bool.or_false, Bool.false_or, Bool.not_false, Bool.not_true, ↓reduceIte, Nat.reduceBEq, Nat.reduceEqDiff, beq_self_eq_true, true_and, and_true, eq_self_iff_true, Nat.reduceAdd, Nat.blt, Nat.ble, z_le, z_lt, z_eq, z_cl, z_add, z_sub, z_mul, z_in, z_lt0, z_ofN, z_m1, z_ltm1, z_m1lt, z_eqm1, z_m1eq, z_m1le, z_lem1, z_beq, nI_0_1, nI_m1lt0, nI_0lem1, not_false_eq_true, not_true_eq_false, forall_const, false_implies, true_implies, implies_true, false_and, and_false, mrg, renc, tra, trv, sg, List.map_cons, List.map_nil, Option.map_some, Option.map_none, Option.toList_some, Option.toList_none, List.cons_append, List.nil_append, List.length_cons, List.length_nil, pH, pO]
        exact hret mo1 g1 f1 _ _ (by omega) (by omega)
      · have t2 : K i < 13 := by omega
        by_cases h9 : K i = 9
        · rw [pmv_emp h9] at hM
          have hMs : M = σ := by rw [← hM]; rfl
          rw [h9] at hki
          refine wp_aw (S := fun _ => false) (by decide) 200 _ _ _ _ _ _ ?_
          simp (disch := first | exact rfl | decide | omega) only [u_16_0, u_16_1, u_16_4, u_16_5, u_16_6, u_16_9, u_16_10, u_16_11, u_16_13, u_16_15, u_16_17, u_16_20, u_16_21, u_16_24, u_16_25, u_16_27, u_16_28, u_16_29, u_16_30, u_16_32, u_16_33, u_16_36, u_16_39, u_16_41, u_16_43, u_16_46, u_16_47, u_16_48, u_16_49, u_16_50, u_16_52, u_16_55, u_16_58, u_16_60, u_16_62, u_16_65, u_16_66, u_16_67, u_16_68, u_16_69, u_16_71, u_16_74, u_16_77, u_16_79, u_16_81, u_16_84, u_16_85, u_16_86, u_16_87, u_16_88, u_16_90, u_16_93, wp_stop, lget, lput1, lput2, kil, hget, hset, vget, vset, fget, fgetC, fput, fputC, iget, igetC, jget, jgetC, qget, qgetC, alen, lenC, oI, oJ, oF, oA, oV, oH, oInc, oIld, oJld, oQld, oR, oLen, oIst, oBst, oJst, oQst, ciOf, rcv, oCp, cat1, cond_true, cond_false, Bool.and_self, Bool.and_true, Bool.true_and, Bool.or_true, Bool.true_or, Bool.or_false, Bool.false_or, Bool.not_false, Bool.not_true, ↓reduceIte, Nat.reduceBEq, Nat.reduceEqDiff, beq_self_eq_true, true_and, and_true, eq_self_iff_true, Nat.reduceAdd, Nat.blt, Nat.ble, z_le, z_lt, z_eq, z_cl, z_add, z_sub, z_mul, z_in, z_lt0, z_ofN, z_m1, z_ltm1, z_m1lt, z_eqm1, z_m1eq, z_m1le, z_lem1, z_beq, nI_0_1, nI_m1lt0, nI_0lem1, not_false_eq_true, not_true_eq_false, forall_const, false_implies, true_implies, implies_true, false_and, and_false, mrg, renc, tra, trv, sg, List.map_cons, List.map_nil, Option.map_some, Option.map_none, Option.toList_some, Option.toList_none, List.cons_append, List.nil_append, List.length_cons, List.length_nil, eL, mL_16, pH, pO, hki, show 8 < 9 by decide, show 9 < 13 by decide, show ¬ 9 = 11 by decide]
          have := hret mo (by rw [hMs]; exact hgd) (fun _ _ => rfl) 0 0 (Nat.zero_le _) (Nat.zero_le _)
          rw [hMs] at this
          exact this
        · obtain ⟨h0, hl1, hl2⟩ := wf_lf hw hi (by omega) (by omega)
          by_cases h11 : K i = 11
          · have L := lv_mix (D := 2 * (i - 1) + 17) (D1 := 2 * lf i + 17) hw hk hg hi h11 (by omega) (ih (lf i) (by omega) (by omega)) (ih (i - 1) (by omega) (by omega)) hS
            rw [h11] at hki
            refine wp_aw (S := fun _ => false) (by decide) 200 _ _ _ _ _ _ ?_
            simp (disch := first | exact rfl | decide | omega) only [u_16_0, u_16_1, u_16_4, u_16_5, u_16_6, u_16_9, u_16_10, u_16_11, u_16_13, u_16_15, u_16_17, u_16_20, u_16_21, u_16_24, u_16_25, u_16_27, u_16_28, u_16_29, u_16_30, u_16_32, u_16_33, u_16_36, u_16_39, u_16_41, u_16_43, u_16_46, u_16_47, u_16_48, u_16_49, u_16_50, u_16_52, u_16_55, u_16_58, u_16_60, u_16_62, u_16_65, u_16_66, u_16_67, u_16_68, u_16_69, u_16_71, u_16_74, u_16_77, u_16_79, u_16_81, u_16_84, u_16_85, u_16_86, u_16_87, u_16_88, u_16_90, u_16_93, wp_stop, lget, lput1, lput2, kil, hget, hset, vget, vset, fget, fgetC, fput, fputC, iget, igetC, jget, jgetC, qget, qgetC, alen, lenC, oI, oJ, oF, oA, oV, oH, oInc, oIld, oJld, oQld, oR, oLen, oIst, oBst, oJst, oQst, ciOf, rcv, oCp, cat1, cond_true, cond_false, Bool.and_self, Bool.and_true, Bool.true_and, Bool.or_true, Bool.true_or, Bool.or_false, Bool.false_or, Bool.not_false, Bool.not_true, ↓reduceIte, Nat.reduceBEq, Nat.reduceEqDiff, beq_self_eq_true, true_and, and_true, eq_self_iff_true, Nat.reduceAdd, Nat.blt, Nat.ble, z_le, z_lt, z_eq, z_cl, z_add, z_sub, z_mul, z_in, z_lt0, z_ofN, z_m1, z_ltm1, z_m1lt, z_eqm1, z_m1eq, z_m1le, z_lem1, z_beq, nI_0_1, nI_m1lt0, nI_0lem1, not_false_eq_true, not_true_eq_false, forall_const, false_implies, true_implies, implies_true, false_and, and_false, mrg, renc, tra, trv, sg, List.map_cons, List.map_nil, Option.map_some, Option.map_none, Option.toList_some, Option.toList_none, List.cons_append, List.nil_append, List.length_cons, List.length_nil, eL, mL_16, pH, pO, hki, show 8 < 11 by decide, show 11 < 13 by decide]
            refine cal_lv L hp hsc hs1 hsf hgd hc (by rw [ggd]; omega) (by rw [ggc, hM]; omega) (by rw [ggs, hM]; omega) ggn ggm rfl (fun mo1 g1 f1 => ?_)
            rw [hM] at g1 ⊢
            simp (disch := first | exact rfl | decide | omega) only [u_16_0, u_16_1, u_16_4, u_16_5, u_16_6, u_16_9, u_16_10, u_16_11, u_16_13, u_16_15, u_16_17, u_16_20, u_16_21, u_16_24, u_16_25, u_16_27, u_16_28, u_16_29, u_16_30, u_16_32, u_16_33, u_16_36, u_16_39, u_16_41, u_16_43, u_16_46, u_16_47, u_16_48, u_16_49, u_16_50, u_16_52, u_16_55, u_16_58, u_16_60, u_16_62, u_16_65, u_16_66, u_16_67, u_16_68, u_16_69, u_16_71, u_16_74, u_16_77, u_16_79, u_16_81, u_16_84, u_16_85, u_16_86, u_16_87, u_16_88, u_16_90, u_16_93, wp_stop, lget, lput1, lput2, kil, hget, hset, vget, vset, fget, fgetC, fput, fputC, iget, igetC, jget, jgetC, qget, qgetC, alen, lenC, oI, oJ, oF, oA, oV, oH, oInc, oIld, oJld, oQld, oR, oLen, oIst, oBst, oJst, oQst, ciOf, rcv, oCp, cat1, cond_true, cond_false, Bool.and_self, Bool.and_true, Bool.true_and, Bool.or_true, Bool.true_or, Bool.or_false, Bool.false_or, Bool.not_false, Bool.not_true, ↓reduceIte, Nat.reduceBEq, Nat.reduceEqDiff, beq_self_eq_true, true_and, and_true, eq_self_iff_true, Nat.reduceAdd, Nat.blt, Nat.ble, z_le, z_lt, z_eq, z_cl, z_add, z_sub, z_mul, z_in, z_lt0, z_ofN, z_m1, z_ltm1, z_m1lt, z_eqm1, z_m1eq, z_m1le, z_lem1, z_beq, nI_0_1, nI_m1lt0, nI_0lem1, not_false_eq_true, not_true_eq_false, forall_const, false_implies, true_implies, implies_true, false_and, and_false, mrg, renc, tra, trv, sg, List.map_cons, List.map_nil, Option.map_some, Option.map_none, Option.toList_some, Option.toList_none, List.cons_append, List.nil_append, List.length_cons, List.length_nil, pH, pO]
            exact hret mo1 g1 f1 _ _ (by omega) (by omega)
          · have L := lv_pair (D := 2 * (i - 1) + 17) (D1 := 2 * lf i + 17) hw hk hg hi (by omega) (by omega) (by omega) (ih (lf i) (by omega) (by omega)) (ih (i - 1) (by omega) (by omega)) hS
            refine wp_aw (S := fun _ => false) (by decide) 200 _ _ _ _ _ _ ?_
            simp (disch := first | exact rfl | decide | omega) only [u_16_0, u_16_1, u_16_4, u_16_5, u_16_6, u_16_9, u_16_10, u_16_11, u_16_13, u_16_15, u_16_17, u_16_20, u_16_21, u_16_24, u_16_25, u_16_27, u_16_28, u_16_29, u_16_30, u_16_32, u_16_33, u_16_36, u_16_39, u_16_41, u_16_43, u_16_46, u_16_47, u_16_48, u_16_49, u_16_50, u_16_52, u_16_55, u_16_58, u_16_60, u_16_62, u_16_65, u_16_66, u_16_67, u_16_68, u_16_69, u_16_71, u_16_74, u_16_77, u_16_79, u_16_81, u_16_84, u_16_85, u_16_86, u_16_87, u_16_88, u_16_90, u_16_93, wp_stop, lget, lput1, lput2, kil, hget, hset, vget, vset, fget, fgetC, fput, fputC, iget, igetC, jget, jgetC, qget, qgetC, alen, lenC, oI, oJ, oF, oA, oV, oH, oInc, oIld, oJld, oQld, oR, oLen, oIst, oBst, oJst, oQst, ciOf, rcv, oCp, cat1, cond_true, cond_false, Bool.and_self, Bool.and_true, Bool.true_and, Bool.or_true, Bool.true_or, Bool.or_false, Bool.false_or, Bool.not_false, Bool.not_true, ↓reduceIte, Nat.reduceBEq, Nat.reduceEqDiff, beq_self_eq_true, true_and, and_true, eq_self_iff_true, Nat.reduceAdd, Nat.blt, Nat.ble, z_le, z_lt, z_eq, z_cl, z_add, z_sub, z_mul, z_in, z_lt0, z_ofN, z_m1, z_ltm1, z_m1lt, z_eqm1, z_m1eq, z_m1le, z_lem1, z_beq, nI_0_1, nI_m1lt0, nI_0lem1, not_false_eq_true, not_true_eq_false, forall_const, false_implies, true_implies, implies_true, false_and, and_false, mrg, renc, tra, trv, sg, List.map_cons, List.map_nil, Option.map_some, Option.map_none, Option.toList_some, Option.toList_none, List.cons_append, List.nil_append, List.length_cons, List.length_nil, eL, mL_16, pH, pO, hki, t1, t2, h11, h9]
            refine cal_lv L hp hsc hs1 hsf hgd hc (by rw [ggd]; omega) (by rw [ggc, hM]; omega) (by rw [ggs, hM]; omega) ggn ggm rfl (fun mo1 g1 f1 => ?_)
            rw [hM] at g1 ⊢
            simp (disch := first | exact rfl | decide | omega) only [u_16_0, u_16_1, u_16_4, u_16_5, u_16_6, u_16_9, u_16_10, u_16_11, u_16_13, u_16_15, u_16_17, u_16_20, u_16_21, u_16_24, u_16_25, u_16_27, u_16_28, u_16_29, u_16_30, u_16_32, u_16_33, u_16_36, u_16_39, u_16_41, u_16_43, u_16_46, u_16_47, u_16_48, u_16_49, u_16_50, u_16_52, u_16_55, u_16_58, u_16_60, u_16_62, u_16_65, u_16_66, u_16_67, u_16_68, u_16_69, u_16_71, u_16_74, u_16_77, u_16_79, u_16_81, u_16_84, u_16_85, u_16_86, u_16_87, u_16_88, u_16_90, u_16_93, wp_stop, lget, lput1, lput2, kil, hget, hset, vget, vset, fget, fgetC, fput, fputC, iget, igetC, jget, jgetC, qget, qgetC, alen, lenC, oI, oJ, oF, oA, oV, oH, oInc, oIld, oJld, oQld, oR, oLen, oIst, oBst, oJst, oQst, ciOf, rcv, oCp, cat1, cond_true, cond_false, Bool.and_self, Bool.and_true, Bool.true_and, Bool.or_true, Bool.true_or, Bool.or_false, Bool.false_or, Bool.not_false, Bool.not_true, ↓reduceIte, Nat.reduceBEq, Nat.reduceEqDiff, beq_self_eq_true, true_and, and_true, eq_self_iff_true, Nat.reduceAdd, Nat.blt, Nat.ble, z_le, z_lt, z_eq, z_cl, z_add, z_sub, z_mul, z_in, z_lt0, z_ofN, z_m1, z_ltm1, z_m1lt, z_eqm1, z_m1eq, z_m1le, z_lem1, z_beq, nI_0_1, nI_m1lt0, nI_0lem1, not_false_eq_true, not_true_eq_false, forall_const, false_implies, true_implies, implies_true, false_and, and_false, mrg, renc, tra, trv, sg, List.map_cons, List.map_nil, Option.map_some, Option.map_none, Option.toList_some, Option.toList_none, List.cons_append, List.nil_append, List.length_cons, List.length_nil, pH, pO]
            exact hret mo1 g1 f1 _ _ (by omega) (by omega)
end LV4
