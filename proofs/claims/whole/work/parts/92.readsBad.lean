/-! ResidualJudge.reads, a text with a fault -/
set_option maxRecDepth 100000 in
theorem c_rdBad (d : Nat) (J : jS) (PM : Nat → PS × MS) (a : Int32) (t1 : ¬ (-10 : Int32) < a) (hk : aSp (d + 5) 37 [.ref 20, .ref 1, .ref 4] (jH J PM) nomv 0 0 (fun r h' => r = some (.int a) ∧ ∃ rd : jR, h' = jH (J.1, J.2.1, J.2.2.1, J.2.2.2.1, rd, J.2.2.2.2.2) PM)) :
    aSp (d + 6) 36 [.ref 0] (jH J PM) jv 0 0 (fun r h' => r = some (.int a) ∧ ∃ rd : jR, h' = jH (J.1, J.2.1, J.2.2.1, J.2.2.2.1, rd, J.2.2.2.2.2) PM) := by
  refine sp_of (by decide) (Nat.le_of_ble_eq_true rfl) ?_
  generalize hG2 : ((d + 6, _, jv, _, _, _) : aG) = G
  have ggd : gD G = d + 6 := by subst hG2; rfl
  have ggn : gN G = 193 := by subst hG2; exact jH_len _ PM
  have hret : ∀ rd : jR, RET G (some (.int a)) (jH (J.1, J.2.1, J.2.2.1, J.2.2.2.1, rd, J.2.2.2.2.2) PM) (0 + 0) (0 + 0) := by
    subst hG2
    exact fun rd => RET.id ⟨rfl, rd, rfl⟩ (Nat.le_refl _) (Nat.le_refl _)
  clear hG2
  refine wp_aw (S := fun _ => false) (by decide) 200 _ _ _ _ _ _ ?_
  simp (disch := first | exact rfl | decide | omega) only [u_36_0, u_36_1, u_36_4, u_36_5, u_36_8, u_36_9, u_36_12, u_36_15, u_36_18, u_36_19, u_36_20, u_36_22, u_36_25, u_36_26, u_36_27, u_36_28, u_36_31, u_36_32, u_36_35, u_36_38, u_36_39, u_36_42, u_36_45, u_36_46, u_36_47, u_36_50, u_36_53, u_36_54, u_36_56, u_36_59, u_36_60, u_36_63, u_36_65, u_36_68, u_36_69, u_36_72, u_36_73, u_36_76, u_36_79, u_36_82, u_36_83, wp_stop, lget, lput1, lput2, kil, hget, hset, vget, vset, fget, fgetC, fput, fputC, iget, igetC, jget, jgetC, qget, qgetC, alen, lenC, oI, oJ, oF, oA, oV, oH, oInc, oIld, oJld, oQld, oR, oLen, oIst, oBst, oJst, oQst, ciOf, rcv, oCp, cat1, cond_true, cond_false, Bool.and_self, Bool.and_true, Bool.true_and, Bool.or_true, Bool.true_or, Bool.or_false, Bool.false_or, Bool.not_false, Bool.not_true, ↓reduceIte, Nat.reduceBEq, Nat.reduceEqDiff, beq_self_eq_true, true_and, and_true, eq_self_iff_true, Nat.reduceAdd, Nat.blt, Nat.ble, z_le, z_lt, z_eq, z_cl, z_add, z_sub, z_mul, z_in, z_lt0, z_ofN, z_m1, z_ltm1, z_m1lt, z_eqm1, z_m1eq, z_m1le, z_lem1, z_beq, nI_0_1, nI_m1lt0, nI_0lem1, not_false_eq_true, not_true_eq_false, forall_const, false_implies, true_implies, implies_true, false_and, and_false, mrg, renc, tra, trv, sg, List.map_cons, List.map_nil, Option.map_some, Option.map_none, Option.toList_some, Option.toList_none, List.cons_append, List.nil_append, List.length_cons, List.length_nil, eL, mL_36, jH, jF]
  refine CAL.dir hk (by rw [ggd]; omega) (Nat.zero_le _) (Nat.zero_le _) (Nat.le_of_ble_eq_true rfl) (by rw [ggn]; exact Nat.le_of_ble_eq_true rfl) rfl rfl ?_
  rintro _ _ ⟨rfl, rd, rfl⟩
  have hf := hret rd
  clear hret
  simp (disch := first | exact rfl | decide | omega) only [u_36_0, u_36_1, u_36_4, u_36_5, u_36_8, u_36_9, u_36_12, u_36_15, u_36_18, u_36_19, u_36_20, u_36_22, u_36_25, u_36_26, u_36_27, u_36_28, u_36_31, u_36_32, u_36_35, u_36_38, u_36_39, u_36_42, u_36_45, u_36_46, u_36_47, u_36_50, u_36_53, u_36_54, u_36_56, u_36_59, u_36_60, u_36_63, u_36_65, u_36_68, u_36_69, u_36_72, u_36_73, u_36_76, u_36_79, u_36_82, u_36_83, wp_stop, lget, lput1, lput2, kil, hget, hset, vget, vset, fget, fgetC, fput, fputC, iget, igetC, jget, jgetC, qget, qgetC, alen, lenC, oI, oJ, oF, oA, oV, oH, oInc, oIld, oJld, oQld, oR, oLen, oIst, oBst, oJst, oQst, ciOf, rcv, oCp, cat1, cond_true, cond_false, Bool.and_self, Bool.and_true, Bool.true_and, Bool.or_true, Bool.true_or, Bool.or_false, Bool.false_or, Bool.not_false, Bool.not_true, ↓reduceIte, Nat.reduceBEq, Nat.reduceEqDiff, beq_self_eq_true, true_and, and_true, eq_self_iff_true, Nat.reduceAdd, Nat.blt, Nat.ble, z_le, z_lt, z_eq, z_cl, z_add, z_sub, z_mul, z_in, z_lt0, z_ofN, z_m1, z_ltm1, z_m1lt, z_eqm1, z_m1eq, z_m1le, z_lem1, z_beq, nI_0_1, nI_m1lt0, nI_0lem1, not_false_eq_true, not_true_eq_false, forall_const, false_implies, true_implies, implies_true, false_and, and_false, mrg, renc, tra, trv, sg, List.map_cons, List.map_nil, Option.map_some, Option.map_none, Option.toList_some, Option.toList_none, List.cons_append, List.nil_append, List.length_cons, List.length_nil, t1]
  exact hf
theorem c_readsBad (d len : Nat) (T : List Nat) (J : jS) (PM : Nat → PS × MS) (Gr : Nat → List Nat) (e : J.2.1.1 = nI len) (hT : txR J.2.1.2 T) (hl : T.length = len) (hl2 : len ≤ 150) (hG : ∀ x, x < 9 → J.2.2.1.1 x = lN (encN (Gr x))) (i : Nat) (hi : i ≤ 150) (hf : rdW (rdL (0, 0, [], 0, 0, [], Gr, 0) T 0) len = some i) :
    aSp (d + 6) 36 [.ref 0] (jH J PM) jv 0 0 (fun r h' => r = some (.int (-10 - nI i)) ∧ ∃ rd : jR, h' = jH (J.1, J.2.1, J.2.2.1, J.2.2.2.1, rd, J.2.2.2.2.2) PM) := by
  have hk := J_read d len T J PM Gr e hT hl hl2 hG
  have t1 := m10_le i (by omega)
  refine c_rdBad d J PM _ t1 (sp_weaken hk ?_)
  intro r h' hq
  generalize rdL (0, 0, [], 0, 0, [], Gr, 0) T 0 = q at *
  cases q with
  | inl j =>
    have hj : j = i := Option.some.inj hf
    rw [← hj]
    exact hq
  | inr σ =>
    obtain ⟨h1, pts, wt, w, o, nd, k, pat, own, -, h2⟩ := hq
    unfold rdW at hf
    simp only at hf
    by_cases qc : σ.ph = 0 ∧ 0 < σ.ord
    · rw [if_pos qc] at hf
      exact absurd hf (by simp)
    · rw [if_neg qc] at hf h1
      rw [Option.some.inj hf] at h1
      exact ⟨h1, _, h2⟩
