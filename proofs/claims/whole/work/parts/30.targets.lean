/-! Plan.shortestRow, Plan.addTargets -/
set_option maxRecDepth 100000 in
theorem c_shortestRow (d : Nat) (K lf : Nat → Nat) (n : Nat) (hw : wfP K lf n) (places sorts mc lv : Int32) (kd sa la sp sh : Nat → Int32) (hg : gdN K lf n sa la sp sh) (nt : Nat) (tr : Nat → Int32) (nm : Nat) (mo : Nat → Int32) (ns : Nat) (ms : Nat → Int32) (ne : Nat) (me : Nat → Int32) :
    aSp (d + 1) 63 [.ref 0] (pH (nI (n - 1)) places sorts mc lv kd sa la sp sh nt tr nm mo ns ms ne me) nomv 0 0 (fun r h' => r = some (.int (nI (psh K lf (n - 1)))) ∧ h' = pH (nI (n - 1)) places sorts mc lv kd sa la sp sh nt tr nm mo ns ms ne me) := by
  have hn := hw.2.1
  have hn0 := hw.1
  have g3 := (hg (n - 1) (by omega)).2.2.1
  have t0 : ¬ n - 1 < 0 := by omega
  refine sp_of (by decide) (Nat.le_of_ble_eq_true rfl) ?_
  generalize hG : ((d + 1, _, nomv, _, _, _) : aG) = G
  have hret : RET G (some (.int (nI (psh K lf (n - 1))))) (pH (nI (n - 1)) places sorts mc lv kd sa la sp sh nt tr nm mo ns ms ne me) 0 0 := by
    subst hG
    exact RET.id ⟨rfl, rfl⟩ (Nat.le_refl _) (Nat.le_refl _)
  clear hG
  refine wp_aw (S := fun _ => false) (by decide) 200 _ _ _ _ _ _ ?_
  simp (disch := first | exact rfl | decide | omega) only [u_63_0, u_63_1, u_63_4, u_63_7, u_63_8, u_63_11, u_63_12, u_63_15, u_63_16, u_63_19, u_63_20, wp_stop, lget, lput1, lput2, kil, hget, hset, vget, vset, fget, fgetC, fput, fputC, iget, igetC, jget, jgetC, qget, qgetC, alen, lenC, oI, oJ, oF, oA, oV, oH, oInc, oIld, oJld, oQld, oR, oLen, oIst, oBst, oJst, oQst, ciOf, rcv, oCp, cat1, cond_true, cond_false, Bool.and_self, Bool.and_true, Bool.true_and, Bool.or_true, Bool.true_or, Bool.or_false, Bool.false_or, Bool.not_false, Bool.not_true, ↓reduceIte, Nat.reduceBEq, Nat.reduceEqDiff, beq_self_eq_true, true_and, and_true, eq_self_iff_true, Nat.reduceAdd, Nat.blt, Nat.ble, z_le, z_lt, z_eq, z_cl, z_add, z_sub, z_mul, z_in, z_lt0, z_ofN, z_m1, z_ltm1, z_m1lt, z_eqm1, z_m1eq, z_m1le, z_lem1, z_beq, nI_0_1, nI_m1lt0, nI_0lem1, not_false_eq_true, not_true_eq_false, forall_const, false_implies, true_implies, implies_true, false_and, and_false, mrg, renc, tra, trv, sg, List.map_cons, List.map_nil, Option.map_some, Option.map_none, Option.toList_some, Option.toList_none, List.cons_append, List.nil_append, List.length_cons, List.length_nil, eL, mL_63, pH, pO, t0, g3]
  exact hret
theorem mc_hi : ∀ s, s < 8 → ∀ t, t < 256 → nI (s * 256 + t) >>> (nI 8 &&& 31) = nI s := by decide +kernel
theorem mc_lo : ∀ s, s < 8 → ∀ t, t < 256 → nI (s * 256 + t) &&& nI 255 = nI t := by decide +kernel
theorem tg_hi : ∀ t, t < 256 → nI t >>> (nI 6 &&& 31) = nI (t / 64) := by decide +kernel
theorem tg_lo : ∀ t, t < 256 → nI t &&& nI 63 = nI (t % 64) := by decide +kernel
/-- the bit of a place in its word -/
def tbit (t : Nat) : Int64 := lN 1 <<< ((nI (t % 64)).toInt64 &&& 63)
/-- one move more: the set, the traits -/
def adS (tr : Nat → Int32) (s : Nat) (z : (Nat → Int64) × Int32) (m : Nat × Nat) : (Nat → Int64) × Int32 := if m.1 = s then (vp_updL z.1 (m.2 / 64) (z.1 (m.2 / 64) ||| tbit m.2), z.2 ||| tr m.2) else z
/-- a plan and a row of longs -/
abbrev pHL (root places sorts mc lv : Int32) (kd sa la sp sh : Nat → Int32) (nt : Nat) (tr : Nat → Int32) (nm : Nat) (mo : Nat → Int32) (ns : Nat) (ms : Nat → Int32) (ne : Nat) (me : Nat → Int32) (w : Nat) (f : Nat → Int64) : aH :=
  [pO root places sorts mc lv, .inl (1, 16, .inl kd), .inl (1, 16, .inl sa), .inl (1, 16, .inl la), .inl (1, 16, .inl sp), .inl (1, 16, .inl sh), .inl (1, nt, .inl tr), .inl (1, nm, .inl mo), .inl (1, ns, .inl ms), .inl (1, ne, .inl me), .inl (2, w, .inr (.inl f))]
set_option maxRecDepth 100000 in
theorem l_addT {G : aG} (root sorts mc lv : Int32) (kd sa la sp sh : Nat → Int32) (S N nm w p s e : Nat) (tr mo ms me : Nat → Int32) (hS : S ≤ 256) (hN : S ≤ N) (hN2 : N < 2 ^ 20) (hp : p < S) (hs : s < 8) (hw : S ≤ 64 * w) (hw4 : w ≤ 4) (hme : me p = nI e) (he : e ≤ nm) (hnm : nm < 2 ^ 21) :
    ∀ (L : List (Nat × Nat)) (b : Nat) (z : (Nat → Int64) × Int32) (v : Option Value), mvOk mo b L → b + L.length = e → (∀ m ∈ L, m.2 < S) → RET G (some (.int (L.foldl (adS tr s) z).2)) (pHL root (nI S) sorts mc lv kd sa la sp sh N tr nm mo N ms N me w (L.foldl (adS tr s) z).1) 0 0 →
    AW 74 G 26 [some (.ref 0), some (.int (nI p)), some (.int (nI s)), some (.ref 10), some (.int z.2), some (.int (nI b)), v] [] (pHL root (nI S) sorts mc lv kd sa la sp sh N tr nm mo N ms N me w z.1) 0 0 := by
  have hpN : p < N := by omega
  intro L
  induction L with
  | nil =>
    intro b z v hmo hb hS2 hP
    have t1 : e ≤ b := by rw [← hb]; exact Nat.le_refl _
    have hb2 : b < 2 ^ 31 := by rw [List.length_nil] at hb; omega
    refine wq_aw (S := fun x => x == 26) (by decide) (f := 200) ?_
    simp (disch := first | exact rfl | decide | omega) only [v_74_26, u_74_0, u_74_1, u_74_3, u_74_4, u_74_7, u_74_8, u_74_9, u_74_12, u_74_15, u_74_17, u_74_18, u_74_19, u_74_22, u_74_23, u_74_24, u_74_26, u_74_28, u_74_29, u_74_32, u_74_33, u_74_34, u_74_37, u_74_38, u_74_41, u_74_43, u_74_44, u_74_47, u_74_48, u_74_50, u_74_51, u_74_54, u_74_56, u_74_57, u_74_59, u_74_60, u_74_61, u_74_64, u_74_66, u_74_67, u_74_70, u_74_73, u_74_75, u_74_77, u_74_78, u_74_79, u_74_80, u_74_83, u_74_84, u_74_86, u_74_88, u_74_89, u_74_90, u_74_91, u_74_92, u_74_94, u_74_96, u_74_97, u_74_98, u_74_99, u_74_100, u_74_102, u_74_103, u_74_106, u_74_108, u_74_109, u_74_110, u_74_112, u_74_115, u_74_118, u_74_120, wp_stop, lget, lput1, lput2, kil, hget, hset, vget, vset, fget, fgetC, fput, fputC, iget, igetC, jget, jgetC, qget, qgetC, alen, lenC, oI, oJ, oF, oA, oV, oH, oInc, oIld, oJld, oQld, oR, oLen, oIst, oBst, oJst, oQst, ciOf, rcv, oCp, cat1, cond_true, cond_false, Bool.and_self, Bool.and_true, Bool.true_and, Bool.or_true, Bool.true_or, Bool.or_false, Bool.false_or, Bool.not_false, Bool.not_true, ↓reduceIte, Nat.reduceBEq, Nat.reduceEqDiff, beq_self_eq_true, true_and, and_true, eq_self_iff_true, Nat.reduceAdd, Nat.blt, Nat.ble, z_le, z_lt, z_eq, z_cl, z_add, z_sub, z_mul, z_in, z_lt0, z_ofN, z_m1, z_ltm1, z_m1lt, z_eqm1, z_m1eq, z_m1le, z_lem1, z_beq, nI_0_1, nI_m1lt0, nI_0lem1, not_false_eq_true, not_true_eq_false, forall_const, false_implies, true_implies, implies_true, false_and, and_false, mrg, renc, tra, trv, sg, List.map_cons, List.map_nil, Option.map_some, Option.map_none, Option.toList_some, Option.toList_none, List.cons_append, List.nil_append, List.length_cons, List.length_nil, pHL, pO, hme, t1]
    exact hP
  | cons m L ih =>
    intro b z v hmo hb hS2 hP
    obtain ⟨x, t⟩ := m
    rw [List.length_cons] at hb
    have t1 : ¬ e ≤ b := by omega
    obtain ⟨q1, q2, q3⟩ := hmo 0 (Nat.succ_pos _)
    have hx : x < 8 := q2
    have ht : t < 256 := q3
    have htS : t < S := hS2 (x, t) (List.mem_cons_self ..)
    have hmb : mo b = nI (x * 256 + t) := q1
    have hmo2 : mvOk mo (b + 1) L := fun j hj => by
      have := hmo (j + 1) (Nat.succ_lt_succ hj)
      rw [show b + (j + 1) = b + 1 + j by omega] at this
      exact this
    have hS3 : ∀ m ∈ L, m.2 < S := fun m hm => hS2 m (List.mem_cons_of_mem _ hm)
    have hbn : b < nm := by omega
    have e3 := tg_hi t ht
    have e4 := tg_lo t ht
    have t2 : ¬ S ≤ t := by omega
    have t3 : ¬ w ≤ t / 64 := by omega
    have t4 : t / 64 < w := by omega
    have t5 : t < N := by omega
    by_cases hm : x = s
    · rw [hm] at hmb
      have e1 := mc_hi s hs t ht
      have e2 := mc_lo s hs t ht
      have hf : List.foldl (adS tr s) z ((x, t) :: L) = List.foldl (adS tr s) (vp_updL z.1 (t / 64) (z.1 (t / 64) ||| tbit t), z.2 ||| tr t) L := by
        rw [List.foldl_cons]
        congr 1
        unfold adS
        rw [if_pos hm]
      rw [hf] at hP
      refine wq_aw (S := fun x => x == 26) (by decide) (f := 200) ?_
      simp (disch := first | exact rfl | decide | omega) only [v_74_26, u_74_0, u_74_1, u_74_3, u_74_4, u_74_7, u_74_8, u_74_9, u_74_12, u_74_15, u_74_17, u_74_18, u_74_19, u_74_22, u_74_23, u_74_24, u_74_26, u_74_28, u_74_29, u_74_32, u_74_33, u_74_34, u_74_37, u_74_38, u_74_41, u_74_43, u_74_44, u_74_47, u_74_48, u_74_50, u_74_51, u_74_54, u_74_56, u_74_57, u_74_59, u_74_60, u_74_61, u_74_64, u_74_66, u_74_67, u_74_70, u_74_73, u_74_75, u_74_77, u_74_78, u_74_79, u_74_80, u_74_83, u_74_84, u_74_86, u_74_88, u_74_89, u_74_90, u_74_91, u_74_92, u_74_94, u_74_96, u_74_97, u_74_98, u_74_99, u_74_100, u_74_102, u_74_103, u_74_106, u_74_108, u_74_109, u_74_110, u_74_112, u_74_115, u_74_118, u_74_120, wp_stop, lget, lput1, lput2, kil, hget, hset, vget, vset, fget, fgetC, fput, fputC, iget, igetC, jget, jgetC, qget, qgetC, alen, lenC, oI, oJ, oF, oA, oV, oH, oInc, oIld, oJld, oQld, oR, oLen, oIst, oBst, oJst, oQst, ciOf, rcv, oCp, cat1, cond_true, cond_false, Bool.and_self, Bool.and_true, Bool.true_and, Bool.or_true, Bool.true_or, Bool.or_false, Bool.false_or, Bool.not_false, Bool.not_true, ↓reduceIte, Nat.reduceBEq, Nat.reduceEqDiff, beq_self_eq_true, true_and, and_true, eq_self_iff_true, Nat.reduceAdd, Nat.blt, Nat.ble, z_le, z_lt, z_eq, z_cl, z_add, z_sub, z_mul, z_in, z_lt0, z_ofN, z_m1, z_ltm1, z_m1lt, z_eqm1, z_m1eq, z_m1le, z_lem1, z_beq, nI_0_1, nI_m1lt0, nI_0lem1, not_false_eq_true, not_true_eq_false, forall_const, false_implies, true_implies, implies_true, false_and, and_false, mrg, renc, tra, trv, sg, List.map_cons, List.map_nil, Option.map_some, Option.map_none, Option.toList_some, Option.toList_none, List.cons_append, List.nil_append, List.length_cons, List.length_nil, pHL, pO, hme, t1, hmb, e1, e2, e3, e4, t2, t3]
      exact ih (b + 1) (vp_updL z.1 (t / 64) (z.1 (t / 64) ||| tbit t), z.2 ||| tr t) _ hmo2 (by omega) hS3 hP
    · have e1 := mc_hi x hx t ht
      have e2 := mc_lo x hx t ht
      have hf : List.foldl (adS tr s) z ((x, t) :: L) = List.foldl (adS tr s) z L := by
        rw [List.foldl_cons]
        congr 1
        unfold adS
        rw [if_neg hm]
      rw [hf] at hP
      refine wq_aw (S := fun x => x == 26) (by decide) (f := 200) ?_
      simp (disch := first | exact rfl | decide | omega) only [v_74_26, u_74_0, u_74_1, u_74_3, u_74_4, u_74_7, u_74_8, u_74_9, u_74_12, u_74_15, u_74_17, u_74_18, u_74_19, u_74_22, u_74_23, u_74_24, u_74_26, u_74_28, u_74_29, u_74_32, u_74_33, u_74_34, u_74_37, u_74_38, u_74_41, u_74_43, u_74_44, u_74_47, u_74_48, u_74_50, u_74_51, u_74_54, u_74_56, u_74_57, u_74_59, u_74_60, u_74_61, u_74_64, u_74_66, u_74_67, u_74_70, u_74_73, u_74_75, u_74_77, u_74_78, u_74_79, u_74_80, u_74_83, u_74_84, u_74_86, u_74_88, u_74_89, u_74_90, u_74_91, u_74_92, u_74_94, u_74_96, u_74_97, u_74_98, u_74_99, u_74_100, u_74_102, u_74_103, u_74_106, u_74_108, u_74_109, u_74_110, u_74_112, u_74_115, u_74_118, u_74_120, wp_stop, lget, lput1, lput2, kil, hget, hset, vget, vset, fget, fgetC, fput, fputC, iget, igetC, jget, jgetC, qget, qgetC, alen, lenC, oI, oJ, oF, oA, oV, oH, oInc, oIld, oJld, oQld, oR, oLen, oIst, oBst, oJst, oQst, ciOf, rcv, oCp, cat1, cond_true, cond_false, Bool.and_self, Bool.and_true, Bool.true_and, Bool.or_true, Bool.true_or, Bool.or_false, Bool.false_or, Bool.not_false, Bool.not_true, ↓reduceIte, Nat.reduceBEq, Nat.reduceEqDiff, beq_self_eq_true, true_and, and_true, eq_self_iff_true, Nat.reduceAdd, Nat.blt, Nat.ble, z_le, z_lt, z_eq, z_cl, z_add, z_sub, z_mul, z_in, z_lt0, z_ofN, z_m1, z_ltm1, z_m1lt, z_eqm1, z_m1eq, z_m1le, z_lem1, z_beq, nI_0_1, nI_m1lt0, nI_0lem1, not_false_eq_true, not_true_eq_false, forall_const, false_implies, true_implies, implies_true, false_and, and_false, mrg, renc, tra, trv, sg, List.map_cons, List.map_nil, Option.map_some, Option.map_none, Option.toList_some, Option.toList_none, List.cons_append, List.nil_append, List.length_cons, List.length_nil, pHL, pO, hme, t1, hmb, e1, e2, hm]
      exact ih (b + 1) z _ hmo2 (by omega) hS3 hP
set_option maxRecDepth 100000 in
theorem c_addTargets (d : Nat) (root sorts mc lv : Int32) (kd sa la sp sh : Nat → Int32) (S N nm w p s a : Nat) (tr mo ms me : Nat → Int32) (f : Nat → Int64) (L : List (Nat × Nat)) (hS : S ≤ 256) (hN : S ≤ N) (hN2 : N < 2 ^ 20) (hp : p < S) (hs : s < 8) (hw : S ≤ 64 * w) (hw4 : w ≤ 4) (hms : ms p = nI a) (hme : me p = nI (a + L.length)) (he : a + L.length ≤ nm) (hnm : nm < 2 ^ 21) (hmo : mvOk mo a L) (hL : ∀ m ∈ L, m.2 < S) :
    aSp (d + 1) 74 [.ref 0, .int (nI p), .int (nI s), .ref 10] (pHL root (nI S) sorts mc lv kd sa la sp sh N tr nm mo N ms N me w f) nomv 0 0
      (fun r h' => r = some (.int (L.foldl (adS tr s) (f, nI 0)).2) ∧ h' = pHL root (nI S) sorts mc lv kd sa la sp sh N tr nm mo N ms N me w (L.foldl (adS tr s) (f, nI 0)).1) := by
  have hpN : p < N := by omega
  have t0 : p < S := hp
  refine sp_of (by decide) (Nat.le_of_ble_eq_true rfl) ?_
  generalize hG : ((d + 1, _, nomv, _, _, _) : aG) = G
  have hret : RET G (some (.int (L.foldl (adS tr s) (f, nI 0)).2)) (pHL root (nI S) sorts mc lv kd sa la sp sh N tr nm mo N ms N me w (L.foldl (adS tr s) (f, nI 0)).1) 0 0 := by
    subst hG
    exact RET.id ⟨rfl, rfl⟩ (Nat.le_refl _) (Nat.le_refl _)
  clear hG
  refine wp_aw (S := fun x => x == 26) (by decide) 200 _ _ _ _ _ _ ?_
  simp (disch := first | exact rfl | decide | omega) only [u_74_0, u_74_1, u_74_3, u_74_4, u_74_7, u_74_8, u_74_9, u_74_12, u_74_15, u_74_17, u_74_18, u_74_19, u_74_22, u_74_23, u_74_24, u_74_26, u_74_28, u_74_29, u_74_32, u_74_33, u_74_34, u_74_37, u_74_38, u_74_41, u_74_43, u_74_44, u_74_47, u_74_48, u_74_50, u_74_51, u_74_54, u_74_56, u_74_57, u_74_59, u_74_60, u_74_61, u_74_64, u_74_66, u_74_67, u_74_70, u_74_73, u_74_75, u_74_77, u_74_78, u_74_79, u_74_80, u_74_83, u_74_84, u_74_86, u_74_88, u_74_89, u_74_90, u_74_91, u_74_92, u_74_94, u_74_96, u_74_97, u_74_98, u_74_99, u_74_100, u_74_102, u_74_103, u_74_106, u_74_108, u_74_109, u_74_110, u_74_112, u_74_115, u_74_118, u_74_120, wp_stop, lget, lput1, lput2, kil, hget, hset, vget, vset, fget, fgetC, fput, fputC, iget, igetC, jget, jgetC, qget, qgetC, alen, lenC, oI, oJ, oF, oA, oV, oH, oInc, oIld, oJld, oQld, oR, oLen, oIst, oBst, oJst, oQst, ciOf, rcv, oCp, cat1, cond_true, cond_false, Bool.and_self, Bool.and_true, Bool.true_and, Bool.or_true, Bool.true_or, Bool.or_false, Bool.false_or, Bool.not_false, Bool.not_true, ↓reduceIte, Nat.reduceBEq, Nat.reduceEqDiff, beq_self_eq_true, true_and, and_true, eq_self_iff_true, Nat.reduceAdd, Nat.blt, Nat.ble, z_le, z_lt, z_eq, z_cl, z_add, z_sub, z_mul, z_in, z_lt0, z_ofN, z_m1, z_ltm1, z_m1lt, z_eqm1, z_m1eq, z_m1le, z_lem1, z_beq, nI_0_1, nI_m1lt0, nI_0lem1, not_false_eq_true, not_true_eq_false, forall_const, false_implies, true_implies, implies_true, false_and, and_false, mrg, renc, tra, trv, sg, List.map_cons, List.map_nil, Option.map_some, Option.map_none, Option.toList_some, Option.toList_none, List.cons_append, List.nil_append, List.length_cons, List.length_nil, eL, mL_74, pHL, pO, t0, hms]
  exact l_addT root sorts mc lv kd sa la sp sh S N nm w p s _ tr mo ms me hS hN hN2 hp hs hw hw4 hme he hnm L a (f, nI 0) none hmo rfl hL hret
