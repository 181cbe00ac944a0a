/-! Machine: its cells, and what only looks at them -/
/-- a plan's contents -/
abbrev PS : Type := Int32 × Int32 × Int32 × Int32 × Int32 × (Nat → Int32) × (Nat → Int32) × (Nat → Int32) × (Nat → Int32) × (Nat → Int32) × Nat × (Nat → Int32) × Nat × (Nat → Int32) × Nat × (Nat → Int32) × Nat × (Nat → Int32)
abbrev PS.root (P : PS) : Int32 := P.1
abbrev PS.places (P : PS) : Int32 := P.2.1
abbrev PS.sorts (P : PS) : Int32 := P.2.2.1
abbrev PS.mc (P : PS) : Int32 := P.2.2.2.1
abbrev PS.lv (P : PS) : Int32 := P.2.2.2.2.1
abbrev PS.kd (P : PS) : Nat → Int32 := P.2.2.2.2.2.1
abbrev PS.sa (P : PS) : Nat → Int32 := P.2.2.2.2.2.2.1
abbrev PS.la (P : PS) : Nat → Int32 := P.2.2.2.2.2.2.2.1
abbrev PS.sp (P : PS) : Nat → Int32 := P.2.2.2.2.2.2.2.2.1
abbrev PS.sh (P : PS) : Nat → Int32 := P.2.2.2.2.2.2.2.2.2.1
abbrev PS.nt (P : PS) : Nat := P.2.2.2.2.2.2.2.2.2.2.1
abbrev PS.tr (P : PS) : Nat → Int32 := P.2.2.2.2.2.2.2.2.2.2.2.1
abbrev PS.nm (P : PS) : Nat := P.2.2.2.2.2.2.2.2.2.2.2.2.1
abbrev PS.mo (P : PS) : Nat → Int32 := P.2.2.2.2.2.2.2.2.2.2.2.2.2.1
abbrev PS.ns (P : PS) : Nat := P.2.2.2.2.2.2.2.2.2.2.2.2.2.2.1
abbrev PS.ms (P : PS) : Nat → Int32 := P.2.2.2.2.2.2.2.2.2.2.2.2.2.2.2.1
abbrev PS.ne (P : PS) : Nat := P.2.2.2.2.2.2.2.2.2.2.2.2.2.2.2.2.1
abbrev PS.me (P : PS) : Nat → Int32 := P.2.2.2.2.2.2.2.2.2.2.2.2.2.2.2.2.2
/-- a machine's contents -/
abbrev MS : Type := Int64 × Int32 × Int32 × Int32 × Int32 × Nat × (Nat → Int64) × Nat × (Nat → Int32) × Nat × (Nat → Int32) × Nat × (Nat → Int32) × (Nat → Int32) × (Nat → Int64) × (Nat → Int32)
abbrev MS.pat (P : MS) : Int64 := P.1
abbrev MS.words (P : MS) : Int32 := P.2.1
abbrev MS.known (P : MS) : Int32 := P.2.2.1
abbrev MS.ft (P : MS) : Int32 := P.2.2.2.1
abbrev MS.counted (P : MS) : Int32 := P.2.2.2.2.1
abbrev MS.nse (P : MS) : Nat := P.2.2.2.2.2.1
abbrev MS.se (P : MS) : Nat → Int64 := P.2.2.2.2.2.2.1
abbrev MS.nnx (P : MS) : Nat := P.2.2.2.2.2.2.2.1
abbrev MS.nx (P : MS) : Nat → Int32 := P.2.2.2.2.2.2.2.2.1
abbrev MS.ntr (P : MS) : Nat := P.2.2.2.2.2.2.2.2.2.1
abbrev MS.tr (P : MS) : Nat → Int32 := P.2.2.2.2.2.2.2.2.2.2.1
abbrev MS.nol (P : MS) : Nat := P.2.2.2.2.2.2.2.2.2.2.2.1
abbrev MS.ol (P : MS) : Nat → Int32 := P.2.2.2.2.2.2.2.2.2.2.2.2.1
abbrev MS.nw (P : MS) : Nat → Int32 := P.2.2.2.2.2.2.2.2.2.2.2.2.2.1
abbrev MS.fo (P : MS) : Nat → Int64 := P.2.2.2.2.2.2.2.2.2.2.2.2.2.2.1
abbrev MS.co (P : MS) : Nat → Int32 := P.2.2.2.2.2.2.2.2.2.2.2.2.2.2.2
abbrev mO (M : MS) : aC := .inr (2, [.ref 1, .long M.pat, .int M.words, .int M.known, .ref 11, .ref 12, .ref 13, .ref 14, .ref 15, .ref 16, .int M.ft, .ref 17, .int M.counted])
abbrev mPO (P : PS) : aC := .inr (5, [.ref 2, .ref 3, .ref 4, .ref 5, .ref 6, .int P.root, .int P.places, .int P.sorts, .ref 7, .ref 8, .ref 9, .ref 10, .int P.mc, .int P.lv])
/-- a machine's 18 cells: its own, its plan's ten, its seven rows -/
abbrev mH (P : PS) (M : MS) : aH :=
  [mO M, mPO P, .inl (1, 16, .inl P.kd), .inl (1, 16, .inl P.sa), .inl (1, 16, .inl P.la), .inl (1, 16, .inl P.sp), .inl (1, 16, .inl P.sh), .inl (1, P.nt, .inl P.tr), .inl (1, P.nm, .inl P.mo), .inl (1, P.ns, .inl P.ms), .inl (1, P.ne, .inl P.me),
   .inl (2, M.nse, .inr (.inl M.se)), .inl (1, M.nnx, .inl M.nx), .inl (1, M.ntr, .inl M.tr), .inl (1, M.nol, .inl M.ol), .inl (1, 64, .inl M.nw), .inl (2, 4, .inr (.inl M.fo)), .inl (1, 7, .inl M.co)]
set_option maxRecDepth 100000 in
theorem c_traitsOf (d : Nat) (P : PS) (M : MS) (s k : Nat) (hk : M.known = nI k) (hk2 : k ≤ M.ntr) (hk3 : M.ntr < 2 ^ 20) (hs : s < k) :
    aSp d 61 [.ref 0, .int (nI s)] (mH P M) nomv 0 0 (fun r h' => r = some (.int (M.tr s)) ∧ h' = mH P M) := by
  refine sp_of (by decide) (Nat.le_of_ble_eq_true rfl) ?_
  generalize hG : ((d, _, nomv, _, _, _) : aG) = G
  have hret : RET G (some (.int (M.tr s))) (mH P M) 0 0 := by
    subst hG
    exact RET.id ⟨rfl, rfl⟩ (Nat.le_refl _) (Nat.le_refl _)
  clear hG
  have t1 : ¬ k ≤ s := by omega
  have t2 : s < M.ntr := by omega
  have t3 : ¬ s < 0 := by omega
  refine wp_aw (S := fun _ => false) (by decide) 200 _ _ _ _ _ _ ?_
  simp (disch := first | exact rfl | decide | omega) only [u_61_0, u_61_1, u_61_4, u_61_5, u_61_6, u_61_9, u_61_12, u_61_13, u_61_16, u_61_17, u_61_18, u_61_21, u_61_22, wp_stop, lget, lput1, lput2, kil, hget, hset, vget, vset, fget, fgetC, fput, fputC, iget, igetC, jget, jgetC, qget, qgetC, alen, lenC, oI, oJ, oF, oA, oV, oH, oInc, oIld, oJld, oQld, oR, oLen, oIst, oBst, oJst, oQst, ciOf, rcv, oCp, cat1, cond_true, cond_false, Bool.and_self, Bool.and_true, Bool.true_and, Bool.or_true, Bool.true_or, Bool.or_false, Bool.false_or, Bool.not_false, Bool.not_true, ↓reduceIte, Nat.reduceBEq, Nat.reduceEqDiff, beq_self_eq_true, true_and, and_true, eq_self_iff_true, Nat.reduceAdd, Nat.blt, Nat.ble, z_le, z_lt, z_eq, z_cl, z_add, z_sub, z_mul, z_in, z_lt0, z_ofN, z_m1, z_ltm1, z_m1lt, z_eqm1, z_m1eq, z_m1le, z_lem1, z_beq, nI_0_1, nI_m1lt0, nI_0lem1, not_false_eq_true, not_true_eq_false, forall_const, false_implies, true_implies, implies_true, false_and, and_false, mrg, renc, tra, trv, sg, List.map_cons, List.map_nil, Option.map_some, Option.map_none, Option.toList_some, Option.toList_none, List.cons_append, List.nil_append, List.length_cons, List.length_nil, eL, mL_61, mH, mO, hk, t1, t2, t3]
  rw [← hk]
  exact hret
set_option maxRecDepth 100000 in
theorem c_due (d : Nat) (P : PS) (M : MS) (s k : Nat) (hk : M.known = nI k) (hk2 : k ≤ M.ntr) (hk3 : M.ntr < 2 ^ 20) (hs : s < k) :
    aSp (d + 1) 62 [.ref 0, .int (nI s)] (mH P M) nomv 0 0 (fun r h' => r = some (.int (M.tr s &&& nI 255)) ∧ h' = mH P M) := by
  refine sp_of (by decide) (Nat.le_of_ble_eq_true rfl) ?_
  generalize hG : ((d + 1, _, nomv, _, _, _) : aG) = G
  have hret : RET G (some (.int (M.tr s &&& nI 255))) (mH P M) 0 0 := by
    subst hG
    exact RET.id ⟨rfl, rfl⟩ (Nat.le_refl _) (Nat.le_refl _)
  have ggd : gD G = d + 1 := by subst hG; rfl
  have ggn : gN G = 18 := by subst hG; rfl
  have ggc : gC G = 0 := by subst hG; rfl
  have ggs : gS G = 0 := by subst hG; rfl
  clear hG
  refine wp_aw (S := fun _ => false) (by decide) 200 _ _ _ _ _ _ ?_
  simp (disch := first | exact rfl | decide | omega) only [u_62_0, u_62_1, u_62_2, u_62_5, u_62_8, u_62_9, wp_stop, lget, lput1, lput2, kil, hget, hset, vget, vset, fget, fgetC, fput, fputC, iget, igetC, jget, jgetC, qget, qgetC, alen, lenC, oI, oJ, oF, oA, oV, oH, oInc, oIld, oJld, oQld, oR, oLen, oIst, oBst, oJst, oQst, ciOf, rcv, oCp, cat1, cond_true, cond_false, Bool.and_self, Bool.and_true, Bool.true_and, Bool.or_true, Bool.true_or, Bool.or_false, Bool.false_or, Bool.not_false, Bool.not_true, ↓reduceIte, Nat.reduceBEq, Nat.reduceEqDiff, beq_self_eq_true, true_and, and_true, eq_self_iff_true, Nat.reduceAdd, Nat.blt, Nat.ble, z_le, z_lt, z_eq, z_cl, z_add, z_sub, z_mul, z_in, z_lt0, z_ofN, z_m1, z_ltm1, z_m1lt, z_eqm1, z_m1eq, z_m1le, z_lem1, z_beq, nI_0_1, nI_m1lt0, nI_0lem1, not_false_eq_true, not_true_eq_false, forall_const, false_implies, true_implies, implies_true, false_and, and_false, mrg, renc, tra, trv, sg, List.map_cons, List.map_nil, Option.map_some, Option.map_none, Option.toList_some, Option.toList_none, List.cons_append, List.nil_append, List.length_cons, List.length_nil, eL, mL_62, mH, mO]
  refine CAL.dir (c_traitsOf d P M s k hk hk2 hk3 hs) (by rw [ggd]; omega) (by rw [ggc]; omega) (by rw [ggs]; omega) (Nat.le_of_ble_eq_true rfl) (by rw [ggn]; exact Nat.le_refl _) rfl rfl ?_
  rintro _ _ ⟨rfl, rfl⟩
  simp (disch := first | exact rfl | decide | omega) only [u_62_0, u_62_1, u_62_2, u_62_5, u_62_8, u_62_9, wp_stop, lget, lput1, lput2, kil, hget, hset, vget, vset, fget, fgetC, fput, fputC, iget, igetC, jget, jgetC, qget, qgetC, alen, lenC, oI, oJ, oF, oA, oV, oH, oInc, oIld, oJld, oQld, oR, oLen, oIst, oBst, oJst, oQst, ciOf, rcv, oCp, cat1, cond_true, cond_false, Bool.and_self, Bool.and_true, Bool.true_and, Bool.or_true, Bool.true_or, Bool.or_false, Bool.false_or, Bool.not_false, Bool.not_true, ↓reduceIte, Nat.reduceBEq, Nat.reduceEqDiff, beq_self_eq_true, true_and, and_true, eq_self_iff_true, Nat.reduceAdd, Nat.blt, Nat.ble, z_le, z_lt, z_eq, z_cl, z_add, z_sub, z_mul, z_in, z_lt0, z_ofN, z_m1, z_ltm1, z_m1lt, z_eqm1, z_m1eq, z_m1le, z_lem1, z_beq, nI_0_1, nI_m1lt0, nI_0lem1, not_false_eq_true, not_true_eq_false, forall_const, false_implies, true_implies, implies_true, false_and, and_false, mrg, renc, tra, trv, sg, List.map_cons, List.map_nil, Option.map_some, Option.map_none, Option.toList_some, Option.toList_none, List.cons_append, List.nil_append, List.length_cons, List.length_nil]
  exact hret
