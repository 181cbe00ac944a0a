/-! GrammarReader: nodes, waiting operators -/
abbrev rX (pts : Nat → Int64) (wt : Nat → Int32) (w o nd k : Int32) (pat : Int64) (own ph ord : Int32) : aH := [.inr (1, [.ref 1, .ref 2, .int w, .int o, .int nd, .int k, .long pat, .int own, .int ph, .int ord]), .inl (2, 9, .inr (.inl pts)), .inl (1, 24, .inl wt)]
section RD
variable (pts : Nat → Int64) (wt : Nat → Int32) (w o nd k : Int32) (pat : Int64) (own ph ord : Int32)
set_option maxRecDepth 100000 in
theorem c_countsNode (d n : Nat) (hn : n < 2 ^ 20) : aSp d 44 [.ref 0] (rX pts wt w o (nI n) k pat own ph ord) nomv 0 0 (fun r h' => r = some (.int (bN (decide (n + 1 ≤ 16)))) ∧ h' = rX pts wt w o (nI (n + 1)) k pat own ph ord) := by
  refine sp_of (by decide) (Nat.le_of_ble_eq_true rfl) ?_
  generalize hG : ((d, _, nomv, _, _, _) : aG) = G
  have ggd : gD G = d := by subst hG; rfl
  have ggn : gN G = 3 := by subst hG; rfl
  have ggm : gM G = nomv := by subst hG; rfl
  have ggc : gC G = 0 := by subst hG; rfl
  have ggs : gS G = 0 := by subst hG; rfl
  have hret : RET G (some (.int (bN (decide (n + 1 ≤ 16))))) (rX pts wt w o (nI (n + 1)) k pat own ph ord) 0 0 := by
    subst hG
    exact RET.id ⟨rfl, rfl⟩ (Nat.le_refl _) (Nat.le_refl _)
  clear hG
  by_cases q : n + 1 ≤ 16
  · rw [decide_eq_true q] at hret
    have t1 : ¬ 16 < n + 1 := by omega
    refine wp_aw (S := fun _ => false) (by decide) 200 _ _ _ _ _ _ ?_
    simp (disch := first | exact rfl | decide | omega) only [u_44_0, u_44_1, u_44_2, u_44_5, u_44_6, u_44_7, u_44_10, u_44_11, u_44_14, u_44_16, u_44_19, u_44_20, u_44_23, u_44_24, wp_stop, lget, lput1, lput2, kil, hget, hset, vget, vset, fget, fgetC, fput, fputC, iget, igetC, jget, jgetC, qget, qgetC, alen, lenC, oI, oJ, oF, oA, oV, oH, oInc, oIld, oJld, oQld, oR, oLen, oIst, oBst, oJst, oQst, ciOf, rcv, oCp, cat1, cond_true, cond_false, Bool.and_self, Bool.and_true, Bool.true_and, Bool.or_true, Bool.true_or, Bool.or_false, Bool.false_or, Bool.not_false, Bool.not_true, ↓reduceIte, Nat.reduceBEq, Nat.reduceEqDiff, beq_self_eq_true, true_and, and_true, eq_self_iff_true, Nat.reduceAdd, Nat.blt, Nat.ble, z_le, z_lt, z_eq, z_cl, z_add, z_sub, z_mul, z_in, z_lt0, z_ofN, z_m1, z_ltm1, z_m1lt, z_eqm1, z_m1eq, z_m1le, z_lem1, z_beq, nI_0_1, nI_m1lt0, nI_0lem1, not_false_eq_true, not_true_eq_false, forall_const, false_implies, true_implies, implies_true, false_and, and_false, mrg, renc, tra, trv, sg, List.map_cons, List.map_nil, Option.map_some, Option.map_none, Option.toList_some, Option.toList_none, List.cons_append, List.nil_append, List.length_cons, List.length_nil, eL, mL_44, rX, t1]
    exact hret
  · rw [decide_eq_false q] at hret
    have t1 : 16 < n + 1 := by omega
    refine wp_aw (S := fun _ => false) (by decide) 200 _ _ _ _ _ _ ?_
    simp (disch := first | exact rfl | decide | omega) only [u_44_0, u_44_1, u_44_2, u_44_5, u_44_6, u_44_7, u_44_10, u_44_11, u_44_14, u_44_16, u_44_19, u_44_20, u_44_23, u_44_24, wp_stop, lget, lput1, lput2, kil, hget, hset, vget, vset, fget, fgetC, fput, fputC, iget, igetC, jget, jgetC, qget, qgetC, alen, lenC, oI, oJ, oF, oA, oV, oH, oInc, oIld, oJld, oQld, oR, oLen, oIst, oBst, oJst, oQst, ciOf, rcv, oCp, cat1, cond_true, cond_false, Bool.and_self, Bool.and_true, Bool.true_and, Bool.or_true, Bool.true_or, Bool.or_false, Bool.false_or, Bool.not_false, Bool.not_true, ↓reduceIte, Nat.reduceBEq, Nat.reduceEqDiff, beq_self_eq_true, true_and, and_true, eq_self_iff_true, Nat.reduceAdd, Nat.blt, Nat.ble, z_le, z_lt, z_eq, z_cl, z_add, z_sub, z_mul, z_in, z_lt0, z_ofN, z_m1, z_ltm1, z_m1lt, z_eqm1, z_m1eq, z_m1le, z_lem1, z_beq, nI_0_1, nI_m1lt0, nI_0lem1, not_false_eq_true, not_true_eq_false, forall_const, false_implies, true_implies, implies_true, false_and, and_false, mrg, renc, tra, trv, sg, List.map_cons, List.map_nil, Option.map_some, Option.map_none, Option.toList_some, Option.toList_none, List.cons_append, List.nil_append, List.length_cons, List.length_nil, eL, mL_44, rX, t1]
    exact hret
set_option maxRecDepth 100000 in
theorem c_places (d : Nat) (L : List Nat) (x : Nat) (hL : ∀ y ∈ L, y < 16) (hx : x < 16) (hl : L.length < 16) : aSp d 45 [.ref 0, .int (nI x)] (rX pts wt w o nd (nI L.length) (lN (encN L)) own ph ord) nomv 0 0 (fun r h' => r = some (.int (nI 1)) ∧ h' = rX pts wt w o nd (nI (L ++ [x]).length) (lN (encN (L ++ [x]))) own ph ord) := by
  refine sp_of (by decide) (Nat.le_of_ble_eq_true rfl) ?_
  generalize hG : ((d, _, nomv, _, _, _) : aG) = G
  have ggd : gD G = d := by subst hG; rfl
  have ggn : gN G = 3 := by subst hG; rfl
  have ggm : gM G = nomv := by subst hG; rfl
  have ggc : gC G = 0 := by subst hG; rfl
  have ggs : gS G = 0 := by subst hG; rfl
  have hret : RET G (some (.int (nI 1))) (rX pts wt w o nd (nI (L ++ [x]).length) (lN (encN (L ++ [x]))) own ph ord) 0 0 := by
    subst hG
    exact RET.id ⟨rfl, rfl⟩ (Nat.le_refl _) (Nat.le_refl _)
  clear hG
  have t1 : L.length < 16 := hl
  have e1 := enc_step hL hx hl
  have e2 : (L ++ [x]).length = L.length + 1 := by simp
  rw [e2] at hret
  refine wp_aw (S := fun _ => false) (by decide) 200 _ _ _ _ _ _ ?_
  simp (disch := first | exact rfl | decide | omega) only [u_45_0, u_45_1, u_45_4, u_45_6, u_45_9, u_45_10, u_45_11, u_45_12, u_45_13, u_45_16, u_45_17, u_45_18, u_45_19, u_45_20, u_45_23, u_45_24, u_45_25, u_45_26, u_45_29, u_45_30, u_45_31, u_45_34, u_45_35, u_45_36, u_45_39, u_45_40, wp_stop, lget, lput1, lput2, kil, hget, hset, vget, vset, fget, fgetC, fput, fputC, iget, igetC, jget, jgetC, qget, qgetC, alen, lenC, oI, oJ, oF, oA, oV, oH, oInc, oIld, oJld, oQld, oR, oLen, oIst, oBst, oJst, oQst, ciOf, rcv, oCp, cat1, cond_true, cond_false, Bool.and_self, Bool.and_true, Bool.true_and, Bool.or_true, Bool.true_or, Bool.or_false, Bool.false_or, Bool.not_false, Bool.not_true, ↓reduceIte, Nat.reduceBEq, Nat.reduceEqDiff, beq_self_eq_true, true_and, and_true, eq_self_iff_true, Nat.reduceAdd, Nat.blt, Nat.ble, z_le, z_lt, z_eq, z_cl, z_add, z_sub, z_mul, z_in, z_lt0, z_ofN, z_m1, z_ltm1, z_m1lt, z_eqm1, z_m1eq, z_m1le, z_lem1, z_beq, nI_0_1, nI_m1lt0, nI_0lem1, not_false_eq_true, not_true_eq_false, forall_const, false_implies, true_implies, implies_true, false_and, and_false, mrg, renc, tra, trv, sg, List.map_cons, List.map_nil, Option.map_some, Option.map_none, Option.toList_some, Option.toList_none, List.cons_append, List.nil_append, List.length_cons, List.length_nil, eL, mL_45, rX, t1, e1]
  exact hret
set_option maxRecDepth 100000 in
theorem c_waitsFor (d n : Nat) (x : Int32) (hn : n < 24) : aSp d 43 [.ref 0, .int x] (rX pts wt (nI n) o nd k pat own ph ord) nomv 0 0 (fun r h' => r = some (.int (nI 1)) ∧ h' = rX pts (upd wt n x) (nI (n + 1)) o nd k pat own ph ord) := by
  refine sp_of (by decide) (Nat.le_of_ble_eq_true rfl) ?_
  generalize hG : ((d, _, nomv, _, _, _) : aG) = G
  have ggd : gD G = d := by subst hG; rfl
  have ggn : gN G = 3 := by subst hG; rfl
  have ggm : gM G = nomv := by subst hG; rfl
  have ggc : gC G = 0 := by subst hG; rfl
  have ggs : gS G = 0 := by subst hG; rfl
  have hret : RET G (some (.int (nI 1))) (rX pts (upd wt n x) (nI (n + 1)) o nd k pat own ph ord) 0 0 := by
    subst hG
    exact RET.id ⟨rfl, rfl⟩ (Nat.le_refl _) (Nat.le_refl _)
  clear hG
  have t1 : ¬ n < 0 := by omega
  have t2 : n < 24 := hn
  refine wp_aw (S := fun _ => false) (by decide) 200 _ _ _ _ _ _ ?_
  simp (disch := first | exact rfl | decide | omega) only [u_43_0, u_43_1, u_43_4, u_43_7, u_43_8, u_43_11, u_43_12, u_43_15, u_43_16, u_43_19, u_43_20, u_43_21, u_43_22, u_43_25, u_43_26, u_43_29, u_43_30, u_43_31, u_43_32, u_43_33, u_43_36, u_43_37, u_43_38, u_43_41, u_43_42, wp_stop, lget, lput1, lput2, kil, hget, hset, vget, vset, fget, fgetC, fput, fputC, iget, igetC, jget, jgetC, qget, qgetC, alen, lenC, oI, oJ, oF, oA, oV, oH, oInc, oIld, oJld, oQld, oR, oLen, oIst, oBst, oJst, oQst, ciOf, rcv, oCp, cat1, cond_true, cond_false, Bool.and_self, Bool.and_true, Bool.true_and, Bool.or_true, Bool.true_or, Bool.or_false, Bool.false_or, Bool.not_false, Bool.not_true, ↓reduceIte, Nat.reduceBEq, Nat.reduceEqDiff, beq_self_eq_true, true_and, and_true, eq_self_iff_true, Nat.reduceAdd, Nat.blt, Nat.ble, z_le, z_lt, z_eq, z_cl, z_add, z_sub, z_mul, z_in, z_lt0, z_ofN, z_m1, z_ltm1, z_m1lt, z_eqm1, z_m1eq, z_m1le, z_lem1, z_beq, nI_0_1, nI_m1lt0, nI_0lem1, not_false_eq_true, not_true_eq_false, forall_const, false_implies, true_implies, implies_true, false_and, and_false, mrg, renc, tra, trv, sg, List.map_cons, List.map_nil, Option.map_some, Option.map_none, Option.toList_some, Option.toList_none, List.cons_append, List.nil_append, List.length_cons, List.length_nil, eL, mL_43, rX, t1, t2]
  exact hret
/-- operators that wait, the newest first, as they stand in the row -/
def wtR (wt : Nat → Int32) : List Nat → Prop
  | [] => True
  | t :: W => wt W.length = nI t ∧ wtR wt W
theorem wtR_push {wt : Nat → Int32} {n : Nat} {x : Int32} : ∀ {W : List Nat}, W.length ≤ n → wtR wt W → wtR (upd wt n x) W
  | [], _, _ => trivial
  | t :: W, h, q => by
    rw [List.length_cons] at h
    exact ⟨by rw [upd_n (by omega)]; exact q.1, wtR_push (by omega) q.2⟩
/-- the newest ones are placed, down to the first that binds less -/
def popW (op : Nat) : List Nat → List Nat → List Nat × List Nat
  | [], L => ([], L)
  | t :: W, L => if op ≤ t then popW op W (L ++ [t]) else (t :: W, L)
/-- operators among those that wait; brackets -/
def nzW (W : List Nat) : Nat := (W.filter (fun t => !(t == 0))).length
theorem nzW_c (t : Nat) (W : List Nat) : nzW (t :: W) = (if t = 0 then 0 else 1) + nzW W := by
  unfold nzW
  rw [List.filter_cons]
  by_cases q : t = 0
  · subst q
    simp
  · have : (!(t == 0)) = true := by simp [q]
    rw [if_pos this, if_neg q, List.length_cons]
    omega
set_option maxRecDepth 100000 in
theorem l_place {G : aG} (op : Nat) (hop : 1 ≤ op) (hop2 : op < 16) (hd : 1 ≤ gD G) (ggn : gN G = 3) : ∀ (W L : List Nat), W.length ≤ 24 → (∀ y ∈ L, y < 16) → (∀ y ∈ W, y < 16) → L.length + nzW W ≤ 16 → wtR wt W →
    RET G none (rX pts wt (nI (popW op W L).1.length) o nd (nI (popW op W L).2.length) (lN (encN (popW op W L).2)) own ph ord) 0 0 →
    AW 48 G 0 [some (.ref 0), some (.int (nI op))] [] (rX pts wt (nI W.length) o nd (nI L.length) (lN (encN L)) own ph ord) 0 0 := by
  intro W
  induction W with
  | nil =>
    intro L h1 h2 h3 h4 h5 hret
    have t1 : (0 : Nat) ≤ 0 := Nat.le_refl _
    refine wq_aw (S := fun x => x == 0) (by decide) (f := 200) ?_
    simp (disch := first | exact rfl | decide | omega) only [v_48_0, u_48_0, u_48_1, u_48_4, u_48_7, u_48_8, u_48_11, u_48_12, u_48_15, u_48_16, u_48_19, u_48_20, u_48_23, u_48_24, u_48_27, u_48_28, u_48_29, u_48_30, u_48_31, u_48_34, u_48_35, u_48_36, u_48_39, u_48_40, u_48_41, u_48_44, u_48_45, u_48_46, u_48_49, u_48_50, u_48_53, u_48_54, u_48_57, u_48_58, u_48_61, wp_stop, lget, lput1, lput2, kil, hget, hset, vget, vset, fget, fgetC, fput, fputC, iget, igetC, jget, jgetC, qget, qgetC, alen, lenC, oI, oJ, oF, oA, oV, oH, oInc, oIld, oJld, oQld, oR, oLen, oIst, oBst, oJst, oQst, ciOf, rcv, oCp, cat1, cond_true, cond_false, Bool.and_self, Bool.and_true, Bool.true_and, Bool.or_true, Bool.true_or, Bool.or_false, Bool.false_or, Bool.not_false, Bool.not_true, ↓reduceIte, Nat.reduceBEq, Nat.reduceEqDiff, beq_self_eq_true, true_and, and_true, eq_self_iff_true, Nat.reduceAdd, Nat.blt, Nat.ble, z_le, z_lt, z_eq, z_cl, z_add, z_sub, z_mul, z_in, z_lt0, z_ofN, z_m1, z_ltm1, z_m1lt, z_eqm1, z_m1eq, z_m1le, z_lem1, z_beq, nI_0_1, nI_m1lt0, nI_0lem1, not_false_eq_true, not_true_eq_false, forall_const, false_implies, true_implies, implies_true, false_and, and_false, mrg, renc, tra, trv, sg, List.map_cons, List.map_nil, Option.map_some, Option.map_none, Option.toList_some, Option.toList_none, List.cons_append, List.nil_append, List.length_cons, List.length_nil, rX, t1]
    exact hret
  | cons t W ih =>
    intro L h1 h2 h3 h4 h5 hret
    rw [List.length_cons] at h1
    rw [nzW_c] at h4
    have t1 : ¬ W.length + 1 ≤ 0 := by omega
    have t2 : ¬ 24 < W.length + 1 := by omega
    have t3 : W.length + 1 - 1 = W.length := by omega
    have ht := h3 t (List.mem_cons_self ..)
    have e1 := h5.1
    unfold popW at hret
    by_cases q : op ≤ t
    · rw [if_pos q] at hret
      rw [if_neg (by omega)] at h4
      have t4 : ¬ t < op := by omega
      have h6 := ih (L ++ [t]) (by omega) (fun y hy => by
        rcases List.mem_append.mp hy with z | z
        · exact h2 y z
        · rw [List.mem_singleton.mp z]
          exact ht) (fun y hy => h3 y (List.mem_cons_of_mem _ hy)) (by rw [List.length_append, List.length_singleton]; omega) h5.2 hret
      have t5 : 0 < W.length + 1 := by omega
      refine wq_aw (S := fun x => x == 0) (by decide) (f := 200) ?_
      simp (disch := first | exact rfl | decide | omega) only [v_48_0, u_48_0, u_48_1, u_48_4, u_48_7, u_48_8, u_48_11, u_48_12, u_48_15, u_48_16, u_48_19, u_48_20, u_48_23, u_48_24, u_48_27, u_48_28, u_48_29, u_48_30, u_48_31, u_48_34, u_48_35, u_48_36, u_48_39, u_48_40, u_48_41, u_48_44, u_48_45, u_48_46, u_48_49, u_48_50, u_48_53, u_48_54, u_48_57, u_48_58, u_48_61, wp_stop, lget, lput1, lput2, kil, hget, hset, vget, vset, fget, fgetC, fput, fputC, iget, igetC, jget, jgetC, qget, qgetC, alen, lenC, oI, oJ, oF, oA, oV, oH, oInc, oIld, oJld, oQld, oR, oLen, oIst, oBst, oJst, oQst, ciOf, rcv, oCp, cat1, cond_true, cond_false, Bool.and_self, Bool.and_true, Bool.true_and, Bool.or_true, Bool.true_or, Bool.or_false, Bool.false_or, Bool.not_false, Bool.not_true, ↓reduceIte, Nat.reduceBEq, Nat.reduceEqDiff, beq_self_eq_true, true_and, and_true, eq_self_iff_true, Nat.reduceAdd, Nat.blt, Nat.ble, z_le, z_lt, z_eq, z_cl, z_add, z_sub, z_mul, z_in, z_lt0, z_ofN, z_m1, z_ltm1, z_m1lt, z_eqm1, z_m1eq, z_m1le, z_lem1, z_beq, nI_0_1, nI_m1lt0, nI_0lem1, not_false_eq_true, not_true_eq_false, forall_const, false_implies, true_implies, implies_true, false_and, and_false, mrg, renc, tra, trv, sg, List.map_cons, List.map_nil, Option.map_some, Option.map_none, Option.toList_some, Option.toList_none, List.cons_append, List.nil_append, List.length_cons, List.length_nil, rX, t1, t2, t3, e1, t4]
      refine CAL.dir (c_places pts wt (nI W.length) o nd own ph ord 0 L t h2 ht (by omega)) hd (Nat.zero_le _) (Nat.zero_le _) (Nat.le_of_ble_eq_true rfl) (by rw [ggn]; exact Nat.le_of_ble_eq_true rfl) rfl rfl ?_
      rintro _ _ ⟨rfl, rfl⟩
      simp (disch := first | exact rfl | decide | omega) only [u_48_0, u_48_1, u_48_4, u_48_7, u_48_8, u_48_11, u_48_12, u_48_15, u_48_16, u_48_19, u_48_20, u_48_23, u_48_24, u_48_27, u_48_28, u_48_29, u_48_30, u_48_31, u_48_34, u_48_35, u_48_36, u_48_39, u_48_40, u_48_41, u_48_44, u_48_45, u_48_46, u_48_49, u_48_50, u_48_53, u_48_54, u_48_57, u_48_58, u_48_61, wp_stop, lget, lput1, lput2, kil, hget, hset, vget, vset, fget, fgetC, fput, fputC, iget, igetC, jget, jgetC, qget, qgetC, alen, lenC, oI, oJ, oF, oA, oV, oH, oInc, oIld, oJld, oQld, oR, oLen, oIst, oBst, oJst, oQst, ciOf, rcv, oCp, cat1, cond_true, cond_false, Bool.and_self, Bool.and_true, Bool.true_and, Bool.or_true, Bool.true_or, Bool.or_false, Bool.false_or, Bool.not_false, Bool.not_true, ↓reduceIte, Nat.reduceBEq, Nat.reduceEqDiff, beq_self_eq_true, true_and, and_true, eq_self_iff_true, Nat.reduceAdd, Nat.blt, Nat.ble, z_le, z_lt, z_eq, z_cl, z_add, z_sub, z_mul, z_in, z_lt0, z_ofN, z_m1, z_ltm1, z_m1lt, z_eqm1, z_m1eq, z_m1le, z_lem1, z_beq, nI_0_1, nI_m1lt0, nI_0lem1, not_false_eq_true, not_true_eq_false, forall_const, false_implies, true_implies, implies_true, false_and, and_false, mrg, renc, tra, trv, sg, List.map_cons, List.map_nil, Option.map_some, Option.map_none, Option.toList_some, Option.toList_none, List.cons_append, List.nil_append, List.length_cons, List.length_nil]
      exact h6
    · rw [if_neg q] at hret
      have t4 : t < op := by omega
      refine wq_aw (S := fun x => x == 0) (by decide) (f := 200) ?_
      simp (disch := first | exact rfl | decide | omega) only [v_48_0, u_48_0, u_48_1, u_48_4, u_48_7, u_48_8, u_48_11, u_48_12, u_48_15, u_48_16, u_48_19, u_48_20, u_48_23, u_48_24, u_48_27, u_48_28, u_48_29, u_48_30, u_48_31, u_48_34, u_48_35, u_48_36, u_48_39, u_48_40, u_48_41, u_48_44, u_48_45, u_48_46, u_48_49, u_48_50, u_48_53, u_48_54, u_48_57, u_48_58, u_48_61, wp_stop, lget, lput1, lput2, kil, hget, hset, vget, vset, fget, fgetC, fput, fputC, iget, igetC, jget, jgetC, qget, qgetC, alen, lenC, oI, oJ, oF, oA, oV, oH, oInc, oIld, oJld, oQld, oR, oLen, oIst, oBst, oJst, oQst, ciOf, rcv, oCp, cat1, cond_true, cond_false, Bool.and_self, Bool.and_true, Bool.true_and, Bool.or_true, Bool.true_or, Bool.or_false, Bool.false_or, Bool.not_false, Bool.not_true, ↓reduceIte, Nat.reduceBEq, Nat.reduceEqDiff, beq_self_eq_true, true_and, and_true, eq_self_iff_true, Nat.reduceAdd, Nat.blt, Nat.ble, z_le, z_lt, z_eq, z_cl, z_add, z_sub, z_mul, z_in, z_lt0, z_ofN, z_m1, z_ltm1, z_m1lt, z_eqm1, z_m1eq, z_m1le, z_lem1, z_beq, nI_0_1, nI_m1lt0, nI_0lem1, not_false_eq_true, not_true_eq_false, forall_const, false_implies, true_implies, implies_true, false_and, and_false, mrg, renc, tra, trv, sg, List.map_cons, List.map_nil, Option.map_some, Option.map_none, Option.toList_some, Option.toList_none, List.cons_append, List.nil_append, List.length_cons, List.length_nil, rX, t1, t2, t3, e1, t4]
      exact hret
set_option maxRecDepth 100000 in
theorem c_placeWaiting (d op : Nat) (hop : 1 ≤ op) (hop2 : op < 16) (W L : List Nat) (h1 : W.length ≤ 24) (h2 : ∀ y ∈ L, y < 16) (h3 : ∀ y ∈ W, y < 16) (h4 : L.length + nzW W ≤ 16) (h5 : wtR wt W) : aSp (d + 1) 48 [.ref 0, .int (nI op)] (rX pts wt (nI W.length) o nd (nI L.length) (lN (encN L)) own ph ord) nomv 0 0 (fun r h' => r = none ∧ h' = rX pts wt (nI (popW op W L).1.length) o nd (nI (popW op W L).2.length) (lN (encN (popW op W L).2)) own ph ord) := by
  refine sp_of (by decide) (Nat.le_of_ble_eq_true rfl) ?_
  generalize hG : ((d + 1, _, nomv, _, _, _) : aG) = G
  have ggd : gD G = d + 1 := by subst hG; rfl
  have ggn : gN G = 3 := by subst hG; rfl
  have ggm : gM G = nomv := by subst hG; rfl
  have ggc : gC G = 0 := by subst hG; rfl
  have ggs : gS G = 0 := by subst hG; rfl
  have hret : RET G none (rX pts wt (nI (popW op W L).1.length) o nd (nI (popW op W L).2.length) (lN (encN (popW op W L).2)) own ph ord) 0 0 := by
    subst hG
    exact RET.id ⟨rfl, rfl⟩ (Nat.le_refl _) (Nat.le_refl _)
  clear hG
  have h := l_place pts wt o nd own ph ord op hop hop2 (by omega) ggn W L h1 h2 h3 h4 h5 hret
  exact h
end RD
