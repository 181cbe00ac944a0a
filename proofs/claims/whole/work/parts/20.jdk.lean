/-! the JDK's methods -/
theorem c_min (d : Nat) (x y : Int32) (h : aH) : aSp d 12 [.int x, .int y] h nomv 0 0 (fun r h' => r = some (.int (if x ≤ y then x else y)) ∧ h' = h) := by
  refine sp_of (by decide) (Nat.le_of_ble_eq_true rfl) ?_
  refine wp_aw (S := fun _ => false) (by decide) 1000 _ _ _ _ _ _ ?_
  simp only [u_12_0, u_12_1, u_12_2, u_12_5, u_12_6, u_12_9, u_12_10, lget, lput1, lput2, kil, hget, hset, vget, vset, fget, fgetC, fput, fputC, iget, igetC, jget, jgetC, qget, qgetC, alen, lenC, oI, oJ, oF, oA, oV, oH, oInc, oIld, oJld, oQld, oR, oLen, oIst, oBst, oJst, oQst, ciOf, rcv, oCp, cat1, cond_true, cond_false, Bool.and_self, Bool.and_true, Bool.true_and, Bool.or_true, Bool.true_or, Bool.or_false, Bool.false_or, Bool.not_false, Bool.not_true, ↓reduceIte, Nat.reduceBEq, Nat.reduceEqDiff, beq_self_eq_true, true_and, and_true, eq_self_iff_true, Nat.reduceAdd, Nat.blt, Nat.ble, eL, mL_12]
  split
  next c => exact RET.id ⟨by rw [if_neg (Int32.not_le.mpr c)], rfl⟩ (Nat.le_refl _) (Nat.le_refl _)
  next c => exact RET.id ⟨by rw [if_pos (Int32.not_lt.mp c)], rfl⟩ (Nat.le_refl _) (Nat.le_refl _)
theorem c_max (d : Nat) (x y : Int32) (h : aH) : aSp d 22 [.int x, .int y] h nomv 0 0 (fun r h' => r = some (.int (if x < y then y else x)) ∧ h' = h) := by
  refine sp_of (by decide) (Nat.le_of_ble_eq_true rfl) ?_
  refine wp_aw (S := fun _ => false) (by decide) 1000 _ _ _ _ _ _ ?_
  simp only [u_22_0, u_22_1, u_22_2, u_22_5, u_22_6, u_22_9, u_22_10, lget, lput1, lput2, kil, hget, hset, vget, vset, fget, fgetC, fput, fputC, iget, igetC, jget, jgetC, qget, qgetC, alen, lenC, oI, oJ, oF, oA, oV, oH, oInc, oIld, oJld, oQld, oR, oLen, oIst, oBst, oJst, oQst, ciOf, rcv, oCp, cat1, cond_true, cond_false, Bool.and_self, Bool.and_true, Bool.true_and, Bool.or_true, Bool.true_or, Bool.or_false, Bool.false_or, Bool.not_false, Bool.not_true, ↓reduceIte, Nat.reduceBEq, Nat.reduceEqDiff, beq_self_eq_true, true_and, and_true, eq_self_iff_true, Nat.reduceAdd, Nat.blt, Nat.ble, eL, mL_22]
  split
  next c => exact RET.id ⟨rfl, rfl⟩ (Nat.le_refl _) (Nat.le_refl _)
  next c => exact RET.id ⟨rfl, rfl⟩ (Nat.le_refl _) (Nat.le_refl _)
theorem l_fillI {d : Nat} {P : Option Value → aH → Prop} (v : Int32) (n : Nat) (hn : n < 2 ^ 31) (hP : ∀ g, (∀ j, j < n → g j = v) → P none [.inl (1, n, .inl g)]) : ∀ (m i : Nat) (g : Nat → Int32), i + m = n → (∀ j, j < i → g j = v) →
    AW 23 (d, 1, nomv, 0, 0, P) 5 [some (.ref 0), some (.int v), some (.int (nI i)), some (.int (nI n))] [] [.inl (1, n, .inl g)] 0 0 := by
  intro m
  induction m with
  | zero =>
    intro i g hi hg
    refine wq_aw (S := fun x => x == 5) (by decide) (f := 1000) ?_
    simp only [v_23_5, u_23_0, u_23_1, u_23_2, u_23_3, u_23_4, u_23_5, u_23_6, u_23_7, u_23_10, u_23_11, u_23_12, u_23_13, u_23_14, u_23_17, u_23_20, wp_stop, lget, lput1, lput2, kil, hget, hset, vget, vset, fget, fgetC, fput, fputC, iget, igetC, jget, jgetC, qget, qgetC, alen, lenC, oI, oJ, oF, oA, oV, oH, oInc, oIld, oJld, oQld, oR, oLen, oIst, oBst, oJst, oQst, ciOf, rcv, oCp, cat1, cond_true, cond_false, Bool.and_self, Bool.and_true, Bool.true_and, Bool.or_true, Bool.true_or, Bool.or_false, Bool.false_or, Bool.not_false, Bool.not_true, ↓reduceIte, Nat.reduceBEq, Nat.reduceEqDiff, beq_self_eq_true, true_and, and_true, eq_self_iff_true, Nat.reduceAdd, Nat.blt, Nat.ble]
    rw [if_pos (nI_le (by omega) (by omega))]
    exact RET.id (hP g (fun j hj => hg j (by omega))) (Nat.le_refl _) (Nat.le_refl _)
  | succ m ih =>
    intro i g hi hg
    refine wq_aw (S := fun x => x == 5) (by decide) (f := 1000) ?_
    simp only [v_23_5, u_23_0, u_23_1, u_23_2, u_23_3, u_23_4, u_23_5, u_23_6, u_23_7, u_23_10, u_23_11, u_23_12, u_23_13, u_23_14, u_23_17, u_23_20, wp_stop, lget, lput1, lput2, kil, hget, hset, vget, vset, fget, fgetC, fput, fputC, iget, igetC, jget, jgetC, qget, qgetC, alen, lenC, oI, oJ, oF, oA, oV, oH, oInc, oIld, oJld, oQld, oR, oLen, oIst, oBst, oJst, oQst, ciOf, rcv, oCp, cat1, cond_true, cond_false, Bool.and_self, Bool.and_true, Bool.true_and, Bool.or_true, Bool.true_or, Bool.or_false, Bool.false_or, Bool.not_false, Bool.not_true, ↓reduceIte, Nat.reduceBEq, Nat.reduceEqDiff, beq_self_eq_true, true_and, and_true, eq_self_iff_true, Nat.reduceAdd, Nat.blt, Nat.ble]
    rw [if_neg (nI_ge (by omega) hn)]
    refine ⟨vp_in_nI (by omega) hn, ?_⟩
    rw [z_add, nI_clamp (by omega)]
    refine ih (i + 1) _ (by omega) (fun j hj => ?_)
    unfold upd
    split
    · rfl
    · exact hg j (by omega)
theorem c_fillI (d : Nat) (v : Int32) (n : Nat) (f : Nat → Int32) (hn : n < 2 ^ 31) : aSp d 23 [.ref 0, .int v] [.inl (1, n, .inl f)] nomv 0 0 (fun r h' => r = none ∧ ∃ g, h' = [.inl (1, n, .inl g)] ∧ ∀ j, j < n → g j = v) := by
  refine sp_of (by decide) (Nat.le_of_ble_eq_true rfl) ?_
  refine wp_aw (S := fun x => x == 5) (by decide) 1000 _ _ _ _ _ _ ?_
  simp only [u_23_0, u_23_1, u_23_2, u_23_3, u_23_4, u_23_5, u_23_6, u_23_7, u_23_10, u_23_11, u_23_12, u_23_13, u_23_14, u_23_17, u_23_20, wp_stop, lget, lput1, lput2, kil, hget, hset, vget, vset, fget, fgetC, fput, fputC, iget, igetC, jget, jgetC, qget, qgetC, alen, lenC, oI, oJ, oF, oA, oV, oH, oInc, oIld, oJld, oQld, oR, oLen, oIst, oBst, oJst, oQst, ciOf, rcv, oCp, cat1, cond_true, cond_false, Bool.and_self, Bool.and_true, Bool.true_and, Bool.or_true, Bool.true_or, Bool.or_false, Bool.false_or, Bool.not_false, Bool.not_true, ↓reduceIte, Nat.reduceBEq, Nat.reduceEqDiff, beq_self_eq_true, true_and, and_true, eq_self_iff_true, Nat.reduceAdd, Nat.blt, Nat.ble, eL, mL_23]
  exact l_fillI v n hn (fun g hg => ⟨rfl, g, rfl, hg⟩) n 0 f (by omega) (fun j hj => absurd hj (by omega))
theorem l_fillJ {d : Nat} {P : Option Value → aH → Prop} (v : Int64) (n : Nat) (hn : n < 2 ^ 31) (hP : ∀ g, (∀ j, j < n → g j = v) → P none [.inl (2, n, .inr (.inl g))]) : ∀ (m i : Nat) (g : Nat → Int64), i + m = n → (∀ j, j < i → g j = v) →
    AW 3 (d, 1, nomv, 0, 0, P) 6 [some (.ref 0), some (.long v), none, some (.int (nI i)), some (.int (nI n))] [] [.inl (2, n, .inr (.inl g))] 0 0 := by
  intro m
  induction m with
  | zero =>
    intro i g hi hg
    refine wq_aw (S := fun x => x == 6) (by decide) (f := 1000) ?_
    simp only [v_3_6, u_3_0, u_3_1, u_3_2, u_3_3, u_3_4, u_3_6, u_3_7, u_3_9, u_3_12, u_3_13, u_3_14, u_3_15, u_3_16, u_3_19, u_3_22, wp_stop, lget, lput1, lput2, kil, hget, hset, vget, vset, fget, fgetC, fput, fputC, iget, igetC, jget, jgetC, qget, qgetC, alen, lenC, oI, oJ, oF, oA, oV, oH, oInc, oIld, oJld, oQld, oR, oLen, oIst, oBst, oJst, oQst, ciOf, rcv, oCp, cat1, cond_true, cond_false, Bool.and_self, Bool.and_true, Bool.true_and, Bool.or_true, Bool.true_or, Bool.or_false, Bool.false_or, Bool.not_false, Bool.not_true, ↓reduceIte, Nat.reduceBEq, Nat.reduceEqDiff, beq_self_eq_true, true_and, and_true, eq_self_iff_true, Nat.reduceAdd, Nat.blt, Nat.ble]
    rw [if_pos (nI_le (by omega) (by omega))]
    exact RET.id (hP g (fun j hj => hg j (by omega))) (Nat.le_refl _) (Nat.le_refl _)
  | succ m ih =>
    intro i g hi hg
    refine wq_aw (S := fun x => x == 6) (by decide) (f := 1000) ?_
    simp only [v_3_6, u_3_0, u_3_1, u_3_2, u_3_3, u_3_4, u_3_6, u_3_7, u_3_9, u_3_12, u_3_13, u_3_14, u_3_15, u_3_16, u_3_19, u_3_22, wp_stop, lget, lput1, lput2, kil, hget, hset, vget, vset, fget, fgetC, fput, fputC, iget, igetC, jget, jgetC, qget, qgetC, alen, lenC, oI, oJ, oF, oA, oV, oH, oInc, oIld, oJld, oQld, oR, oLen, oIst, oBst, oJst, oQst, ciOf, rcv, oCp, cat1, cond_true, cond_false, Bool.and_self, Bool.and_true, Bool.true_and, Bool.or_true, Bool.true_or, Bool.or_false, Bool.false_or, Bool.not_false, Bool.not_true, ↓reduceIte, Nat.reduceBEq, Nat.reduceEqDiff, beq_self_eq_true, true_and, and_true, eq_self_iff_true, Nat.reduceAdd, Nat.blt, Nat.ble]
    rw [if_neg (nI_ge (by omega) hn)]
    refine ⟨vp_in_nI (by omega) hn, ?_⟩
    rw [z_add, nI_clamp (by omega)]
    refine ih (i + 1) _ (by omega) (fun j hj => ?_)
    unfold vp_updL
    split
    · rfl
    · exact hg j (by omega)
theorem c_fillJ (d : Nat) (v : Int64) (n : Nat) (f : Nat → Int64) (hn : n < 2 ^ 31) : aSp d 3 [.ref 0, .long v] [.inl (2, n, .inr (.inl f))] nomv 0 0 (fun r h' => r = none ∧ ∃ g, h' = [.inl (2, n, .inr (.inl g))] ∧ ∀ j, j < n → g j = v) := by
  refine sp_of (by decide) (Nat.le_of_ble_eq_true rfl) ?_
  refine wp_aw (S := fun x => x == 6) (by decide) 1000 _ _ _ _ _ _ ?_
  simp only [u_3_0, u_3_1, u_3_2, u_3_3, u_3_4, u_3_6, u_3_7, u_3_9, u_3_12, u_3_13, u_3_14, u_3_15, u_3_16, u_3_19, u_3_22, wp_stop, lget, lput1, lput2, kil, hget, hset, vget, vset, fget, fgetC, fput, fputC, iget, igetC, jget, jgetC, qget, qgetC, alen, lenC, oI, oJ, oF, oA, oV, oH, oInc, oIld, oJld, oQld, oR, oLen, oIst, oBst, oJst, oQst, ciOf, rcv, oCp, cat1, cond_true, cond_false, Bool.and_self, Bool.and_true, Bool.true_and, Bool.or_true, Bool.true_or, Bool.or_false, Bool.false_or, Bool.not_false, Bool.not_true, ↓reduceIte, Nat.reduceBEq, Nat.reduceEqDiff, beq_self_eq_true, true_and, and_true, eq_self_iff_true, Nat.reduceAdd, Nat.blt, Nat.ble, eL, mL_3]
  exact l_fillJ v n hn (fun g hg => ⟨rfl, g, rfl, hg⟩) n 0 f (by omega) (fun j hj => absurd hj (by omega))
theorem nI_ne {a b : Nat} (ha : a < 2 ^ 31) (hb : b < 2 ^ 31) (h : a ≠ b) : ¬ nI a = nI b := fun q => h ((nI_eq ha hb).mp q)
theorem c_copyOfI (d : Nat) (n m : Nat) (f : Nat → Int32) (hn : n < 2 ^ 31) (hm : m ≤ 134217728) (hne : m ≠ n) : aSp (d + 1) 18 [.ref 0, .int (nI m)] [.inl (1, n, .inl f)] nomv 1 m (fun r h' => r = some (.ref 1) ∧ ∃ g, h' = [.inl (1, n, .inl f), .inl (1, m, .inl g)] ∧ ∀ j, j < m → g j = if j < n then f j else 0) := by
  have hm2 : m < 2 ^ 31 := by omega
  refine sp_of (by decide) (Nat.le_of_ble_eq_true rfl) ?_
  refine wp_aw (S := fun _ => false) (by decide) 1000 _ _ _ _ _ _ ?_
  simp only [u_18_0, u_18_1, u_18_2, u_18_3, u_18_6, u_18_13, u_18_14, u_18_15, u_18_17, u_18_18, u_18_19, u_18_20, u_18_21, u_18_22, u_18_23, u_18_24, u_18_25, u_18_28, u_18_31, u_18_32, lget, lput1, lput2, kil, hget, hset, vget, vset, fget, fgetC, fput, fputC, iget, igetC, jget, jgetC, qget, qgetC, alen, lenC, oI, oJ, oF, oA, oV, oH, oInc, oIld, oJld, oQld, oR, oLen, oIst, oBst, oJst, oQst, ciOf, rcv, oCp, cat1, cond_true, cond_false, Bool.and_self, Bool.and_true, Bool.true_and, Bool.or_true, Bool.true_or, Bool.or_false, Bool.false_or, Bool.not_false, Bool.not_true, ↓reduceIte, Nat.reduceBEq, Nat.reduceEqDiff, beq_self_eq_true, true_and, and_true, eq_self_iff_true, Nat.reduceAdd, Nat.blt, Nat.ble, eL, mL_18]
  rw [if_neg (show ¬ nI m = Int32.ofNat n from nI_ne hm2 hn hne)]
  refine ⟨nI_pos hm2, by rw [nI_clamp hm2]; omega, ?_⟩
  rw [nI_clamp hm2]
  refine ⟨Nat.le_refl _, by show 0 + m ≤ m; omega, Nat.le_refl _, ⟨trivial, trivial⟩, rfl, rfl, ?_⟩
  simp only [u_18_0, u_18_1, u_18_2, u_18_3, u_18_6, u_18_13, u_18_14, u_18_15, u_18_17, u_18_18, u_18_19, u_18_20, u_18_21, u_18_22, u_18_23, u_18_24, u_18_25, u_18_28, u_18_31, u_18_32, lget, lput1, lput2, kil, hget, hset, vget, vset, fget, fgetC, fput, fputC, iget, igetC, jget, jgetC, qget, qgetC, alen, lenC, oI, oJ, oF, oA, oV, oH, oInc, oIld, oJld, oQld, oR, oLen, oIst, oBst, oJst, oQst, ciOf, rcv, oCp, cat1, cond_true, cond_false, Bool.and_self, Bool.and_true, Bool.true_and, Bool.or_true, Bool.true_or, Bool.or_false, Bool.false_or, Bool.not_false, Bool.not_true, ↓reduceIte, Nat.reduceBEq, Nat.reduceEqDiff, beq_self_eq_true, true_and, and_true, eq_self_iff_true, Nat.reduceAdd, Nat.blt, Nat.ble, mrg, renc, tra, trv, sg, List.map_cons, List.map_nil, Option.map_some, Option.map_none, Option.toList_some, Option.toList_none, List.cons_append, List.nil_append, List.length_cons, List.length_nil, cI]
  refine CAL.dir (c_min d _ _ _) (Nat.le_refl _) (Nat.le_refl _) (by show 0 + m + 0 ≤ m; omega) (Nat.le_of_ble_eq_true rfl) (Nat.le_of_ble_eq_true rfl) rfl rfl ?_
  rintro _ _ ⟨rfl, rfl⟩
  simp only [u_18_0, u_18_1, u_18_2, u_18_3, u_18_6, u_18_13, u_18_14, u_18_15, u_18_17, u_18_18, u_18_19, u_18_20, u_18_21, u_18_22, u_18_23, u_18_24, u_18_25, u_18_28, u_18_31, u_18_32, lget, lput1, lput2, kil, hget, hset, vget, vset, fget, fgetC, fput, fputC, iget, igetC, jget, jgetC, qget, qgetC, alen, lenC, oI, oJ, oF, oA, oV, oH, oInc, oIld, oJld, oQld, oR, oLen, oIst, oBst, oJst, oQst, ciOf, rcv, oCp, cat1, cond_true, cond_false, Bool.and_self, Bool.and_true, Bool.true_and, Bool.or_true, Bool.true_or, Bool.or_false, Bool.false_or, Bool.not_false, Bool.not_true, ↓reduceIte, Nat.reduceBEq, Nat.reduceEqDiff, beq_self_eq_true, true_and, and_true, eq_self_iff_true, Nat.reduceAdd, Nat.blt, Nat.ble, mrg, renc, tra, trv, sg, List.map_cons, List.map_nil, Option.map_some, Option.map_none, Option.toList_some, Option.toList_none, List.cons_append, List.nil_append, List.length_cons, List.length_nil]
  have hmin : (if Int32.ofNat n ≤ nI m then Int32.ofNat n else nI m) = nI (min n m) := by
    show (if nI n ≤ nI m then nI n else nI m) = _
    rcases Nat.le_total n m with q | q
    · rw [if_pos (nI_le q hm2), Nat.min_eq_left q]
    · rcases Nat.lt_or_ge m n with q2 | q2
      · rw [if_neg (nI_ge q2 hn), Nat.min_eq_right q]
      · omega
  rw [hmin]
  have hmm : min n m < 2 ^ 31 := by omega
  refine ⟨Nat.le_of_ble_eq_true rfl, Nat.le_add_left 1 d, n, f, m, _, rfl, rfl, by decide, by decide, nI_pos hmm, ?_, ?_, ?_⟩
  · rw [nI_clamp hmm]; show 0 + min n m ≤ n; omega
  · rw [nI_clamp hmm]; show 0 + min n m ≤ m; omega
  · simp only [u_18_0, u_18_1, u_18_2, u_18_3, u_18_6, u_18_13, u_18_14, u_18_15, u_18_17, u_18_18, u_18_19, u_18_20, u_18_21, u_18_22, u_18_23, u_18_24, u_18_25, u_18_28, u_18_31, u_18_32, lget, lput1, lput2, kil, hget, hset, vget, vset, fget, fgetC, fput, fputC, iget, igetC, jget, jgetC, qget, qgetC, alen, lenC, oI, oJ, oF, oA, oV, oH, oInc, oIld, oJld, oQld, oR, oLen, oIst, oBst, oJst, oQst, ciOf, rcv, oCp, cat1, cond_true, cond_false, Bool.and_self, Bool.and_true, Bool.true_and, Bool.or_true, Bool.true_or, Bool.or_false, Bool.false_or, Bool.not_false, Bool.not_true, ↓reduceIte, Nat.reduceBEq, Nat.reduceEqDiff, beq_self_eq_true, true_and, and_true, eq_self_iff_true, Nat.reduceAdd, Nat.blt, Nat.ble, mrg, renc, tra, trv, sg, List.map_cons, List.map_nil, Option.map_some, Option.map_none, Option.toList_some, Option.toList_none, List.cons_append, List.nil_append, List.length_cons, List.length_nil]
    refine RET.id ⟨rfl, _, rfl, fun j hj => ?_⟩ (Nat.le_refl _) (by show 0 + m ≤ m; omega)
    rw [nI_clamp hmm]
    show va_cpy f (fun _ => 0) 0 0 (min n m) j = _
    by_cases q : j < n
    · rw [if_pos q, pk_cpy_in (by omega) (by omega)]
      simp
    · rw [if_neg q, pk_cpy_out (by omega)]
theorem c_copyOfJ (d : Nat) (n m : Nat) (f : Nat → Int64) (hn : n < 2 ^ 31) (hm : m ≤ 67108864) (hne : m ≠ n) : aSp (d + 1) 29 [.ref 0, .int (nI m)] [.inl (2, n, .inr (.inl f))] nomv 1 m (fun r h' => r = some (.ref 1) ∧ ∃ g, h' = [.inl (2, n, .inr (.inl f)), .inl (2, m, .inr (.inl g))] ∧ ∀ j, j < m → g j = if j < n then f j else 0) := by
  have hm2 : m < 2 ^ 31 := by omega
  refine sp_of (by decide) (Nat.le_of_ble_eq_true rfl) ?_
  refine wp_aw (S := fun _ => false) (by decide) 1000 _ _ _ _ _ _ ?_
  simp only [u_29_0, u_29_1, u_29_2, u_29_3, u_29_6, u_29_13, u_29_14, u_29_15, u_29_17, u_29_18, u_29_19, u_29_20, u_29_21, u_29_22, u_29_23, u_29_24, u_29_25, u_29_28, u_29_31, u_29_32, lget, lput1, lput2, kil, hget, hset, vget, vset, fget, fgetC, fput, fputC, iget, igetC, jget, jgetC, qget, qgetC, alen, lenC, oI, oJ, oF, oA, oV, oH, oInc, oIld, oJld, oQld, oR, oLen, oIst, oBst, oJst, oQst, ciOf, rcv, oCp, cat1, cond_true, cond_false, Bool.and_self, Bool.and_true, Bool.true_and, Bool.or_true, Bool.true_or, Bool.or_false, Bool.false_or, Bool.not_false, Bool.not_true, ↓reduceIte, Nat.reduceBEq, Nat.reduceEqDiff, beq_self_eq_true, true_and, and_true, eq_self_iff_true, Nat.reduceAdd, Nat.blt, Nat.ble, eL, mL_29]
  rw [if_neg (show ¬ nI m = Int32.ofNat n from nI_ne hm2 hn hne)]
  refine ⟨nI_pos hm2, by rw [nI_clamp hm2]; omega, ?_⟩
  rw [nI_clamp hm2]
  refine ⟨Nat.le_refl _, by show 0 + m ≤ m; omega, Nat.le_refl _, ⟨trivial, trivial⟩, rfl, rfl, ?_⟩
  simp only [u_29_0, u_29_1, u_29_2, u_29_3, u_29_6, u_29_13, u_29_14, u_29_15, u_29_17, u_29_18, u_29_19, u_29_20, u_29_21, u_29_22, u_29_23, u_29_24, u_29_25, u_29_28, u_29_31, u_29_32, lget, lput1, lput2, kil, hget, hset, vget, vset, fget, fgetC, fput, fputC, iget, igetC, jget, jgetC, qget, qgetC, alen, lenC, oI, oJ, oF, oA, oV, oH, oInc, oIld, oJld, oQld, oR, oLen, oIst, oBst, oJst, oQst, ciOf, rcv, oCp, cat1, cond_true, cond_false, Bool.and_self, Bool.and_true, Bool.true_and, Bool.or_true, Bool.true_or, Bool.or_false, Bool.false_or, Bool.not_false, Bool.not_true, ↓reduceIte, Nat.reduceBEq, Nat.reduceEqDiff, beq_self_eq_true, true_and, and_true, eq_self_iff_true, Nat.reduceAdd, Nat.blt, Nat.ble, mrg, renc, tra, trv, sg, List.map_cons, List.map_nil, Option.map_some, Option.map_none, Option.toList_some, Option.toList_none, List.cons_append, List.nil_append, List.length_cons, List.length_nil, cJ]
  refine CAL.dir (c_min d _ _ _) (Nat.le_refl _) (Nat.le_refl _) (by show 0 + m + 0 ≤ m; omega) (Nat.le_of_ble_eq_true rfl) (Nat.le_of_ble_eq_true rfl) rfl rfl ?_
  rintro _ _ ⟨rfl, rfl⟩
  simp only [u_29_0, u_29_1, u_29_2, u_29_3, u_29_6, u_29_13, u_29_14, u_29_15, u_29_17, u_29_18, u_29_19, u_29_20, u_29_21, u_29_22, u_29_23, u_29_24, u_29_25, u_29_28, u_29_31, u_29_32, lget, lput1, lput2, kil, hget, hset, vget, vset, fget, fgetC, fput, fputC, iget, igetC, jget, jgetC, qget, qgetC, alen, lenC, oI, oJ, oF, oA, oV, oH, oInc, oIld, oJld, oQld, oR, oLen, oIst, oBst, oJst, oQst, ciOf, rcv, oCp, cat1, cond_true, cond_false, Bool.and_self, Bool.and_true, Bool.true_and, Bool.or_true, Bool.true_or, Bool.or_false, Bool.false_or, Bool.not_false, Bool.not_true, ↓reduceIte, Nat.reduceBEq, Nat.reduceEqDiff, beq_self_eq_true, true_and, and_true, eq_self_iff_true, Nat.reduceAdd, Nat.blt, Nat.ble, mrg, renc, tra, trv, sg, List.map_cons, List.map_nil, Option.map_some, Option.map_none, Option.toList_some, Option.toList_none, List.cons_append, List.nil_append, List.length_cons, List.length_nil]
  have hmin : (if Int32.ofNat n ≤ nI m then Int32.ofNat n else nI m) = nI (min n m) := by
    show (if nI n ≤ nI m then nI n else nI m) = _
    rcases Nat.le_total n m with q | q
    · rw [if_pos (nI_le q hm2), Nat.min_eq_left q]
    · rcases Nat.lt_or_ge m n with q2 | q2
      · rw [if_neg (nI_ge q2 hn), Nat.min_eq_right q]
      · omega
  rw [hmin]
  have hmm : min n m < 2 ^ 31 := by omega
  refine ⟨Nat.le_of_ble_eq_true rfl, Nat.le_add_left 1 d, n, f, m, _, rfl, rfl, by decide, by decide, nI_pos hmm, ?_, ?_, ?_⟩
  · rw [nI_clamp hmm]; show 0 + min n m ≤ n; omega
  · rw [nI_clamp hmm]; show 0 + min n m ≤ m; omega
  · simp only [u_29_0, u_29_1, u_29_2, u_29_3, u_29_6, u_29_13, u_29_14, u_29_15, u_29_17, u_29_18, u_29_19, u_29_20, u_29_21, u_29_22, u_29_23, u_29_24, u_29_25, u_29_28, u_29_31, u_29_32, lget, lput1, lput2, kil, hget, hset, vget, vset, fget, fgetC, fput, fputC, iget, igetC, jget, jgetC, qget, qgetC, alen, lenC, oI, oJ, oF, oA, oV, oH, oInc, oIld, oJld, oQld, oR, oLen, oIst, oBst, oJst, oQst, ciOf, rcv, oCp, cat1, cond_true, cond_false, Bool.and_self, Bool.and_true, Bool.true_and, Bool.or_true, Bool.true_or, Bool.or_false, Bool.false_or, Bool.not_false, Bool.not_true, ↓reduceIte, Nat.reduceBEq, Nat.reduceEqDiff, beq_self_eq_true, true_and, and_true, eq_self_iff_true, Nat.reduceAdd, Nat.blt, Nat.ble, mrg, renc, tra, trv, sg, List.map_cons, List.map_nil, Option.map_some, Option.map_none, Option.toList_some, Option.toList_none, List.cons_append, List.nil_append, List.length_cons, List.length_nil]
    refine RET.id ⟨rfl, _, rfl, fun j hj => ?_⟩ (Nat.le_refl _) (by show 0 + m ≤ m; omega)
    rw [nI_clamp hmm]
    show va_cpy f (fun _ => 0) 0 0 (min n m) j = _
    by_cases q : j < n
    · rw [if_pos q, pk_cpy_in (by omega) (by omega)]
      simp
    · rw [if_neg q, pk_cpy_out (by omega)]
