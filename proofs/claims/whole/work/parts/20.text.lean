/-! Text -/
theorem c_Text_at (d : Nat) (i len : Int32) (f : Nat → Int32) (h0 : 0 ≤ len) : aSp d 39 [.ref 0, .int i] [.inr (8, [.ref 1, .int len]), .inl (0, 150, .inl f)] nomv 0 0 (fun r h' => r = some (.int (if 0 ≤ i ∧ i < len ∧ i < 150 then f i.toNatClampNeg else -1)) ∧ h' = [.inr (8, [.ref 1, .int len]), .inl (0, 150, .inl f)]) := by
  refine sp_of (by decide) (Nat.le_of_ble_eq_true rfl) ?_
  refine wp_aw (S := fun _ => false) (by decide) 1000 _ _ _ _ _ _ ?_
  simp only [u_39_0, u_39_1, u_39_4, u_39_5, u_39_6, u_39_9, u_39_12, u_39_13, u_39_16, u_39_19, u_39_20, u_39_23, u_39_24, u_39_25, u_39_28, u_39_29, lget, lput1, lput2, kil, hget, hset, vget, vset, fget, fgetC, fput, fputC, iget, igetC, jget, jgetC, qget, qgetC, alen, lenC, oI, oJ, oF, oA, oV, oH, oInc, oIld, oJld, oQld, oR, oLen, oIst, oBst, oJst, oQst, ciOf, rcv, oCp, cat1, cond_true, cond_false, Bool.and_self, Bool.and_true, Bool.true_and, Bool.or_true, Bool.true_or, Bool.or_false, Bool.false_or, Bool.not_false, Bool.not_true, ↓reduceIte, Nat.reduceBEq, Nat.reduceEqDiff, beq_self_eq_true, true_and, and_true, eq_self_iff_true, Nat.reduceAdd, Nat.blt, Nat.ble, eL, mL_39]
  trace_state
  sorry
