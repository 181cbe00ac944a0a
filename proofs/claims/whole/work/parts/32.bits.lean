/-! Integer.bitCount of a byte -/
def pcN (v : Nat) : Nat := ((List.range 8).filter (fun i => v.testBit i)).length
set_option maxRecDepth 100000 in
theorem c_bitI (d v : Nat) (hv : v < 256) : aSp d 69 [.int (nI v)] [] nomv 0 0 (fun r h' => r = some (.int (nI (pcN v))) ∧ h' = []) := by
  refine sp_of (by decide) (Nat.le_of_ble_eq_true rfl) ?_
  generalize hG : ((d, _, nomv, _, _, _) : aG) = G
  have hret : RET G (some (.int (nI (pcN v)))) [] 0 0 := by
    subst hG
    exact RET.id ⟨rfl, rfl⟩ (Nat.le_refl _) (Nat.le_refl _)
  clear hG
  refine wp_aw (S := fun _ => false) (by decide) 200 _ _ _ _ _ _ ?_
  simp only [u_69_0, u_69_1, u_69_2, u_69_3, u_69_4, u_69_7, u_69_8, u_69_9, u_69_10, u_69_11, u_69_14, u_69_15, u_69_16, u_69_17, u_69_18, u_69_21, u_69_22, u_69_23, u_69_24, u_69_25, u_69_26, u_69_27, u_69_28, u_69_29, u_69_32, u_69_33, u_69_34, u_69_35, u_69_36, u_69_38, u_69_39, u_69_40, u_69_41, u_69_42, u_69_43, u_69_45, u_69_46, u_69_47, u_69_48, u_69_49, u_69_51, u_69_52, wp_stop, lget, lput1, lput2, kil, hget, hset, vget, vset, fget, fgetC, fput, fputC, iget, igetC, jget, jgetC, qget, qgetC, alen, lenC, oI, oJ, oF, oA, oV, oH, oInc, oIld, oJld, oQld, oR, oLen, oIst, oBst, oJst, oQst, ciOf, rcv, oCp, cat1, cond_true, cond_false, Bool.and_self, Bool.and_true, Bool.true_and, Bool.or_true, Bool.true_or, Bool.or_false, Bool.false_or, Bool.not_false, Bool.not_true, ↓reduceIte, Nat.reduceBEq, Nat.reduceEqDiff, beq_self_eq_true, true_and, and_true, eq_self_iff_true, Nat.reduceAdd, Nat.blt, Nat.ble, eL, mL_69]
  refine Eq.mpr (congrArg (fun x => RET G (some (.int x)) [] 0 0) (?_ : _ = nI (pcN v))) hret
  clear hret
  revert v
  decide +kernel
