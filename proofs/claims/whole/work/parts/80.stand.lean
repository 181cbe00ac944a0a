/-! Scene.standIn -/
/-- a row gone through: the machine and the set behind it -/
noncomputable def rowA : aN → Nat → List Nat → aN × Nat
  | ν, m, [] => (ν, m)
  | ν, m, x :: xs => rowA (sY ν (dltM (dG ν.1) x m)) (dltM (dG ν.1) x m) xs
/-- all steps of a row can be made -/
def rowL (p : Int64) : Nat → List Nat → Prop
  | _, [] => True
  | m, x :: xs => x < 8 ∧ (trM (dT p) m).testBit x = true ∧ rowL p (dltM (dG p) x m) xs
theorem rowA_le : ∀ (xs : List Nat) {ν : aN} {m : Nat}, okN ν → yS ν ≤ yS (rowA ν m xs).1 ∧ yC ν ≤ yC (rowA ν m xs).1 ∧ extL ν.2.1.1 (rowA ν m xs).1.2.1.1 ∧ (rowA ν m xs).1.1 = ν.1
  | [], ν, m, _ => ⟨Nat.le_refl _, Nat.le_refl _, extL_rf _, rfl⟩
  | x :: xs, ν, m, h => by
    obtain ⟨a1, a2⟩ := sY_le h (dltM (dG ν.1) x m)
    obtain ⟨b1, b2, b3, b4⟩ := rowA_le xs (m := dltM (dG ν.1) x m) (okN_s h (dltM (dG ν.1) x m))
    exact ⟨Nat.le_trans a1 b1, Nat.le_trans a2 b2, extL_tr (sY_ext _ _) b3, b4⟩
/-- a row as it stands -/
def rwR (rw : Nat → Int32) (row : List Nat) : Prop := ∀ (i x : Nat), row[i]? = some x → rw i = nI x
theorem okF_sX (pt : Nat → Int64) (rw : Nat → Int32) (len own : Int32) : okF 1 (sX pt rw len own) := ⟨rfl, trivial, trivial, trivial⟩
section SI
variable (pt : Nat → Int64) (rw : Nat → Int32) (own : Int32) (row : List Nat)
set_option maxRecDepth 100000 in
theorem l_stand {G : aG} (hrw : rwR rw row) (hl : row.length ≤ 20) (hd : 7 ≤ gD G) (ggn : gN G = 21) (ggm : gM G = mvI 3) (νF : aN) (mF : Nat) (hF14 : νF.2.1.1.length ≤ 2 ^ 14)
    (hret : ∀ j Z k' n', νF.2.1.1[j]? = some mF → yR Z νF → k' ≤ gC G → n' ≤ gS G → RET G (some (.int (nI j))) (sX pt rw (nI row.length) own ++ mHB 3 Z) k' n') :
    ∀ (xs : List Nat) (i s m : Nat) (ν : aN) (Z : PS × MS) (k0 n0 : Nat), row.drop i = xs → i + xs.length = row.length → yR Z ν → ν.2.1.1[s]? = some m → rowL ν.1 m xs → rowA ν m xs = (νF, mF) → k0 + yC νF ≤ gC G + yC ν → n0 + yS νF ≤ gS G + yS ν →
    AW 91 G 4 [some (.ref 0), some (.ref 3), some (.int (nI s)), some (.int (nI i))] [] (sX pt rw (nI row.length) own ++ mHB 3 Z) k0 n0 := by
  intro xs
  induction xs with
  | nil =>
    intro i s m ν Z k0 n0 hdr hi hy hs hL hA hk hn
    rw [List.length_nil] at hi
    obtain ⟨rfl, rfl⟩ := Prod.mk.inj hA
    have t1 : row.length ≤ i := by omega
    have hf := hret s Z k0 n0 hs hy (by omega) (by omega)
    refine wq_aw (S := fun x => x == 4) (by decide) (f := 200) ?_
    simp (disch := first | exact rfl | decide | omega) only [v_91_4, u_91_0, u_91_1, u_91_2, u_91_3, u_91_4, u_91_5, u_91_6, u_91_9, u_91_12, u_91_13, u_91_15, u_91_18, u_91_19, u_91_20, u_91_21, u_91_24, u_91_25, u_91_26, u_91_29, u_91_30, u_91_33, u_91_36, u_91_37, wp_stop, lget, lput1, lput2, kil, hget, hset, vget, vset, fget, fgetC, fput, fputC, iget, igetC, jget, jgetC, qget, qgetC, alen, lenC, oI, oJ, oF, oA, oV, oH, oInc, oIld, oJld, oQld, oR, oLen, oIst, oBst, oJst, oQst, ciOf, rcv, oCp, cat1, cond_true, cond_false, Bool.and_self, Bool.and_true, Bool.true_and, Bool.or_true, Bool.true_or, Bool.or_false, Bool.false_or, Bool.not_false, Bool.not_true, ↓reduceIte, Nat.reduceBEq, Nat.reduceEqDiff, beq_self_eq_true, true_and, and_true, eq_self_iff_true, Nat.reduceAdd, Nat.blt, Nat.ble, z_le, z_lt, z_eq, z_cl, z_add, z_sub, z_mul, z_in, z_lt0, z_ofN, z_m1, z_ltm1, z_m1lt, z_eqm1, z_m1eq, z_m1le, z_lem1, z_beq, nI_0_1, nI_m1lt0, nI_0lem1, not_false_eq_true, not_true_eq_false, forall_const, false_implies, true_implies, implies_true, false_and, and_false, mrg, renc, tra, trv, sg, List.map_cons, List.map_nil, Option.map_some, Option.map_none, Option.toList_some, Option.toList_none, List.cons_append, List.nil_append, List.length_cons, List.length_nil, sX, t1]
    exact hf
  | cons x xs ih =>
    intro i s m ν Z k0 n0 hdr hi hy hs hL hA hk hn
    rw [List.length_cons] at hi
    have hx : row[i]? = some x := by
      have := congrArg (fun z : List Nat => z[0]?) hdr
      simpa using this
    have hdr2 : row.drop (i + 1) = xs := by
      rw [← List.drop_drop, hdr]
      rfl
    obtain ⟨hx8, hdue, hL2⟩ := hL
    have e1 := hrw i x hx
    have t1 : ¬ row.length ≤ i := by omega
    have t2 : ¬ 20 ≤ i := by omega
    have t3 : i < 20 := by omega
    have hsl := gget_lt hs
    have hs14 := (y_ok hy).2.2.2.2
    have hAA : rowA (sY ν (dltM (dG ν.1) x m)) (dltM (dG ν.1) x m) xs = (νF, mF) := hA
    have hle := rowA_le xs (m := dltM (dG ν.1) x m) (okN_s (yR_N hy) (dltM (dG ν.1) x m))
    rw [hAA] at hle
    have hst := y_step 0 hy hs hx8 hdue (Nat.le_trans (extL_len hle.2.2.1) hF14)
    have hc := y_cost hy (dltM (dG ν.1) x m)
    have w1 : yS (sY ν (dltM (dG ν.1) x m)) ≤ yS νF := hle.1
    have w2 : yC (sY ν (dltM (dG ν.1) x m)) ≤ yC νF := hle.2.1
    have hgo : ∀ j Z', (sY ν (dltM (dG ν.1) x m)).2.1.1[j]? = some (dltM (dG ν.1) x m) → yR Z' (sY ν (dltM (dG ν.1) x m)) → AW 91 G 4 [some (.ref 0), some (.ref 3), some (.int (nI j)), some (.int (nI (i + 1)))] [] (sX pt rw (nI row.length) own ++ mHB 3 Z') (k0 + (yC (sY ν (dltM (dG ν.1) x m)) - yC ν)) (n0 + (yS (sY ν (dltM (dG ν.1) x m)) - yS ν)) := fun j Z' hj hZ' => ih (i + 1) j _ _ Z' _ _ hdr2 (by omega) hZ' hj hL2 hAA (by omega) (by omega)
    clear ih hret hA
    generalize dltM (dG ν.1) x m = m' at *
    generalize sY ν m' = ν' at *
    refine wq_aw (S := fun x => x == 4) (by decide) (f := 200) ?_
    simp (disch := first | exact rfl | decide | omega) only [v_91_4, u_91_0, u_91_1, u_91_2, u_91_3, u_91_4, u_91_5, u_91_6, u_91_9, u_91_12, u_91_13, u_91_15, u_91_18, u_91_19, u_91_20, u_91_21, u_91_24, u_91_25, u_91_26, u_91_29, u_91_30, u_91_33, u_91_36, u_91_37, wp_stop, lget, lput1, lput2, kil, hget, hset, vget, vset, fget, fgetC, fput, fputC, iget, igetC, jget, jgetC, qget, qgetC, alen, lenC, oI, oJ, oF, oA, oV, oH, oInc, oIld, oJld, oQld, oR, oLen, oIst, oBst, oJst, oQst, ciOf, rcv, oCp, cat1, cond_true, cond_false, Bool.and_self, Bool.and_true, Bool.true_and, Bool.or_true, Bool.true_or, Bool.or_false, Bool.false_or, Bool.not_false, Bool.not_true, ↓reduceIte, Nat.reduceBEq, Nat.reduceEqDiff, beq_self_eq_true, true_and, and_true, eq_self_iff_true, Nat.reduceAdd, Nat.blt, Nat.ble, z_le, z_lt, z_eq, z_cl, z_add, z_sub, z_mul, z_in, z_lt0, z_ofN, z_m1, z_ltm1, z_m1lt, z_eqm1, z_m1eq, z_m1le, z_lem1, z_beq, nI_0_1, nI_m1lt0, nI_0lem1, not_false_eq_true, not_true_eq_false, forall_const, false_implies, true_implies, implies_true, false_and, and_false, mrg, renc, tra, trv, sg, List.map_cons, List.map_nil, Option.map_some, Option.map_none, Option.toList_some, Option.toList_none, List.cons_append, List.nil_append, List.length_cons, List.length_nil, sX, mHB_0, mO, t1, t2, e1]
    show CAL _ _ _ (.ref (sX pt rw (nI row.length) own).length :: _) _ _ _ (sX pt rw (nI row.length) own ++ mHB (sX pt rw (nI row.length) own).length Z) _ _
    refine CAL.one (sX pt rw (nI row.length) own) hst (okF_sX ..) (fun _ => rfl) mvM_1 ?_ (by show _ ≤ gD G; omega) (by show _ ≤ gC G; omega) (by show _ ≤ gS G; omega) (Nat.le_of_ble_eq_true rfl) (by rw [ggn]; exact Nat.le_of_ble_eq_true rfl) (fun j _ z => by show mvI 3 j = false; rw [← ggm]; exact z) rfl rfl ?_
    · rintro r1 hc' ⟨j, Z', -, rfl, rfl, -⟩
      exact ⟨⟨Z', rfl⟩, fun _ => rfl⟩
    rintro _ Z1 ⟨j, Z2, hj, rfl, hZ, hz⟩
    have hZ2 := mH_inj (Z' := Z2) hZ
    show WP _ _ _ _ _ _ _ (sX pt rw (nI row.length) own ++ mHB 3 Z1) _ _
    rw [hZ2]
    have hg := hgo j Z2 hj hz
    simp (disch := first | exact rfl | decide | omega) only [u_91_0, u_91_1, u_91_2, u_91_3, u_91_4, u_91_5, u_91_6, u_91_9, u_91_12, u_91_13, u_91_15, u_91_18, u_91_19, u_91_20, u_91_21, u_91_24, u_91_25, u_91_26, u_91_29, u_91_30, u_91_33, u_91_36, u_91_37, wp_stop, lget, lput1, lput2, kil, hget, hset, vget, vset, fget, fgetC, fput, fputC, iget, igetC, jget, jgetC, qget, qgetC, alen, lenC, oI, oJ, oF, oA, oV, oH, oInc, oIld, oJld, oQld, oR, oLen, oIst, oBst, oJst, oQst, ciOf, rcv, oCp, cat1, cond_true, cond_false, Bool.and_self, Bool.and_true, Bool.true_and, Bool.or_true, Bool.true_or, Bool.or_false, Bool.false_or, Bool.not_false, Bool.not_true, ↓reduceIte, Nat.reduceBEq, Nat.reduceEqDiff, beq_self_eq_true, true_and, and_true, eq_self_iff_true, Nat.reduceAdd, Nat.blt, Nat.ble, z_le, z_lt, z_eq, z_cl, z_add, z_sub, z_mul, z_in, z_lt0, z_ofN, z_m1, z_ltm1, z_m1lt, z_eqm1, z_m1eq, z_m1le, z_lem1, z_beq, nI_0_1, nI_m1lt0, nI_0lem1, not_false_eq_true, not_true_eq_false, forall_const, false_implies, true_implies, implies_true, false_and, and_false, mrg, renc, tra, trv, sg, List.map_cons, List.map_nil, Option.map_some, Option.map_none, Option.toList_some, Option.toList_none, List.cons_append, List.nil_append, List.length_cons, List.length_nil, sX]
    exact hg
set_option maxRecDepth 100000 in
theorem c_standIn (d : Nat) (hrw : rwR rw row) (hl : row.length ≤ 20) (ν : aN) (Z : PS × MS) (hy : yR Z ν) (hL : rowL ν.1 1 row) (hF14 : (rowA ν 1 row).1.2.1.1.length ≤ 2 ^ 14) : aSp (d + 7) 91 [.ref 0, .ref 3] (sX pt rw (nI row.length) own ++ mHB 3 Z) (mvI 3) (yC (rowA ν 1 row).1 - yC ν) (yS (rowA ν 1 row).1 - yS ν)
    (fun r h' => ∃ j Z', (rowA ν 1 row).1.2.1.1[j]? = some (rowA ν 1 row).2 ∧ r = some (.int (nI j)) ∧ h' = sX pt rw (nI row.length) own ++ mHB 3 Z' ∧ yR Z' (rowA ν 1 row).1) := by
  have hle := rowA_le row (m := 1) (yR_N hy)
  generalize hA : rowA ν 1 row = A at *
  obtain ⟨νF, mF⟩ := A
  dsimp only at *
  refine sp_of (by decide) (Nat.le_of_ble_eq_true rfl) ?_
  generalize hG : ((d + 7, _, mvI 3, _, _, _) : aG) = G
  have ggd : gD G = d + 7 := by subst hG; rfl
  have ggn : gN G = 21 := by subst hG; rfl
  have ggm : gM G = mvI 3 := by subst hG; rfl
  have ggc : gC G = yC νF - yC ν := by subst hG; rfl
  have ggs : gS G = yS νF - yS ν := by subst hG; rfl
  have hret : ∀ j Z k' n', νF.2.1.1[j]? = some mF → yR Z νF → k' ≤ gC G → n' ≤ gS G → RET G (some (.int (nI j))) (sX pt rw (nI row.length) own ++ mHB 3 Z) k' n' := by
    subst hG
    exact fun j Z k' n' q1 q2 q3 q4 => RET.id ⟨j, Z, q1, rfl, rfl, q2⟩ q3 q4
  clear hG
  have hf := l_stand pt rw own row hrw hl (by rw [ggd]; omega) ggn ggm νF mF hF14 hret row 0 0 1 ν Z 0 0 rfl (by omega) hy (y_ok hy).2.2.2.1 hL hA (by rw [ggc]; omega) (by rw [ggs]; omega)
  refine wp_aw (S := fun x => x == 4) (by decide) 200 _ _ _ _ _ _ ?_
  simp (disch := first | exact rfl | decide | omega) only [u_91_0, u_91_1, u_91_2, u_91_3, u_91_4, u_91_5, u_91_6, u_91_9, u_91_12, u_91_13, u_91_15, u_91_18, u_91_19, u_91_20, u_91_21, u_91_24, u_91_25, u_91_26, u_91_29, u_91_30, u_91_33, u_91_36, u_91_37, wp_stop, lget, lput1, lput2, kil, hget, hset, vget, vset, fget, fgetC, fput, fputC, iget, igetC, jget, jgetC, qget, qgetC, alen, lenC, oI, oJ, oF, oA, oV, oH, oInc, oIld, oJld, oQld, oR, oLen, oIst, oBst, oJst, oQst, ciOf, rcv, oCp, cat1, cond_true, cond_false, Bool.and_self, Bool.and_true, Bool.true_and, Bool.or_true, Bool.true_or, Bool.or_false, Bool.false_or, Bool.not_false, Bool.not_true, ↓reduceIte, Nat.reduceBEq, Nat.reduceEqDiff, beq_self_eq_true, true_and, and_true, eq_self_iff_true, Nat.reduceAdd, Nat.blt, Nat.ble, z_le, z_lt, z_eq, z_cl, z_add, z_sub, z_mul, z_in, z_lt0, z_ofN, z_m1, z_ltm1, z_m1lt, z_eqm1, z_m1eq, z_m1le, z_lem1, z_beq, nI_0_1, nI_m1lt0, nI_0lem1, not_false_eq_true, not_true_eq_false, forall_const, false_implies, true_implies, implies_true, false_and, and_false, mrg, renc, tra, trv, sg, List.map_cons, List.map_nil, Option.map_some, Option.map_none, Option.toList_some, Option.toList_none, List.cons_append, List.nil_append, List.length_cons, List.length_nil, eL, mL_91, sX]
  exact hf
end SI
