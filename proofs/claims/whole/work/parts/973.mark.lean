/-! ResidualJudge: judge, mark -/
/-- letters told, a flaw's place and letters are within bounds -/
def kbI (κ : kB) (i : Nat) : Prop := κ.2.2.2.1 ≤ i ∧ ∀ t, κ.2.2.1 = some t → t.1 ≤ i ∧ t.2.2.2 ≤ κ.2.2.2.1
def qI (q : aQ) (i le : Nat) : Prop := ∀ t, q = some t → t.1 ≤ i ∧ t.2.2.2 ≤ le
theorem qI_mono {q : aQ} {i le i' le' : Nat} (h : qI q i le) (h1 : i ≤ i') (h2 : le ≤ le') : qI q i' le' := fun t ht => ⟨Nat.le_trans (h t ht).1 h1, Nat.le_trans (h t ht).2 h2⟩
theorem eaA_I {q : aQ} {pl : Nat} {p : Int64} {m le i : Nat} (h : qI q i le) (hp : pl ≤ i) : qI (eaA q pl p m le) i le := by
  intro t ht
  cases q with
  | some t2 => exact h t ht
  | none =>
    unfold eaA at ht
    simp only at ht
    split at ht
    · exact absurd ht (by simp)
    · have := Option.some.inj ht
      rw [← this]
      exact ⟨hp, Nat.le_refl _⟩
theorem ebA_I {ν : Nat → aN} {br : Option Nat} {q : aQ} {pl le i : Nat} (h : qI q i le) (hp : pl ≤ i) : qI (ebA ν br q pl le) i le := by
  unfold ebA
  cases br with
  | none => exact h
  | some b => exact eaA_I h hp
theorem kbE_I {κ : kB} {i pl : Nat} (h : kbI κ i) (hp : pl ≤ i) : qI (kbE κ pl) i κ.2.2.2.1 := by
  unfold kbE
  split
  · exact fun t ht => absurd ht (by simp)
  · exact eaA_I (ebA_I h.2 hp) hp
theorem kbL_I {κ : kB} {i : Nat} (so : Nat) (h : kbI κ i) : kbI (kbL κ so i) (i + 1) := by
  have he := ebA_I (ν := κ.2.2.2.2.2) (br := κ.2.1) h.2 (Nat.le_refl i)
  have hl := h.1
  unfold kbL
  split
  · next t R e1 =>
    rw [e1] at he
    exact ⟨by show κ.2.2.2.1 + 1 ≤ i + 1; omega, qI_mono he (by omega) (by show κ.2.2.2.1 ≤ κ.2.2.2.1 + 1; omega)⟩
  · exact ⟨by omega, qI_mono h.2 (by omega) (by omega)⟩
  · next x m R e1 e2 =>
    split
    · exact ⟨by show κ.2.2.2.1 + 1 ≤ i + 1; omega, fun t ht => absurd ht (by simp)⟩
    · refine ⟨by show κ.2.2.2.1 + 1 ≤ i + 1; omega, fun t ht => ?_⟩
      rw [← Option.some.inj ht]
      exact ⟨by show i ≤ i + 1; omega, by show κ.2.2.2.1 ≤ κ.2.2.2.1 + 1; omega⟩
theorem kbC_I {κ : kB} {i : Nat} (h : kbI κ i) : kbI (kbC κ i) (i + 1) := ⟨by show κ.2.2.2.1 ≤ i + 1; have := h.1; omega, qI_mono (kbE_I h (Nat.le_refl _)) (by omega) (Nat.le_refl _)⟩
theorem kbT_I {κ κ' : kB} {c i : Nat} (h : kbI κ i) (e : kbT κ c i = some κ') : kbI κ' (i + 1) := by
  have h1 : kbI κ (i + 1) := ⟨Nat.le_succ_of_le h.1, qI_mono h.2 (by omega) (Nat.le_refl _)⟩
  unfold kbT at e
  split at e
  · rw [← Option.some.inj e]
    exact kbL_I _ h
  · split at e
    · split at e
      · rw [← Option.some.inj e]
        exact h1
      · split at e
        · rw [← Option.some.inj e]
          exact kbC_I h
        · split at e
          · rw [← Option.some.inj e]
            exact h1
          · exact absurd e (by simp)
    · split at e
      · rw [← Option.some.inj e]
        exact kbC_I h
      · split at e
        · rw [← Option.some.inj e]
          exact h1
        · exact absurd e (by simp)
theorem kbF_I : ∀ (cs : List Nat) {κ : kB} {i : Nat}, kbI κ i → kbI (kbF κ cs i).2 (i + cs.length) ∧ ∀ j, (kbF κ cs i).1 = some j → j < i + cs.length
  | [], κ, i, h => ⟨h, fun j hj => absurd hj (by simp [kbF])⟩
  | c :: cs, κ, i, h => by
    rw [List.length_cons]
    unfold kbF
    split
    · exact ⟨⟨by show κ.2.2.2.1 ≤ _; have := h.1; omega, qI_mono h.2 (by omega) (Nat.le_refl _)⟩, fun j hj => by rw [← Option.some.inj hj]; omega⟩
    · next κ' e =>
      have := kbF_I cs (kbT_I h e)
      rw [show i + 1 + cs.length = i + (cs.length + 1) by omega] at this
      exact this
theorem kbI_0 (ν : Nat → aN) : kbI (kb0 ν) 0 := ⟨Nat.le_refl _, fun t ht => absurd ht (by simp)⟩
theorem kbW_le {ν : Nat → aN} {T : List Nat} {i : Nat} (h : kbW (kb0 ν) T = some i) : i ≤ T.length := by
  have h1 := (kbF_I T (kbI_0 ν)).2
  unfold kbW at h
  split at h
  · next j e =>
    rw [← Option.some.inj h]
    have := h1 j e
    omega
  · split at h
    · rw [← Option.some.inj h]
      exact Nat.le_refl _
    · exact absurd h (by simp)
theorem kbE_le (ν : Nat → aN) (T : List Nat) : (kbF (kb0 ν) T 0).2.2.2.2.1 ≤ T.length ∧ qI (kbE (kbF (kb0 ν) T 0).2 T.length) T.length (kbF (kb0 ν) T 0).2.2.2.2.1 := by
  have h1 := (kbF_I T (kbI_0 ν)).1
  rw [Nat.zero_add] at h1
  exact ⟨h1.1, kbE_I h1 (Nat.le_refl _)⟩
theorem qI_OK {q : aQ} {i le : Nat} (h : qI q i le) (hi : i < 2 ^ 20) : qOK q := fun t ht => Nat.lt_of_le_of_lt (h t ht).1 hi
/-- the share of a book -/
def shF (q : aQ) (le : Nat) : UInt32 := if le = 0 then (if q.isNone then FP.fconst1 else FP.fconst0) else FP.fdiv (FP.i2f (nI (match q with | none => le | some t => t.2.2.2))) (FP.i2f (nI le))
theorem shF_R {q : aQ} {le i : Nat} (h : le ≤ 150) (hq : qI q i le) : shR (shF q le) := by
  unfold shF
  by_cases q0 : le = 0
  · rw [if_pos q0]
    cases q with
    | none => exact Or.inr (by decide)
    | some t => exact Or.inl rfl
  · rw [if_neg q0]
    cases q with
    | none => exact sh_R (by omega) h (Nat.le_refl _)
    | some t => exact sh_R (by omega) h (hq t rfl).2
/-- the book's cell -/
abbrev bkQ (q : aQ) (le de : Nat) (dp br : Int32) (ow st : Nat → Int32) : jB := (dp, br, (fv q).1, (fv q).2.1, (fv q).2.2.1, nI le, (fv q).2.2.2, nI de, ow, st)
set_option maxRecDepth 100000 in
theorem c_share (d le de i : Nat) (q : aQ) (hq : qI q i le) (hi : i < 2 ^ 20) (hle : le ≤ 150) (J : jS) (PM : Nat → PS × MS) (dp br : Int32) (ow st : Nat → Int32) : aSp d 87 [.ref 28] (jH (bkJ J (bkQ q le de dp br ow st)) PM) nomv 0 0 (fun r h' => r = some (.float (shF q le)) ∧ h' = jH (bkJ J (bkQ q le de dp br ow st)) PM) := by
  have hn := shR_n (shF_R hle hq)
  refine sp_of (by decide) (Nat.le_of_ble_eq_true rfl) ?_
  generalize hG : ((d, _, nomv, _, _, _) : aG) = G
  have ggd : gD G = d := by subst hG; rfl
  have ggn : gN G = 193 := by subst hG; exact jH_len _ _
  have ggm : gM G = nomv := by subst hG; rfl
  have ggc : gC G = 0 := by subst hG; rfl
  have ggs : gS G = 0 := by subst hG; rfl
  have hret : RET G (some (.float (shF q le))) (jH (bkJ J (bkQ q le de dp br ow st)) PM) 0 0 := by
    subst hG
    exact RET.id ⟨rfl, rfl⟩ (Nat.le_refl _) (Nat.le_refl _)
  clear hG
  by_cases q0 : le = 0
  · subst q0
    cases q with
    | none =>
      have e : shF none 0 = FP.fconst1 := rfl
      have e2 : (fv none) = (-1, nI 0, nI 1, nI 0) := rfl
      rw [e] at hret
      simp only [bkQ, e2] at hret ⊢
      refine wp_aw (S := fun _ => false) (by decide) 200 _ _ _ _ _ _ ?_
      simp (disch := first | exact rfl | decide | omega) only [u_87_0, u_87_1, u_87_4, u_87_7, u_87_8, u_87_11, u_87_12, u_87_15, u_87_16, u_87_19, u_87_20, u_87_21, u_87_22, u_87_25, u_87_26, u_87_29, u_87_30, u_87_33, u_87_36, u_87_37, u_87_40, u_87_41, u_87_42, u_87_45, u_87_46, u_87_47, wp_stop, lget, lput1, lput2, kil, hget, hset, vget, vset, fget, fgetC, fput, fputC, iget, igetC, jget, jgetC, qget, qgetC, alen, lenC, oI, oJ, oF, oA, oV, oH, oInc, oIld, oJld, oQld, oR, oLen, oIst, oBst, oJst, oQst, ciOf, rcv, oCp, cat1, cond_true, cond_false, Bool.and_self, Bool.and_true, Bool.true_and, Bool.or_true, Bool.true_or, Bool.or_false, Bool.false_or, Bool.not_false, Bool.not_true, ↓reduceIte, Nat.reduceBEq, Nat.reduceEqDiff, beq_self_eq_true, true_and, and_true, eq_self_iff_true, Nat.reduceAdd, Nat.blt, Nat.ble, z_le, z_lt, z_eq, z_cl, z_add, z_sub, z_mul, z_in, z_lt0, z_ofN, z_m1, z_ltm1, z_m1lt, z_eqm1, z_m1eq, z_m1le, z_lem1, z_beq, nI_0_1, nI_m1lt0, nI_0lem1, not_false_eq_true, not_true_eq_false, forall_const, false_implies, true_implies, implies_true, false_and, and_false, mrg, renc, tra, trv, sg, List.map_cons, List.map_nil, Option.map_some, Option.map_none, Option.toList_some, Option.toList_none, List.cons_append, List.nil_append, List.length_cons, List.length_nil, eL, mL_87, jH, jF]
      exact hret
    | some t =>
      obtain ⟨t1, t2⟩ := t
      have e : shF (some (t1, t2)) 0 = FP.fconst0 := rfl
      have ht1 : t1 < 2 ^ 31 := by have := (hq _ rfl).1; dsimp only at this; omega
      rw [e] at hret
      have e2 : (fv (some (t1, t2))).1 = nI t1 := rfl
      simp only [bkQ, e2] at hret ⊢
      generalize (fv (some (t1, t2))).2 = z at *
      refine wp_aw (S := fun _ => false) (by decide) 200 _ _ _ _ _ _ ?_
      simp (disch := first | exact rfl | decide | omega) only [u_87_0, u_87_1, u_87_4, u_87_7, u_87_8, u_87_11, u_87_12, u_87_15, u_87_16, u_87_19, u_87_20, u_87_21, u_87_22, u_87_25, u_87_26, u_87_29, u_87_30, u_87_33, u_87_36, u_87_37, u_87_40, u_87_41, u_87_42, u_87_45, u_87_46, u_87_47, wp_stop, lget, lput1, lput2, kil, hget, hset, vget, vset, fget, fgetC, fput, fputC, iget, igetC, jget, jgetC, qget, qgetC, alen, lenC, oI, oJ, oF, oA, oV, oH, oInc, oIld, oJld, oQld, oR, oLen, oIst, oBst, oJst, oQst, ciOf, rcv, oCp, cat1, cond_true, cond_false, Bool.and_self, Bool.and_true, Bool.true_and, Bool.or_true, Bool.true_or, Bool.or_false, Bool.false_or, Bool.not_false, Bool.not_true, ↓reduceIte, Nat.reduceBEq, Nat.reduceEqDiff, beq_self_eq_true, true_and, and_true, eq_self_iff_true, Nat.reduceAdd, Nat.blt, Nat.ble, z_le, z_lt, z_eq, z_cl, z_add, z_sub, z_mul, z_in, z_lt0, z_ofN, z_m1, z_ltm1, z_m1lt, z_eqm1, z_m1eq, z_m1le, z_lem1, z_beq, nI_0_1, nI_m1lt0, nI_0lem1, not_false_eq_true, not_true_eq_false, forall_const, false_implies, true_implies, implies_true, false_and, and_false, mrg, renc, tra, trv, sg, List.map_cons, List.map_nil, Option.map_some, Option.map_none, Option.toList_some, Option.toList_none, List.cons_append, List.nil_append, List.length_cons, List.length_nil, eL, mL_87, jH, jF]
      exact hret
  · cases q with
    | none =>
      have e : shF none le = FP.fdiv (FP.i2f (nI le)) (FP.i2f (nI le)) := if_neg q0
      have e2 : (fv none) = (-1, nI 0, nI 1, nI 0) := rfl
      rw [e] at hret hn
      simp only [bkQ, e2] at hret ⊢
      refine wp_aw (S := fun _ => false) (by decide) 200 _ _ _ _ _ _ ?_
      simp (disch := first | exact rfl | decide | omega) only [u_87_0, u_87_1, u_87_4, u_87_7, u_87_8, u_87_11, u_87_12, u_87_15, u_87_16, u_87_19, u_87_20, u_87_21, u_87_22, u_87_25, u_87_26, u_87_29, u_87_30, u_87_33, u_87_36, u_87_37, u_87_40, u_87_41, u_87_42, u_87_45, u_87_46, u_87_47, wp_stop, lget, lput1, lput2, kil, hget, hset, vget, vset, fget, fgetC, fput, fputC, iget, igetC, jget, jgetC, qget, qgetC, alen, lenC, oI, oJ, oF, oA, oV, oH, oInc, oIld, oJld, oQld, oR, oLen, oIst, oBst, oJst, oQst, ciOf, rcv, oCp, cat1, cond_true, cond_false, Bool.and_self, Bool.and_true, Bool.true_and, Bool.or_true, Bool.true_or, Bool.or_false, Bool.false_or, Bool.not_false, Bool.not_true, ↓reduceIte, Nat.reduceBEq, Nat.reduceEqDiff, beq_self_eq_true, true_and, and_true, eq_self_iff_true, Nat.reduceAdd, Nat.blt, Nat.ble, z_le, z_lt, z_eq, z_cl, z_add, z_sub, z_mul, z_in, z_lt0, z_ofN, z_m1, z_ltm1, z_m1lt, z_eqm1, z_m1eq, z_m1le, z_lem1, z_beq, nI_0_1, nI_m1lt0, nI_0lem1, not_false_eq_true, not_true_eq_false, forall_const, false_implies, true_implies, implies_true, false_and, and_false, mrg, renc, tra, trv, sg, List.map_cons, List.map_nil, Option.map_some, Option.map_none, Option.toList_some, Option.toList_none, List.cons_append, List.nil_append, List.length_cons, List.length_nil, eL, mL_87, jH, jF, q0, hn]
      exact hret
    | some t =>
      obtain ⟨t1, t2, t3, t4⟩ := t
      have e : shF (some (t1, t2, t3, t4)) le = FP.fdiv (FP.i2f (nI t4)) (FP.i2f (nI le)) := if_neg q0
      have ht1 : t1 < 2 ^ 31 := by have := (hq _ rfl).1; dsimp only at this; omega
      rw [e] at hret hn
      have e2 : fv (some (t1, t2, t3, t4)) = (nI t1, nI t2, bN t3, nI t4) := rfl
      simp only [bkQ, e2] at hret ⊢
      refine wp_aw (S := fun _ => false) (by decide) 200 _ _ _ _ _ _ ?_
      simp (disch := first | exact rfl | decide | omega) only [u_87_0, u_87_1, u_87_4, u_87_7, u_87_8, u_87_11, u_87_12, u_87_15, u_87_16, u_87_19, u_87_20, u_87_21, u_87_22, u_87_25, u_87_26, u_87_29, u_87_30, u_87_33, u_87_36, u_87_37, u_87_40, u_87_41, u_87_42, u_87_45, u_87_46, u_87_47, wp_stop, lget, lput1, lput2, kil, hget, hset, vget, vset, fget, fgetC, fput, fputC, iget, igetC, jget, jgetC, qget, qgetC, alen, lenC, oI, oJ, oF, oA, oV, oH, oInc, oIld, oJld, oQld, oR, oLen, oIst, oBst, oJst, oQst, ciOf, rcv, oCp, cat1, cond_true, cond_false, Bool.and_self, Bool.and_true, Bool.true_and, Bool.or_true, Bool.true_or, Bool.or_false, Bool.false_or, Bool.not_false, Bool.not_true, ↓reduceIte, Nat.reduceBEq, Nat.reduceEqDiff, beq_self_eq_true, true_and, and_true, eq_self_iff_true, Nat.reduceAdd, Nat.blt, Nat.ble, z_le, z_lt, z_eq, z_cl, z_add, z_sub, z_mul, z_in, z_lt0, z_ofN, z_m1, z_ltm1, z_m1lt, z_eqm1, z_m1eq, z_m1le, z_lem1, z_beq, nI_0_1, nI_m1lt0, nI_0lem1, not_false_eq_true, not_true_eq_false, forall_const, false_implies, true_implies, implies_true, false_and, and_false, mrg, renc, tra, trv, sg, List.map_cons, List.map_nil, Option.map_some, Option.map_none, Option.toList_some, Option.toList_none, List.cons_append, List.nil_append, List.length_cons, List.length_nil, eL, mL_87, jH, jF, q0, hn]
      exact hret
