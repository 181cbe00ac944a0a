/-! RowCounter.count, whole; machines with their counts -/
/-- a machine: pattern, what it knows, the plan's rooms, how far it has counted -/
abbrev aN : Type := Int64 × aM × Nat × Nat × Int32
def nZ (ν : aN) (co : Nat → Int32) : aZ := (ν.1, ν.2.1, ν.2.2.1, ν.2.2.2.1, ν.2.2.2.2, co)
def coI (p : Int64) (c : Int32) (co : Nat → Int32) : Prop := c = -1 ∨ ∃ k, k ≤ 6 ∧ c = nI k ∧ coK p k co
def yR (Z : PS × MS) (ν : aN) : Prop := ∃ co, zR Z (nZ ν co) ∧ coI ν.1 ν.2.2.2.2 co ∧ ν.2.1.1[0]? = some 1
def yS (ν : aN) : Nat := uS ν.2.1 + 2 * ν.2.2.2.1 + 3 * tri ν.2.2.1
def yC (ν : aN) : Nat := uC ν.2.1 + ν.2.2.2.1 + 3 * ν.2.2.1
/-- a machine and the rooms of the counter -/
abbrev aT : Type := aN × Nat × Nat
noncomputable def ctG (n : Nat) (τ : aT) : cG := cnG τ.1.1 (n - 1) (nZ τ.1 (fun _ => 0), τ.2.1, τ.2.2)
noncomputable def ctN (n : Nat) (τ : aT) : aT := if nI n ≤ τ.1.2.2.2.2 then τ else (((ctG n τ).1.1, (ctG n τ).1.2.1, (ctG n τ).1.2.2.1, (ctG n τ).1.2.2.2.1, nI n), (ctG n τ).2.1, (ctG n τ).2.2)
def tS (τ : aT) : Nat := yS τ.1 + 2 * τ.2.1 + 2 * τ.2.2
def tC (τ : aT) : Nat := yC τ.1 + τ.2.1 + τ.2.2
def szT (na nb : Nat) : Prop := 16 ≤ na ∧ na ≤ 2 ^ 15 ∧ 16 ≤ nb ∧ nb ≤ 2 ^ 15
theorem w0_ok {p : Int64} {L : List Nat} {na : Nat} {wa : Nat → Int32} (hn : L.Nodup) (h0 : L[0]? = some 1) (hna : 0 < na) (h1 : wa 0 = nI 1) (h2 : ∀ i, 0 < i → i < na → wa i = nI 0) : wOK L (cL p 0) na wa ∧ accI L (cL p 0) na := by
  have e : ∀ m, cL p 0 m = if m = 1 then 1 else 0 := by
    intro m
    show [1].count m = _
    by_cases q : m = 1
    · subst q
      rfl
    · rw [if_neg q]
      simp [List.count_cons, Ne.symm q]
  refine ⟨fun i hi => ?_, fun m hm => ?_⟩
  · by_cases q : i = 0
    · subst q
      rw [h1, h0]
      show nI 1 = nI (cL p 0 1)
      rw [e 1, if_pos rfl]
    · rw [h2 i (by omega) hi]
      cases hc : L[i]? with
      | none => rfl
      | some m =>
        show nI 0 = nI (cL p 0 m)
        rw [e m, if_neg (fun z => by subst z; exact q (nd_get hn hc h0))]
  · rw [e m] at hm
    by_cases q : m = 1
    · subst q
      exact ⟨0, hna, h0⟩
    · rw [if_neg q] at hm
      exact absurd rfl hm
set_option maxRecDepth 100000 in
theorem y_count (d n : Nat) (hn : n ≤ 6) {Z : PS × MS} (τ : aT) (wa wb : Nat → Int32) (h : yR Z τ.1) (hs : szT τ.2.1 τ.2.2) (hlen : (ctN n τ).1.2.1.1.length ≤ 2 ^ 14) :
    aSp (d + 9) 65 [.ref 0, .ref 3, .int (nI n)] (cH τ.2.1 wa τ.2.2 wb Z) mvC (tC (ctN n τ) - tC τ) (tS (ctN n τ) - tS τ)
      (fun r h' => r = some (.int (nI (cntR τ.1.1 n))) ∧ ∃ wa' wb' Z', h' = cH (ctN n τ).2.1 wa' (ctN n τ).2.2 wb' Z' ∧ yR Z' (ctN n τ).1 ∧ szT (ctN n τ).2.1 (ctN n τ).2.2) := by
  obtain ⟨co, hz, hc, h0⟩ := h
  have hcc : Z.2.counted = τ.1.2.2.2.2 := (zR_f hz).2.1
  have hoo : Z.2.co = co := (zR_f hz).2.2.1
  have t1 : ¬ n < 0 := by omega
  have t2 : n ≤ 6 := hn
  by_cases hle : nI n ≤ τ.1.2.2.2.2
  · have e : ctN n τ = τ := if_pos hle
    rw [e]
    refine sp_of (by decide) (Nat.le_of_ble_eq_true rfl) ?_
    generalize hG : ((d + 9, _, mvC, _, _, _) : aG) = G
    have ggd : gD G = d + 9 := by subst hG; rfl
    have ggn : gN G = 21 := by subst hG; rfl
    have ggm : gM G = mvC := by subst hG; rfl
    have ggc : gC G = tC τ - tC τ := by subst hG; rfl
    have ggs : gS G = tS τ - tS τ := by subst hG; rfl
    have hret : RET G (some (.int (nI (cntR τ.1.1 n)))) (cH τ.2.1 wa τ.2.2 wb Z) 0 0 := by
      subst hG
      exact RET.id ⟨rfl, wa, wb, Z, rfl, ⟨co, hz, hc, h0⟩, hs⟩ (Nat.zero_le _) (Nat.zero_le _)
    clear hG
    have hcn : Z.2.co n = nI (cntR τ.1.1 n) := by
      rw [hoo]
      rcases hc with q | ⟨k, k1, k2, k3⟩
      · rw [q] at hle
        exact absurd hle (by rw [z_lem1 (by omega)]; exact not_false)
      · rw [k2] at hle
        exact k3 n ((z_le (by omega) (by omega)).mp hle)
    rw [← hcc] at hle
    obtain ⟨P, M⟩ := Z
    have hle2 : nI n ≤ M.counted := hle
    have hcn2 : M.co n = nI (cntR τ.1.1 n) := hcn
    have t3 : n < 7 := by omega
    refine wp_aw (S := fun x => x == 27) (by decide) 200 _ _ _ _ _ _ ?_
    simp (disch := first | exact rfl | decide | omega) only [u_65_0, u_65_1, u_65_4, u_65_5, u_65_7, u_65_10, u_65_11, u_65_12, u_65_13, u_65_14, u_65_17, u_65_20, u_65_21, u_65_22, u_65_25, u_65_26, u_65_27, u_65_28, u_65_29, u_65_32, u_65_33, u_65_36, u_65_37, u_65_38, u_65_39, u_65_42, u_65_43, u_65_44, u_65_45, u_65_48, u_65_49, u_65_50, u_65_53, u_65_56, u_65_59, u_65_60, u_65_61, u_65_64, u_65_65, u_65_68, u_65_69, u_65_70, wp_stop, lget, lput1, lput2, kil, hget, hset, vget, vset, fget, fgetC, fput, fputC, iget, igetC, jget, jgetC, qget, qgetC, alen, lenC, oI, oJ, oF, oA, oV, oH, oInc, oIld, oJld, oQld, oR, oLen, oIst, oBst, oJst, oQst, ciOf, rcv, oCp, cat1, cond_true, cond_false, Bool.and_self, Bool.and_true, Bool.true_and, Bool.or_true, Bool.true_or, Bool.or_false, Bool.false_or, Bool.not_false, Bool.not_true, ↓reduceIte, Nat.reduceBEq, Nat.reduceEqDiff, beq_self_eq_true, true_and, and_true, eq_self_iff_true, Nat.reduceAdd, Nat.blt, Nat.ble, z_le, z_lt, z_eq, z_cl, z_add, z_sub, z_mul, z_in, z_lt0, z_ofN, z_m1, z_ltm1, z_m1lt, z_eqm1, z_m1eq, z_m1le, z_lem1, z_beq, nI_0_1, nI_m1lt0, nI_0lem1, not_false_eq_true, not_true_eq_false, forall_const, false_implies, true_implies, implies_true, false_and, and_false, mrg, renc, tra, trv, sg, List.map_cons, List.map_nil, Option.map_some, Option.map_none, Option.toList_some, Option.toList_none, List.cons_append, List.nil_append, List.length_cons, List.length_nil, eL, mL_65, cH, cF, mHB, mH, mO, mPO, t1, t2, hle2, hcn2]
    exact hret
  · have e : ctN n τ = (((ctG n τ).1.1, (ctG n τ).1.2.1, (ctG n τ).1.2.2.1, (ctG n τ).1.2.2.2.1, nI n), (ctG n τ).2.1, (ctG n τ).2.2) := if_neg hle
    have hok : okA (nZ τ.1 (fun _ => 0)) := by
      have := zR_A hz
      exact this
    have hG0 := (cnG_le (p := τ.1.1) (n - 1) (γ := (nZ τ.1 (fun _ => 0), τ.2.1, τ.2.2)) hok).1
    rw [show cnG τ.1.1 (n - 1) (nZ τ.1 (fun _ => 0), τ.2.1, τ.2.2) = ctG n τ from rfl] at hG0
    rw [e] at hlen ⊢
    generalize hγ : ctG n τ = γ at *
    obtain ⟨r1, r2, r3, r4, r5⟩ := hG0
    have r1' : tS τ ≤ zS γ.1 + 2 * γ.2.1 + 2 * γ.2.2 := r1
    have r2' : tC τ ≤ zC γ.1 + γ.2.1 + γ.2.2 := r2
    refine sp_of (by decide) (Nat.le_of_ble_eq_true rfl) ?_
    generalize hG : ((d + 9, _, mvC, _, _, _) : aG) = G
    have ggd : gD G = d + 9 := by subst hG; rfl
    have ggn : gN G = 21 := by subst hG; rfl
    have ggm : gM G = mvC := by subst hG; rfl
    have ggc : gC G = (zC γ.1 + γ.2.1 + γ.2.2) - tC τ := by subst hG; rfl
    have ggs : gS G = (zS γ.1 + 2 * γ.2.1 + 2 * γ.2.2) - tS τ := by subst hG; rfl
    have hret : ∀ h' k' n', cnE τ.1.1 n γ h' → k' ≤ gC G → n' ≤ gS G → RET G (some (.int (nI (cntR τ.1.1 n)))) h' k' n' := by
      subst hG
      rintro h' k' n' ⟨wa', wb', Z', co', rfl, q1, q2, q3, q4, q5, q6⟩ hk' hn'
      refine RET.id ⟨rfl, wa', wb', Z', rfl, ⟨co', ?_, Or.inr ⟨n, hn, rfl, ?_⟩, ?_⟩, q3, q4, q5, q6⟩ hk' hn'
      · exact q1
      · show coK γ.1.1 n co'
        rw [show γ.1.1 = τ.1.1 from r4.symm]
        exact q2
      · exact r3 0 1 h0
    clear hG
    have hbe := c_cBegin (d + 6) τ.2.1 wa τ.2.2 wb hz 1 h0 (by have := hs.1; omega) (by have := hs.2.1; omega)
    rw [hcc, hoo] at hbe
    have hz1 := coZ_R hz τ.1.2.2.2.2 (upd co 0 (bN ((trM (dT τ.1.1) 1).testBit 8)))
    have hk0 : coK τ.1.1 0 (upd co 0 (bN ((trM (dT τ.1.1) 1).testBit 8))) := by
      intro i hi
      have : i = 0 := by omega
      subst this
      rw [upd_s]
      unfold cntR
      cases (trM (dT τ.1.1) 1).testBit 8 <;> rfl
    have hle2 : ¬ nI n ≤ Z.2.counted := by rw [hcc]; exact hle
    have hnd := (zR_L hz).2.1
    have hbe2 : aSp (d + 6 + 2) 66 [.ref 0, .ref 3] (cH τ.2.1 wa τ.2.2 wb Z) nomv 0 0 (fun r h' => r = none ∧ ∃ wa', h' = cH τ.2.1 wa' τ.2.2 wb (coU Z τ.1.2.2.2.2 (upd co 0 (bN ((trM (dT τ.1.1) 1).testBit 8)))) ∧ wa' 0 = nI 1 ∧ ∀ i, 0 < i → i < τ.2.1 → wa' i = nI 0) := hbe
    clear hbe
    generalize upd co 0 (bN ((trM (dT τ.1.1) 1).testBit 8)) = co1 at *
    generalize hZ1 : coU Z τ.1.2.2.2.2 co1 = Z1 at *
    have hgo : ∀ wa', wa' 0 = nI 1 → (∀ i, 0 < i → i < τ.2.1 → wa' i = nI 0) → AW 65 G 27 [some (.ref 0), some (.ref 3), some (.int (nI n)), some (.int (nI 1))] [] (cH τ.2.1 wa' τ.2.2 wb Z1) 0 0 := by
      intro wa' w1 w2
      obtain ⟨o1, o2⟩ := w0_ok (p := τ.1.1) hnd h0 (by have := hs.1; omega) w1 w2
      have hJ : cnJ τ.1.1 0 (nZ τ.1 (fun _ => 0), τ.2.1, τ.2.2) τ.1.2.2.2.2 co1 Z1 wa' := ⟨hz1, rfl, o1, o2, hs.1, hs.2.1, hs.2.2.1, hs.2.2.2⟩
      by_cases hn0 : n = 0
      · subst hn0
        have e0 : γ = (nZ τ.1 (fun _ => 0), τ.2.1, τ.2.2) := hγ.symm
        subst e0
        exact l_cnX τ.1.1 0 _ hn hret 0 _ co1 Z1 wa' wb 0 0 hJ hk0 (Nat.zero_le _) (Nat.zero_le _)
      · refine l_cn τ.1.1 n γ (nZ τ.1 (fun _ => 0), τ.2.1, τ.2.2) hok hn (by omega) hγ.symm hlen (by rw [ggd]; omega) ggn ggm hret (n - 1) 0 _ co1 Z1 wa' wb 0 0 (by omega) hJ hk0 ?_ ?_
        · rw [ggc]
          show 0 + (zC γ.1 + γ.2.1 + γ.2.2) ≤ _ + tC τ
          omega
        · rw [ggs]
          show 0 + (zS γ.1 + 2 * γ.2.1 + 2 * γ.2.2) ≤ _ + tS τ
          omega
    clear hret
    obtain ⟨P, M⟩ := Z
    have hle3 : ¬ nI n ≤ M.counted := hle2
    refine wp_aw (S := fun x => x == 27) (by decide) 200 _ _ _ _ _ _ ?_
    simp (disch := first | exact rfl | decide | omega) only [u_65_0, u_65_1, u_65_4, u_65_5, u_65_7, u_65_10, u_65_11, u_65_12, u_65_13, u_65_14, u_65_17, u_65_20, u_65_21, u_65_22, u_65_25, u_65_26, u_65_27, u_65_28, u_65_29, u_65_32, u_65_33, u_65_36, u_65_37, u_65_38, u_65_39, u_65_42, u_65_43, u_65_44, u_65_45, u_65_48, u_65_49, u_65_50, u_65_53, u_65_56, u_65_59, u_65_60, u_65_61, u_65_64, u_65_65, u_65_68, u_65_69, u_65_70, wp_stop, lget, lput1, lput2, kil, hget, hset, vget, vset, fget, fgetC, fput, fputC, iget, igetC, jget, jgetC, qget, qgetC, alen, lenC, oI, oJ, oF, oA, oV, oH, oInc, oIld, oJld, oQld, oR, oLen, oIst, oBst, oJst, oQst, ciOf, rcv, oCp, cat1, cond_true, cond_false, Bool.and_self, Bool.and_true, Bool.true_and, Bool.or_true, Bool.true_or, Bool.or_false, Bool.false_or, Bool.not_false, Bool.not_true, ↓reduceIte, Nat.reduceBEq, Nat.reduceEqDiff, beq_self_eq_true, true_and, and_true, eq_self_iff_true, Nat.reduceAdd, Nat.blt, Nat.ble, z_le, z_lt, z_eq, z_cl, z_add, z_sub, z_mul, z_in, z_lt0, z_ofN, z_m1, z_ltm1, z_m1lt, z_eqm1, z_m1eq, z_m1le, z_lem1, z_beq, nI_0_1, nI_m1lt0, nI_0lem1, not_false_eq_true, not_true_eq_false, forall_const, false_implies, true_implies, implies_true, false_and, and_false, mrg, renc, tra, trv, sg, List.map_cons, List.map_nil, Option.map_some, Option.map_none, Option.toList_some, Option.toList_none, List.cons_append, List.nil_append, List.length_cons, List.length_nil, eL, mL_65, cH, cF, mHB, mH, mO, mPO, t1, t2, hle3]
    refine CAL.dir hbe2 (by rw [ggd]; omega) (by rw [ggc]; omega) (by rw [ggs]; omega) (Nat.le_of_ble_eq_true rfl) (by rw [ggn]; exact Nat.le_of_ble_eq_true rfl) rfl rfl ?_
    rintro _ _ ⟨rfl, wa', rfl, w1, w2⟩
    simp (disch := first | exact rfl | decide | omega) only [u_65_0, u_65_1, u_65_4, u_65_5, u_65_7, u_65_10, u_65_11, u_65_12, u_65_13, u_65_14, u_65_17, u_65_20, u_65_21, u_65_22, u_65_25, u_65_26, u_65_27, u_65_28, u_65_29, u_65_32, u_65_33, u_65_36, u_65_37, u_65_38, u_65_39, u_65_42, u_65_43, u_65_44, u_65_45, u_65_48, u_65_49, u_65_50, u_65_53, u_65_56, u_65_59, u_65_60, u_65_61, u_65_64, u_65_65, u_65_68, u_65_69, u_65_70, wp_stop, lget, lput1, lput2, kil, hget, hset, vget, vset, fget, fgetC, fput, fputC, iget, igetC, jget, jgetC, qget, qgetC, alen, lenC, oI, oJ, oF, oA, oV, oH, oInc, oIld, oJld, oQld, oR, oLen, oIst, oBst, oJst, oQst, ciOf, rcv, oCp, cat1, cond_true, cond_false, Bool.and_self, Bool.and_true, Bool.true_and, Bool.or_true, Bool.true_or, Bool.or_false, Bool.false_or, Bool.not_false, Bool.not_true, ↓reduceIte, Nat.reduceBEq, Nat.reduceEqDiff, beq_self_eq_true, true_and, and_true, eq_self_iff_true, Nat.reduceAdd, Nat.blt, Nat.ble, z_le, z_lt, z_eq, z_cl, z_add, z_sub, z_mul, z_in, z_lt0, z_ofN, z_m1, z_ltm1, z_m1lt, z_eqm1, z_m1eq, z_m1le, z_lem1, z_beq, nI_0_1, nI_m1lt0, nI_0lem1, not_false_eq_true, not_true_eq_false, forall_const, false_implies, true_implies, implies_true, false_and, and_false, mrg, renc, tra, trv, sg, List.map_cons, List.map_nil, Option.map_some, Option.map_none, Option.toList_some, Option.toList_none, List.cons_append, List.nil_append, List.length_cons, List.length_nil, cH, cF]
    exact hgo wa' w1 w2
