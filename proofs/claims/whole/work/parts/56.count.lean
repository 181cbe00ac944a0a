/-! RowCounter.count -/
/-- how many rows of a length a pattern allows -/
noncomputable def cntR (p : Int64) : Nat → Nat
  | 0 => if (trM (dT p) 1).testBit 8 = true then 1 else 0
  | l + 1 => ((lvL (dG p) l).map (fun m => pcN (trM (dT p) m / 512))).sum
noncomputable def cL (p : Int64) (l m : Nat) : Nat := (lvL (dG p) l).count m
/-- a machine, the rooms of the two rows of ways -/
abbrev cG : Type := aZ × Nat × Nat
noncomputable def cnS (p : Int64) (l : Nat) (γ : cG) : cG := ((soL p (cL p l) (γ.1.2.1.1.take γ.2.1) (γ.1, γ.2.2, fun _ => 0)).1, (soL p (cL p l) (γ.1.2.1.1.take γ.2.1) (γ.1, γ.2.2, fun _ => 0)).2.1, γ.2.1)
noncomputable def cnG (p : Int64) : Nat → cG → cG
  | 0, γ => γ
  | l + 1, γ => cnS p l (cnG p l γ)
def gS2 (γ : cG) : Nat := zS γ.1 + 2 * γ.2.1 + 2 * γ.2.2
def gC2 (γ : cG) : Nat := zC γ.1 + γ.2.1 + γ.2.2
def leG (γ γ' : cG) : Prop := gS2 γ ≤ gS2 γ' ∧ gC2 γ ≤ gC2 γ' ∧ extL γ.1.2.1.1 γ'.1.2.1.1 ∧ γ.1.1 = γ'.1.1 ∧ γ.1.2.2 = γ'.1.2.2
theorem leG_tr {γ γ' γ2 : cG} (h : leG γ γ') (h2 : leG γ' γ2) : leG γ γ2 := ⟨Nat.le_trans h.1 h2.1, Nat.le_trans h.2.1 h2.2.1, extL_tr h.2.2.1 h2.2.2.1, h.2.2.2.1.trans h2.2.2.2.1, h.2.2.2.2.trans h2.2.2.2.2⟩
theorem cnS_le {p : Int64} {l : Nat} {γ : cG} (h : okA γ.1) : leG γ (cnS p l γ) ∧ okA (cnS p l γ).1 := by
  obtain ⟨h1, h2⟩ := soL_le (p := p) (c := cL p l) (γ.1.2.1.1.take γ.2.1) (β := (γ.1, γ.2.2, fun _ => 0)) h
  unfold cnS
  generalize soL p (cL p l) (γ.1.2.1.1.take γ.2.1) (γ.1, γ.2.2, fun _ => 0) = βF at *
  obtain ⟨a1, a2, a3, a4, a5, a6⟩ := h1
  unfold kS2 at a1
  unfold kC2 at a2
  dsimp only at *
  refine ⟨⟨?_, ?_, a3, a4, a5⟩, h2⟩
  · show zS γ.1 + 2 * γ.2.1 + 2 * γ.2.2 ≤ zS βF.1 + 2 * βF.2.1 + 2 * γ.2.1
    omega
  · show zC γ.1 + γ.2.1 + γ.2.2 ≤ zC βF.1 + βF.2.1 + γ.2.1
    omega
theorem cnG_le {p : Int64} : ∀ (l : Nat) {γ : cG}, okA γ.1 → leG γ (cnG p l γ) ∧ okA (cnG p l γ).1
  | 0, γ, h => ⟨⟨Nat.le_refl _, Nat.le_refl _, extL_rf _, rfl, rfl⟩, h⟩
  | l + 1, γ, h => by
    obtain ⟨h1, h2⟩ := cnG_le (p := p) l h
    obtain ⟨h3, h4⟩ := cnS_le (p := p) (l := l) h2
    exact ⟨leG_tr h1 h3, h4⟩
theorem cnG_mono {p : Int64} {γ : cG} (h : okA γ.1) {l : Nat} : ∀ k, leG (cnG p l γ) (cnG p (l + k) γ)
  | 0 => ⟨Nat.le_refl _, Nat.le_refl _, extL_rf _, rfl, rfl⟩
  | k + 1 => leG_tr (cnG_mono h k) (cnS_le (cnG_le (p := p) (l + k) h).2).1
theorem cL_lt (p : Int64) {l : Nat} (h : l ≤ 6) (m : Nat) : cL p l m < 2 ^ 31 := by
  have h1 : cL p l m ≤ (lvL (dG p) l).length := List.count_le_length
  have h2 := lvL_len (dG p) l
  have h3 : 8 ^ l ≤ 8 ^ 6 := Nat.pow_le_pow_right (by decide) h
  have h4 : (8 : Nat) ^ 6 = 262144 := by decide
  omega
theorem cL_mem {p : Int64} {l m : Nat} (h : m ∈ lvL (dG p) l) : cL p l m ≠ 0 := by
  have := List.count_pos_iff.mpr h
  unfold cL
  omega
/-- the ways behind a step are those of the rows that are longer by one -/
theorem cnS_acc {p : Int64} (hp : okP p) {l : Nat} {α : aZ} {na nb : Nat} (hn : α.2.1.1.Nodup) (hL : ∀ m ∈ α.2.1.1, m < 2 ^ dS p) (ha : accI α.2.1.1 (cL p l) na) : (soL p (cL p l) (α.2.1.1.take na) (α, nb, fun _ => 0)).2.2 = cL p (l + 1) := by
  funext y
  rw [soL_acc hp y _ _ (fun m hm => hL m (List.mem_of_mem_take hm)), sumI_drop hn (Or.inr (Nat.le_refl na)) ha]
  show 0 + _ = _
  rw [Nat.zero_add]
  exact (lv_next hn (fun m hm => by
    obtain ⟨j, -, hj⟩ := ha m (cL_mem hm)
    exact get_mem hj)).symm
theorem cnt_sum {p : Int64} {l : Nat} {L : List Nat} {na : Nat} (hn : L.Nodup) (ha : accI L (cL p l) na) : sumI L (cL p l) (fun m => pcN (trM (dT p) m / 512)) = cntR p (l + 1) :=
  sumI_cnt _ hn (fun m hm => by
    obtain ⟨j, -, hj⟩ := ha m (cL_mem hm)
    exact get_mem hj)
/-- what holds between the lengths: the ways of the rows of length j, the counts up to there -/
def cnJ (p : Int64) (j : Nat) (γ : cG) (c : Int32) (co : Nat → Int32) (Z : PS × MS) (wa : Nat → Int32) : Prop := zR Z (coZ γ.1 c co) ∧ γ.1.1 = p ∧ wOK γ.1.2.1.1 (cL p j) γ.2.1 wa ∧ accI γ.1.2.1.1 (cL p j) γ.2.1 ∧ 16 ≤ γ.2.1 ∧ γ.2.1 ≤ 2 ^ 15 ∧ 16 ≤ γ.2.2 ∧ γ.2.2 ≤ 2 ^ 15
def coB (β : bS) (c : Int32) (co : Nat → Int32) : bS := (coZ β.1 c co, β.2)
theorem soS_co (p : Int64) (f : Nat → Nat) (m x : Nat) (β : bS) (c : Int32) (co : Nat → Int32) : soS p f m x (coB β c co) = coB (soS p f m x β) c co := by
  unfold soS
  split
  · rfl
  · rfl
theorem soX_co (p : Int64) (f : Nat → Nat) (m : Nat) (c : Int32) (co : Nat → Int32) : ∀ (r : Nat) (β : bS), soX p f m r (coB β c co) = coB (soX p f m r β) c co
  | 0, _ => rfl
  | r + 1, β => by
    show soX p f m r (soS p f m (7 - r) (coB β c co)) = _
    rw [soS_co, soX_co p f m c co r]
    rfl
theorem soL_co (p : Int64) (f : Nat → Nat) (c : Int32) (co : Nat → Int32) : ∀ (R : List Nat) (β : bS), soL p f R (coB β c co) = coB (soL p f R β) c co
  | [], _ => rfl
  | m :: R, β => by
    show soL p f R (soX p f m 8 (coB β c co)) = _
    rw [soX_co, soL_co p f c co R]
    rfl
def coK (p : Int64) (j : Nat) (co : Nat → Int32) : Prop := ∀ i, i ≤ j → co i = nI (cntR p i)
theorem coK_s {p : Int64} {j : Nat} {co : Nat → Int32} (h : coK p j co) : coK p (j + 1) (upd co (j + 1) (nI (cntR p (j + 1)))) := by
  intro i hi
  by_cases q : i = j + 1
  · subst q
    exact upd_s
  · rw [upd_n q]
    exact h i (by omega)
section CN
variable (p : Int64) (n : Nat) (γF : cG)
/-- the end of a count -/
def cnE (h' : aH) : Prop := ∃ wa' wb' Z' co', h' = cH γF.2.1 wa' γF.2.2 wb' Z' ∧ zR Z' (coZ γF.1 (nI n) co') ∧ coK p n co' ∧ 16 ≤ γF.2.1 ∧ γF.2.1 ≤ 2 ^ 15 ∧ 16 ≤ γF.2.2 ∧ γF.2.2 ≤ 2 ^ 15
set_option maxRecDepth 100000 in
theorem l_cnX {G : aG} (hn : n ≤ 6) (hret : ∀ h' k' n', cnE p n γF h' → k' ≤ gC G → n' ≤ gS G → RET G (some (.int (nI (cntR p n)))) h' k' n') (j : Nat) (c : Int32) (co : Nat → Int32) (Z : PS × MS) (wa wb : Nat → Int32) (k0 n0 : Nat) (hJ : cnJ p j γF c co Z wa) (hco : coK p n co) (hk : k0 ≤ gC G) (hn0 : n0 ≤ gS G) :
    AW 65 G 27 [some (.ref 0), some (.ref 3), some (.int (nI n)), some (.int (nI (n + 1)))] [] (cH γF.2.1 wa γF.2.2 wb Z) k0 n0 := by
  have t1 : n < n + 1 := Nat.lt_succ_self n
  have hfin := hret (cH γF.2.1 wa γF.2.2 wb (coU Z (nI n) Z.2.co)) k0 n0 ⟨wa, wb, _, co, rfl, by
    have := coZ_R hJ.1 (nI n) co
    have e : Z.2.co = co := (zR_f hJ.1).2.2.1
    rw [e]
    exact this, hco, hJ.2.2.2.2.1, hJ.2.2.2.2.2.1, hJ.2.2.2.2.2.2.1, hJ.2.2.2.2.2.2.2⟩ hk hn0
  have e : Z.2.co n = nI (cntR p n) := by
    rw [(zR_f hJ.1).2.2.1]
    exact hco n (Nat.le_refl _)
  obtain ⟨P, M⟩ := Z
  have e2 : M.co n = nI (cntR p n) := e
  have t2 : n < 7 := by omega
  refine wq_aw (S := fun x => x == 27) (by decide) (f := 200) ?_
  simp (disch := first | exact rfl | decide | omega) only [v_65_27, u_65_0, u_65_1, u_65_4, u_65_5, u_65_7, u_65_10, u_65_11, u_65_12, u_65_13, u_65_14, u_65_17, u_65_20, u_65_21, u_65_22, u_65_25, u_65_26, u_65_27, u_65_28, u_65_29, u_65_32, u_65_33, u_65_36, u_65_37, u_65_38, u_65_39, u_65_42, u_65_43, u_65_44, u_65_45, u_65_48, u_65_49, u_65_50, u_65_53, u_65_56, u_65_59, u_65_60, u_65_61, u_65_64, u_65_65, u_65_68, u_65_69, u_65_70, wp_stop, lget, lput1, lput2, kil, hget, hset, vget, vset, fget, fgetC, fput, fputC, iget, igetC, jget, jgetC, qget, qgetC, alen, lenC, oI, oJ, oF, oA, oV, oH, oInc, oIld, oJld, oQld, oR, oLen, oIst, oBst, oJst, oQst, ciOf, rcv, oCp, cat1, cond_true, cond_false, Bool.and_self, Bool.and_true, Bool.true_and, Bool.or_true, Bool.true_or, Bool.or_false, Bool.false_or, Bool.not_false, Bool.not_true, ↓reduceIte, Nat.reduceBEq, Nat.reduceEqDiff, beq_self_eq_true, true_and, and_true, eq_self_iff_true, Nat.reduceAdd, Nat.blt, Nat.ble, z_le, z_lt, z_eq, z_cl, z_add, z_sub, z_mul, z_in, z_lt0, z_ofN, z_m1, z_ltm1, z_m1lt, z_eqm1, z_m1eq, z_m1le, z_lem1, z_beq, nI_0_1, nI_m1lt0, nI_0lem1, not_false_eq_true, not_true_eq_false, forall_const, false_implies, true_implies, implies_true, false_and, and_false, mrg, renc, tra, trv, sg, List.map_cons, List.map_nil, Option.map_some, Option.map_none, Option.toList_some, Option.toList_none, List.cons_append, List.nil_append, List.length_cons, List.length_nil, cH, cF, mHB, mH, mO, mPO, t1, e2]
  exact hfin
set_option maxRecDepth 100000 in
theorem l_cn {G : aG} (γ0 : cG) (hok : okA γ0.1) (hn : n ≤ 6) (hn1 : 1 ≤ n) (hF : γF = cnG p (n - 1) γ0) (hF14 : γF.1.2.1.1.length ≤ 2 ^ 14) (hd : 9 ≤ gD G) (ggn : gN G = 21) (ggm : gM G = mvC) (hret : ∀ h' k' n', cnE p n γF h' → k' ≤ gC G → n' ≤ gS G → RET G (some (.int (nI (cntR p n)))) h' k' n') :
    ∀ (b j : Nat) (c : Int32) (co : Nat → Int32) (Z : PS × MS) (wa wb : Nat → Int32) (k0 n0 : Nat), j + 1 + b = n → cnJ p j (cnG p j γ0) c co Z wa → coK p j co → k0 + gC2 γF ≤ gC G + gC2 (cnG p j γ0) → n0 + gS2 γF ≤ gS G + gS2 (cnG p j γ0) →
    AW 65 G 27 [some (.ref 0), some (.ref 3), some (.int (nI n)), some (.int (nI (j + 1)))] [] (cH (cnG p j γ0).2.1 wa (cnG p j γ0).2.2 wb Z) k0 n0 := by
  intro b
  induction b with
  | zero =>
    intro j c co Z wa wb k0 n0 hj hJ hco hk hn0
    have hjn : n = j + 1 := by omega
    have e0 : cnG p j γ0 = γF := by
      rw [hF]
      congr 1
      omega
    rw [e0] at hJ hk hn0 ⊢
    have hz := zR_L hJ.1
    have hla := c_cLast γF.2.1 wa γF.2.2 wb 0 hJ.1 (cL p j) (cL_lt p (by omega)) hJ.2.2.1 (by have := hJ.2.2.2.2.2.1; omega) hJ.2.2.2.1 hz.2.1
    have e1 : sumI (coZ γF.1 c co).2.1.1 (cL p j) (fun m => pcN (trM (dT (coZ γF.1 c co).1) m / 512)) = cntR p (j + 1) := by
      show sumI γF.1.2.1.1 (cL p j) (fun m => pcN (trM (dT γF.1.1) m / 512)) = _
      rw [hJ.2.1]
      exact cnt_sum hz.2.1 hJ.2.2.2.1
    rw [e1] at hla
    have hcc : Z.2.counted = c := (zR_f hJ.1).2.1
    have hoo : Z.2.co = co := (zR_f hJ.1).2.2.1
    have hJ2 : cnJ p j γF c (upd co (j + 1) (nI (cntR p (j + 1)))) (coU Z Z.2.counted (upd Z.2.co (j + 1) (nI (cntR p (j + 1))))) wa := ⟨by rw [hcc, hoo]; exact coZ_R hJ.1 _ _, hJ.2⟩
    have hX := l_cnX p n γF hn hret j _ _ _ wa wb k0 n0 hJ2 (by rw [hjn]; exact coK_s hco) (by omega) (by omega)
    clear hJ2
    obtain ⟨P, M⟩ := Z
    have t1 : ¬ n < j + 1 := by omega
    have t2 : n ≤ j + 1 := by omega
    have t3 : j + 1 < 7 := by omega
    have e5 : j + 1 + 1 = n + 1 := by omega
    refine wq_aw (S := fun x => x == 27) (by decide) (f := 200) ?_
    simp (disch := first | exact rfl | decide | omega) only [v_65_27, u_65_0, u_65_1, u_65_4, u_65_5, u_65_7, u_65_10, u_65_11, u_65_12, u_65_13, u_65_14, u_65_17, u_65_20, u_65_21, u_65_22, u_65_25, u_65_26, u_65_27, u_65_28, u_65_29, u_65_32, u_65_33, u_65_36, u_65_37, u_65_38, u_65_39, u_65_42, u_65_43, u_65_44, u_65_45, u_65_48, u_65_49, u_65_50, u_65_53, u_65_56, u_65_59, u_65_60, u_65_61, u_65_64, u_65_65, u_65_68, u_65_69, u_65_70, wp_stop, lget, lput1, lput2, kil, hget, hset, vget, vset, fget, fgetC, fput, fputC, iget, igetC, jget, jgetC, qget, qgetC, alen, lenC, oI, oJ, oF, oA, oV, oH, oInc, oIld, oJld, oQld, oR, oLen, oIst, oBst, oJst, oQst, ciOf, rcv, oCp, cat1, cond_true, cond_false, Bool.and_self, Bool.and_true, Bool.true_and, Bool.or_true, Bool.true_or, Bool.or_false, Bool.false_or, Bool.not_false, Bool.not_true, ↓reduceIte, Nat.reduceBEq, Nat.reduceEqDiff, beq_self_eq_true, true_and, and_true, eq_self_iff_true, Nat.reduceAdd, Nat.blt, Nat.ble, z_le, z_lt, z_eq, z_cl, z_add, z_sub, z_mul, z_in, z_lt0, z_ofN, z_m1, z_ltm1, z_m1lt, z_eqm1, z_m1eq, z_m1le, z_lem1, z_beq, nI_0_1, nI_m1lt0, nI_0lem1, not_false_eq_true, not_true_eq_false, forall_const, false_implies, true_implies, implies_true, false_and, and_false, mrg, renc, tra, trv, sg, List.map_cons, List.map_nil, Option.map_some, Option.map_none, Option.toList_some, Option.toList_none, List.cons_append, List.nil_append, List.length_cons, List.length_nil, cH, cF, mHB, mH, mO, mPO, t1]
    refine CAL.dir hla (by show _ ≤ gD G; omega) (by show _ ≤ gC G; omega) (by show _ ≤ gS G; omega) (Nat.le_of_ble_eq_true rfl) (by rw [ggn]; exact Nat.le_of_ble_eq_true rfl) rfl rfl ?_
    rintro _ _ ⟨rfl, rfl⟩
    simp (disch := first | exact rfl | decide | omega) only [u_65_0, u_65_1, u_65_4, u_65_5, u_65_7, u_65_10, u_65_11, u_65_12, u_65_13, u_65_14, u_65_17, u_65_20, u_65_21, u_65_22, u_65_25, u_65_26, u_65_27, u_65_28, u_65_29, u_65_32, u_65_33, u_65_36, u_65_37, u_65_38, u_65_39, u_65_42, u_65_43, u_65_44, u_65_45, u_65_48, u_65_49, u_65_50, u_65_53, u_65_56, u_65_59, u_65_60, u_65_61, u_65_64, u_65_65, u_65_68, u_65_69, u_65_70, wp_stop, lget, lput1, lput2, kil, hget, hset, vget, vset, fget, fgetC, fput, fputC, iget, igetC, jget, jgetC, qget, qgetC, alen, lenC, oI, oJ, oF, oA, oV, oH, oInc, oIld, oJld, oQld, oR, oLen, oIst, oBst, oJst, oQst, ciOf, rcv, oCp, cat1, cond_true, cond_false, Bool.and_self, Bool.and_true, Bool.true_and, Bool.or_true, Bool.true_or, Bool.or_false, Bool.false_or, Bool.not_false, Bool.not_true, ↓reduceIte, Nat.reduceBEq, Nat.reduceEqDiff, beq_self_eq_true, true_and, and_true, eq_self_iff_true, Nat.reduceAdd, Nat.blt, Nat.ble, z_le, z_lt, z_eq, z_cl, z_add, z_sub, z_mul, z_in, z_lt0, z_ofN, z_m1, z_ltm1, z_m1lt, z_eqm1, z_m1eq, z_m1le, z_lem1, z_beq, nI_0_1, nI_m1lt0, nI_0lem1, not_false_eq_true, not_true_eq_false, forall_const, false_implies, true_implies, implies_true, false_and, and_false, mrg, renc, tra, trv, sg, List.map_cons, List.map_nil, Option.map_some, Option.map_none, Option.toList_some, Option.toList_none, List.cons_append, List.nil_append, List.length_cons, List.length_nil, cH, cF, mHB, mH, mO, mPO, t2, e5]
    exact hX
  | succ b ih =>
    intro j c co Z wa wb k0 n0 hj hJ hco hk hn0
    have hz := zR_L hJ.1
    have hokj := cnG_le (p := p) j hok
    have hmon := cnG_mono (p := p) hok (l := j + 1) (n - 1 - (j + 1))
    rw [show j + 1 + (n - 1 - (j + 1)) = n - 1 by omega, ← hF] at hmon
    have hstp := cnS_le (p := p) (l := j) hokj.2
    have hla := c_cLast (cnG p j γ0).2.1 wa (cnG p j γ0).2.2 wb 0 hJ.1 (cL p j) (cL_lt p (by omega)) hJ.2.2.1 (by have := hJ.2.2.2.2.2.1; omega) hJ.2.2.2.1 hz.2.1
    have e1 : sumI (coZ (cnG p j γ0).1 c co).2.1.1 (cL p j) (fun m => pcN (trM (dT (coZ (cnG p j γ0).1 c co).1) m / 512)) = cntR p (j + 1) := by
      show sumI (cnG p j γ0).1.2.1.1 (cL p j) (fun m => pcN (trM (dT (cnG p j γ0).1.1) m / 512)) = _
      rw [hJ.2.1]
      exact cnt_sum hz.2.1 hJ.2.2.2.1
    rw [e1] at hla
    have hcc : Z.2.counted = c := (zR_f hJ.1).2.1
    have hoo : Z.2.co = co := (zR_f hJ.1).2.2.1
    have hZ2 : zR (coU Z Z.2.counted (upd Z.2.co (j + 1) (nI (cntR p (j + 1))))) (coZ (cnG p j γ0).1 c (upd co (j + 1) (nI (cntR p (j + 1))))) := by rw [hcc, hoo]; exact coZ_R hJ.1 _ _
    have ihn := ih (j + 1) c (upd co (j + 1) (nI (cntR p (j + 1))))
    have hacc := cnS_acc (p := p) (l := j) (α := (cnG p j γ0).1) (na := (cnG p j γ0).2.1) (nb := (cnG p j γ0).2.2) (by have := hz.1; rw [show (coZ (cnG p j γ0).1 c co).1 = p from hJ.2.1] at this; exact this) hz.2.1 (by have := hz.2.2; rw [show (coZ (cnG p j γ0).1 c co).1 = p from hJ.2.1] at this; exact this) hJ.2.2.2.1
    have eS : cnG p (j + 1) γ0 = cnS p j (cnG p j γ0) := rfl
    rw [eS] at ihn hmon
    generalize hγ : cnG p j γ0 = γ at *
    have hso := soL_co p (cL p j) c (upd co (j + 1) (nI (cntR p (j + 1)))) (γ.1.2.1.1.take γ.2.1) (γ.1, γ.2.2, fun _ => 0)
    have hcs : cnS p j γ = ((soL p (cL p j) (γ.1.2.1.1.take γ.2.1) (γ.1, γ.2.2, fun _ => 0)).1, (soL p (cL p j) (γ.1.2.1.1.take γ.2.1) (γ.1, γ.2.2, fun _ => 0)).2.1, γ.2.1) := rfl
    rw [hcs] at hmon hstp ihn
    have hle := soL_le (p := p) (c := cL p j) (γ.1.2.1.1.take γ.2.1) (β := (γ.1, γ.2.2, fun _ => 0)) hokj.2
    generalize hβ : soL p (cL p j) (γ.1.2.1.1.take γ.2.1) (γ.1, γ.2.2, fun _ => 0) = βF at *
    have hso2 : soL p (cL p j) ((coZ γ.1 c (upd co (j + 1) (nI (cntR p (j + 1))))).2.1.1.take γ.2.1) (coZ γ.1 c (upd co (j + 1) (nI (cntR p (j + 1)))), γ.2.2, fun _ => 0) = coB βF c (upd co (j + 1) (nI (cntR p (j + 1)))) := hso
    have hco1 := coK_s hco
    obtain ⟨g1, g2, g3, g4, g5, g6, g7, g8⟩ := hJ
    have hst := c_stepOn γ.2.1 wa (cL p j) p 0 γ.2.2 wb hZ2 g2 (cL_lt p (by omega)) g3 (by omega) g7 g8 (by rw [hso2]; exact Nat.le_trans (extL_len hmon.2.2.1) hF14)
    rw [hso2] at hst
    have q1 : zC γ.1 + γ.2.2 ≤ zC βF.1 + βF.2.1 := hle.1.2.1
    have q2 : zS γ.1 + 2 * γ.2.2 ≤ zS βF.1 + 2 * βF.2.1 := hle.1.1
    have q3 : zC βF.1 + βF.2.1 + γ.2.1 ≤ zC γF.1 + γF.2.1 + γF.2.2 := hmon.2.1
    have q4 : zS βF.1 + 2 * βF.2.1 + 2 * γ.2.1 ≤ zS γF.1 + 2 * γF.2.1 + 2 * γF.2.2 := hmon.1
    have q5 : k0 + (zC γF.1 + γF.2.1 + γF.2.2) ≤ gC G + (zC γ.1 + γ.2.1 + γ.2.2) := hk
    have q6 : n0 + (zS γF.1 + 2 * γF.2.1 + 2 * γF.2.2) ≤ gS G + (zS γ.1 + 2 * γ.2.1 + 2 * γ.2.2) := hn0
    have eC : kC2 (coB βF c (upd co (j + 1) (nI (cntR p (j + 1))))) - kC2 (coZ γ.1 c (upd co (j + 1) (nI (cntR p (j + 1)))), γ.2.2, fun _ => 0) = zC βF.1 + βF.2.1 - (zC γ.1 + γ.2.2) := rfl
    have eS2 : kS2 (coB βF c (upd co (j + 1) (nI (cntR p (j + 1))))) - kS2 (coZ γ.1 c (upd co (j + 1) (nI (cntR p (j + 1)))), γ.2.2, fun _ => 0) = zS βF.1 + 2 * βF.2.1 - (zS γ.1 + 2 * γ.2.2) := rfl
    rw [eC, eS2] at hst
    generalize hc1 : upd co (j + 1) (nI (cntR p (j + 1))) = co1 at *
    have hZ1 : coU Z Z.2.counted (upd Z.2.co (j + 1) (nI (cntR p (j + 1)))) = coU Z Z.2.counted (upd Z.2.co (j + 1) (nI (cntR p (j + 1)))) := rfl
    obtain ⟨P, M⟩ := Z
    have t1 : ¬ n < j + 1 := by omega
    have t2 : ¬ n ≤ j + 1 := by omega
    have t3 : j + 1 < 7 := by omega
    refine wq_aw (S := fun x => x == 27) (by decide) (f := 200) ?_
    simp (disch := first | exact rfl | decide | omega) only [v_65_27, u_65_0, u_65_1, u_65_4, u_65_5, u_65_7, u_65_10, u_65_11, u_65_12, u_65_13, u_65_14, u_65_17, u_65_20, u_65_21, u_65_22, u_65_25, u_65_26, u_65_27, u_65_28, u_65_29, u_65_32, u_65_33, u_65_36, u_65_37, u_65_38, u_65_39, u_65_42, u_65_43, u_65_44, u_65_45, u_65_48, u_65_49, u_65_50, u_65_53, u_65_56, u_65_59, u_65_60, u_65_61, u_65_64, u_65_65, u_65_68, u_65_69, u_65_70, wp_stop, lget, lput1, lput2, kil, hget, hset, vget, vset, fget, fgetC, fput, fputC, iget, igetC, jget, jgetC, qget, qgetC, alen, lenC, oI, oJ, oF, oA, oV, oH, oInc, oIld, oJld, oQld, oR, oLen, oIst, oBst, oJst, oQst, ciOf, rcv, oCp, cat1, cond_true, cond_false, Bool.and_self, Bool.and_true, Bool.true_and, Bool.or_true, Bool.true_or, Bool.or_false, Bool.false_or, Bool.not_false, Bool.not_true, ↓reduceIte, Nat.reduceBEq, Nat.reduceEqDiff, beq_self_eq_true, true_and, and_true, eq_self_iff_true, Nat.reduceAdd, Nat.blt, Nat.ble, z_le, z_lt, z_eq, z_cl, z_add, z_sub, z_mul, z_in, z_lt0, z_ofN, z_m1, z_ltm1, z_m1lt, z_eqm1, z_m1eq, z_m1le, z_lem1, z_beq, nI_0_1, nI_m1lt0, nI_0lem1, not_false_eq_true, not_true_eq_false, forall_const, false_implies, true_implies, implies_true, false_and, and_false, mrg, renc, tra, trv, sg, List.map_cons, List.map_nil, Option.map_some, Option.map_none, Option.toList_some, Option.toList_none, List.cons_append, List.nil_append, List.length_cons, List.length_nil, cH, cF, mHB, mH, mO, mPO, t1]
    refine CAL.dir hla (by show _ ≤ gD G; omega) (by show _ ≤ gC G; omega) (by show _ ≤ gS G; omega) (Nat.le_of_ble_eq_true rfl) (by rw [ggn]; exact Nat.le_of_ble_eq_true rfl) rfl rfl ?_
    rintro _ _ ⟨rfl, rfl⟩
    simp (disch := first | exact rfl | decide | omega) only [u_65_0, u_65_1, u_65_4, u_65_5, u_65_7, u_65_10, u_65_11, u_65_12, u_65_13, u_65_14, u_65_17, u_65_20, u_65_21, u_65_22, u_65_25, u_65_26, u_65_27, u_65_28, u_65_29, u_65_32, u_65_33, u_65_36, u_65_37, u_65_38, u_65_39, u_65_42, u_65_43, u_65_44, u_65_45, u_65_48, u_65_49, u_65_50, u_65_53, u_65_56, u_65_59, u_65_60, u_65_61, u_65_64, u_65_65, u_65_68, u_65_69, u_65_70, wp_stop, lget, lput1, lput2, kil, hget, hset, vget, vset, fget, fgetC, fput, fputC, iget, igetC, jget, jgetC, qget, qgetC, alen, lenC, oI, oJ, oF, oA, oV, oH, oInc, oIld, oJld, oQld, oR, oLen, oIst, oBst, oJst, oQst, ciOf, rcv, oCp, cat1, cond_true, cond_false, Bool.and_self, Bool.and_true, Bool.true_and, Bool.or_true, Bool.true_or, Bool.or_false, Bool.false_or, Bool.not_false, Bool.not_true, ↓reduceIte, Nat.reduceBEq, Nat.reduceEqDiff, beq_self_eq_true, true_and, and_true, eq_self_iff_true, Nat.reduceAdd, Nat.blt, Nat.ble, z_le, z_lt, z_eq, z_cl, z_add, z_sub, z_mul, z_in, z_lt0, z_ofN, z_m1, z_ltm1, z_m1lt, z_eqm1, z_m1eq, z_m1le, z_lem1, z_beq, nI_0_1, nI_m1lt0, nI_0lem1, not_false_eq_true, not_true_eq_false, forall_const, false_implies, true_implies, implies_true, false_and, and_false, mrg, renc, tra, trv, sg, List.map_cons, List.map_nil, Option.map_some, Option.map_none, Option.toList_some, Option.toList_none, List.cons_append, List.nil_append, List.length_cons, List.length_nil, cH, cF, mHB, mH, mO, mPO, t2]
    refine CAL.dirM hst (by show _ ≤ gD G; omega) (by show _ ≤ gC G; omega) (by show _ ≤ gS G; omega) (Nat.le_of_ble_eq_true rfl) (by rw [ggn]; exact Nat.le_of_ble_eq_true rfl) (fun i _ q => by rw [← ggm]; exact q) rfl rfl ?_
    rintro _ _ ⟨rfl, wa', Z', rfl, h1, h2, h3, h4, h5, h6⟩
    have hJ' : cnJ p (j + 1) (βF.1, βF.2.1, γ.2.1) c co1 Z' wa' := ⟨h1, h2, by rw [← hacc]; exact h3, by rw [← hacc]; exact h4, h5, h6, g5, g6⟩
    have hfin := ihn Z' wa' wa (k0 + 0 + (zC βF.1 + βF.2.1 - (zC γ.1 + γ.2.2))) (n0 + 0 + (zS βF.1 + 2 * βF.2.1 - (zS γ.1 + 2 * γ.2.2))) (by omega) hJ' hco1 (by show _ + (zC γF.1 + γF.2.1 + γF.2.2) ≤ gC G + (zC βF.1 + βF.2.1 + γ.2.1); omega) (by show _ + (zS γF.1 + 2 * γF.2.1 + 2 * γF.2.2) ≤ gS G + (zS βF.1 + 2 * βF.2.1 + 2 * γ.2.1); omega)
    simp (disch := first | exact rfl | decide | omega) only [u_65_0, u_65_1, u_65_4, u_65_5, u_65_7, u_65_10, u_65_11, u_65_12, u_65_13, u_65_14, u_65_17, u_65_20, u_65_21, u_65_22, u_65_25, u_65_26, u_65_27, u_65_28, u_65_29, u_65_32, u_65_33, u_65_36, u_65_37, u_65_38, u_65_39, u_65_42, u_65_43, u_65_44, u_65_45, u_65_48, u_65_49, u_65_50, u_65_53, u_65_56, u_65_59, u_65_60, u_65_61, u_65_64, u_65_65, u_65_68, u_65_69, u_65_70, wp_stop, lget, lput1, lput2, kil, hget, hset, vget, vset, fget, fgetC, fput, fputC, iget, igetC, jget, jgetC, qget, qgetC, alen, lenC, oI, oJ, oF, oA, oV, oH, oInc, oIld, oJld, oQld, oR, oLen, oIst, oBst, oJst, oQst, ciOf, rcv, oCp, cat1, cond_true, cond_false, Bool.and_self, Bool.and_true, Bool.true_and, Bool.or_true, Bool.true_or, Bool.or_false, Bool.false_or, Bool.not_false, Bool.not_true, ↓reduceIte, Nat.reduceBEq, Nat.reduceEqDiff, beq_self_eq_true, true_and, and_true, eq_self_iff_true, Nat.reduceAdd, Nat.blt, Nat.ble, z_le, z_lt, z_eq, z_cl, z_add, z_sub, z_mul, z_in, z_lt0, z_ofN, z_m1, z_ltm1, z_m1lt, z_eqm1, z_m1eq, z_m1le, z_lem1, z_beq, nI_0_1, nI_m1lt0, nI_0lem1, not_false_eq_true, not_true_eq_false, forall_const, false_implies, true_implies, implies_true, false_and, and_false, mrg, renc, tra, trv, sg, List.map_cons, List.map_nil, Option.map_some, Option.map_none, Option.toList_some, Option.toList_none, List.cons_append, List.nil_append, List.length_cons, List.length_nil, cH, cF]
    exact hfin
end CN
