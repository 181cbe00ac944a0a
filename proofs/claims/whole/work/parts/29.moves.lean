/-! Plan.findMoves, Plan.shortestRow -/
theorem len_ite {α : Type} (c : Prop) [Decidable c] (A : List α) : (if c then A else []).length ≤ A.length := by
  split
  · exact Nat.le_refl _
  · exact Nat.zero_le _
theorem pmv_len {K lf : Nat → Nat} {n : Nat} (hw : wfP K lf n) : ∀ i, i < n → (pmv K lf i 0).length ≤ i + 1 - pst K lf i ∧ ∀ p, (pmv K lf i p).length ≤ 16 * (i + 1 - pst K lf i) := by
  intro i
  have hn := hw.2.1
  induction i using Nat.strongRecOn with
  | _ i ih =>
    intro hi
    obtain ⟨hk1, hk2, hk3, hk4⟩ := hw.2.2.1 i hi
    by_cases h8 : K i ≤ 8
    · rw [pst_leaf (by omega)]
      refine ⟨?_, fun p => ?_⟩
      · rw [pmv_let h8, if_pos rfl, List.length_singleton]; omega
      · rw [pmv_let h8]
        split
        · rw [List.length_singleton]; omega
        · rw [List.length_nil]; omega
    · by_cases h9 : K i = 9
      · refine ⟨?_, fun p => ?_⟩
        · rw [pmv_emp h9, List.length_nil]; omega
        · rw [pmv_emp h9, List.length_nil]; omega
      · by_cases h13 : 13 ≤ K i
        · have h0 := hk3 (by omega)
          obtain ⟨a1, a2⟩ := ih (i - 1) (by omega) (by omega)
          have hs := pst_le K lf (i - 1)
          rw [pst_un h13 h0]
          refine ⟨?_, fun p => ?_⟩
          · rw [pmv_un h13 h0, if_neg (fun q => q.2.1 rfl), List.append_nil]; omega
          · have := a2 p
            rw [pmv_un h13 h0, List.length_append]
            split
            · omega
            · rw [List.length_nil]; omega
        · obtain ⟨h0, hl1, hl2⟩ := wf_lf hw hi (by omega) (by omega)
          obtain ⟨a1, a2⟩ := ih (i - 1) (by omega) (by omega)
          obtain ⟨b1, b2⟩ := ih (lf i) (by omega) (by omega)
          have hs := pst_le K lf (i - 1)
          have hs2 := pst_le K lf (lf i)
          rw [pst_bin (by omega) (by omega) (by omega)]
          have q1 := psp_pos K lf (lf i)
          by_cases h11 : K i = 11
          · refine ⟨?_, fun p => ?_⟩
            · rw [pmv_mix h11 h0 (by omega), List.length_append, List.length_map, List.length_map, Nat.zero_div, Nat.zero_mod]; omega
            · have c1 := a2 (p % psp K lf (i - 1))
              have c2 := b2 (p / psp K lf (i - 1))
              rw [pmv_mix h11 h0 (by omega), List.length_append, List.length_map, List.length_map]; omega
          · have hpr : K i = 10 ∨ K i = 12 := by omega
            refine ⟨?_, fun p => ?_⟩
            · rw [pmv_lo hpr h0 (by omega) (by omega), List.length_append]
              refine Nat.le_trans (Nat.add_le_add_left (len_ite _ _) _) ?_
              rw [List.length_map]; omega
            · by_cases hsp : psp K lf (lf i) ≤ p
              · have c1 := a2 (p - psp K lf (lf i) + 1)
                rw [pmv_hi hpr h0 (by omega) hsp, List.length_map]; omega
              · have c2 := b2 p
                rw [pmv_lo hpr h0 (by omega) hsp, List.length_append]
                refine Nat.le_trans (Nat.add_le_add_left (len_ite _ _) _) ?_
                rw [List.length_map]; omega
theorem scl_one (M : List (Nat × Nat)) : scl 1 0 M = M := by
  unfold scl
  have : (fun m : Nat × Nat => (m.1, m.2 * 1 + 0)) = id := by
    funext m
    rw [Nat.mul_one, Nat.add_zero]
    rfl
  rw [this, List.map_id]
/-- moves so far, room for them, traits -/
abbrev fS : Type := Nat × Nat × (Nat → Int32)
def gmvP (K lf : Nat → Nat) (n p : Nat) (σ : fS) : kS := kfo σ.1 p ([], σ.2.1, σ.2.2) (scl 1 0 (pmv K lf (n - 1) p))
def fmS (K lf : Nat → Nat) (n nm : Nat) (tr : Nat → Int32) : Nat → fS
  | 0 => (0, nm, tr)
  | p + 1 => ((fmS K lf n nm tr p).1 + (gmvP K lf n p (fmS K lf n nm tr p)).1.length, (gmvP K lf n p (fmS K lf n nm tr p)).2.1, (gmvP K lf n p (fmS K lf n nm tr p)).2.2)
theorem fmS_s (K lf : Nat → Nat) (n nm : Nat) (tr : Nat → Int32) (p : Nat) : fmS K lf n nm tr (p + 1) = ((fmS K lf n nm tr p).1 + (gmvP K lf n p (fmS K lf n nm tr p)).1.length, (gmvP K lf n p (fmS K lf n nm tr p)).2.1, (gmvP K lf n p (fmS K lf n nm tr p)).2.2) := rfl
theorem fmS_le {K lf : Nat → Nat} {n : Nat} (hw : wfP K lf n) (nm : Nat) (tr : Nat → Int32) : ∀ p, (fmS K lf n nm tr p).1 ≤ 256 * p ∧ nm ≤ (fmS K lf n nm tr p).2.1 ∧ (fmS K lf n nm tr p).2.1 ≤ (fmS K lf n nm tr (p + 1)).2.1 ∧ (fmS K lf n nm tr p).1 ≤ (fmS K lf n nm tr (p + 1)).1 := by
  intro p
  have hn := hw.2.1
  have hn0 := hw.1
  have step : ∀ p, (gmvP K lf n p (fmS K lf n nm tr p)).1.length ≤ 256 ∧ (fmS K lf n nm tr p).2.1 ≤ (fmS K lf n nm tr (p + 1)).2.1 := by
    intro p
    obtain ⟨h1, h2⟩ := kfo_le (fmS K lf n nm tr p).1 p (scl 1 0 (pmv K lf (n - 1) p)) ([], (fmS K lf n nm tr p).2.1, (fmS K lf n nm tr p).2.2)
    have h3 := (pmv_len hw (n - 1) (by omega)).2 p
    rw [scl_len, List.length_nil] at h2
    exact ⟨by show (kfo _ _ _ _).1.length ≤ 256; omega, h1⟩
  refine ⟨?_, ?_, (step p).2, by rw [fmS_s]; exact Nat.le_add_right _ _⟩
  · induction p with
    | zero => exact Nat.zero_le _
    | succ p ih =>
      rw [fmS_s]
      have := (step p).1
      show (fmS K lf n nm tr p).1 + _ ≤ _
      omega
  · induction p with
    | zero => exact Nat.le_refl _
    | succ p ih => exact Nat.le_trans ih (step p).2
/-- the moves of the places below p -/
def fmI (K lf : Nat → Nat) (n nm : Nat) (tr : Nat → Int32) (p : Nat) (mo ms me : Nat → Int32) : Prop := ∀ q, q < p → ms q = nI (fmS K lf n nm tr q).1 ∧ me q = nI (fmS K lf n nm tr (q + 1)).1 ∧ mvOk mo (fmS K lf n nm tr q).1 (gmvP K lf n q (fmS K lf n nm tr q)).1
def fmG (K lf : Nat → Nat) (n nm : Nat) (tr : Nat → Int32) (p : Nat) : Prop := (fmS K lf n nm tr p).1 ≤ (fmS K lf n nm tr p).2.1 ∧ 0 < (fmS K lf n nm tr p).2.1 ∧ (fmS K lf n nm tr p).2.1 < 2 ^ 21
theorem fmS_off {K lf : Nat → Nat} {n : Nat} (hw : wfP K lf n) (nm : Nat) (tr : Nat → Int32) : ∀ k q, (fmS K lf n nm tr q).1 ≤ (fmS K lf n nm tr (q + k)).1
  | 0, _ => Nat.le_refl _
  | k + 1, q => Nat.le_trans (fmS_off hw nm tr k q) (fmS_le hw nm tr (q + k)).2.2.2
theorem fmI_step {K lf : Nat → Nat} {n nm : Nat} {tr : Nat → Int32} {p : Nat} {mo mo' ms me : Nat → Int32} {x y : Int32} (hw : wfP K lf n) (h : fmI K lf n nm tr p mo ms me) (hx : x = nI (fmS K lf n nm tr p).1) (hy : y = nI (fmS K lf n nm tr (p + 1)).1) (hm : mvOk mo' (fmS K lf n nm tr p).1 (gmvP K lf n p (fmS K lf n nm tr p)).1) (ho : ∀ j, j < (fmS K lf n nm tr p).1 → mo' j = mo j) : fmI K lf n nm tr (p + 1) mo' (upd ms p x) (upd me p y) := by
  intro q hq
  by_cases hqp : q = p
  · subst hqp
    rw [upd_s, upd_s]
    exact ⟨hx, hy, hm⟩
  · rw [upd_n hqp, upd_n hqp]
    obtain ⟨h1, h2, h3⟩ := h q (by omega)
    refine ⟨h1, h2, fun j hj => ?_⟩
    have h4 := fmS_off hw nm tr (p - (q + 1)) (q + 1)
    rw [show q + 1 + (p - (q + 1)) = p by omega, fmS_s] at h4
    have h5 : (fmS K lf n nm tr q).1 + (gmvP K lf n q (fmS K lf n nm tr q)).1.length ≤ (fmS K lf n nm tr p).1 := h4
    rw [ho _ (by omega)]
    exact h3 j hj
set_option maxRecDepth 100000 in
theorem l_findMoves {G : aG} (K lf : Nat → Nat) (n : Nat) (hw : wfP K lf n) (sorts : Int32) (kd sa la sp sh : Nat → Int32) (hk : ∀ j, j < n → kd j = nI (K j)) (hg : gdN K lf n sa la sp sh) (N nm : Nat) (tr : Nat → Int32) (hN : psp K lf (n - 1) ≤ N) (hN2 : N < 2 ^ 20)
    (hgd : 2 * n + 16 ≤ gD G) (hgn : gN G = 10) (hgm : gM G = mvP) (hgc : (fmS K lf n nm tr (psp K lf (n - 1))).2.1 - nm ≤ gC G) (hgs : 2 * ((fmS K lf n nm tr (psp K lf (n - 1))).2.1 - nm) ≤ gS G)
    (hP : ∀ lv mo ms me k0 n0, fmI K lf n nm tr (psp K lf (n - 1)) mo ms me → fmG K lf n nm tr (psp K lf (n - 1)) → k0 ≤ (fmS K lf n nm tr (psp K lf (n - 1))).2.1 - nm → n0 ≤ 2 * ((fmS K lf n nm tr (psp K lf (n - 1))).2.1 - nm) → RET G none (pH (nI (n - 1)) (nI (psp K lf (n - 1))) sorts (nI (fmS K lf n nm tr (psp K lf (n - 1))).1) lv kd sa la sp sh N (fmS K lf n nm tr (psp K lf (n - 1))).2.2 (fmS K lf n nm tr (psp K lf (n - 1))).2.1 mo N ms N me) k0 n0) : ∀ (m p : Nat) (lv : Int32) (mo ms me : Nat → Int32) (k0 n0 : Nat), p + m = psp K lf (n - 1) → fmI K lf n nm tr p mo ms me → fmG K lf n nm tr p → k0 ≤ (fmS K lf n nm tr p).2.1 - nm → n0 ≤ 2 * ((fmS K lf n nm tr p).2.1 - nm) →
    AW 15 G 7 [some (.ref 0), some (.int (nI p))] [] (pH (nI (n - 1)) (nI (psp K lf (n - 1))) sorts (nI (fmS K lf n nm tr p).1) lv kd sa la sp sh N (fmS K lf n nm tr p).2.2 (fmS K lf n nm tr p).2.1 mo N ms N me) k0 n0 := by
  intro m
  have hn := hw.2.1
  have hn0 := hw.1
  have hsp := wf_sp hw (show n - 1 < n by omega)
  have mono : ∀ k q, (fmS K lf n nm tr q).2.1 ≤ (fmS K lf n nm tr (q + k)).2.1 := by
    intro k
    induction k with
    | zero => exact fun q => Nat.le_refl _
    | succ k ihk => exact fun q => Nat.le_trans (ihk q) (fmS_le hw nm tr (q + k)).2.2.1
  induction m with
  | zero =>
    intro p lv mo ms me k0 n0 hp hI hGd hk0 hn0
    have hpe : p = psp K lf (n - 1) := by omega
    subst hpe
    have t1 : psp K lf (n - 1) ≤ psp K lf (n - 1) := Nat.le_refl _
    refine wq_aw (S := fun x => x == 7) (by decide) (f := 200) ?_
    simp (disch := first | exact rfl | decide | omega) only [v_15_7, u_15_0, u_15_1, u_15_2, u_15_5, u_15_6, u_15_7, u_15_8, u_15_9, u_15_12, u_15_15, u_15_16, u_15_17, u_15_20, u_15_21, u_15_24, u_15_25, u_15_26, u_15_29, u_15_30, u_15_31, u_15_32, u_15_35, u_15_36, u_15_37, u_15_38, u_15_41, u_15_42, u_15_45, u_15_46, u_15_47, u_15_50, u_15_51, u_15_54, u_15_57, wp_stop, lget, lput1, lput2, kil, hget, hset, vget, vset, fget, fgetC, fput, fputC, iget, igetC, jget, jgetC, qget, qgetC, alen, lenC, oI, oJ, oF, oA, oV, oH, oInc, oIld, oJld, oQld, oR, oLen, oIst, oBst, oJst, oQst, ciOf, rcv, oCp, cat1, cond_true, cond_false, Bool.and_self, Bool.and_true, Bool.true_and, Bool.or_true, Bool.true_or, Bool.or_false, Bool.false_or, Bool.not_false, Bool.not_true, ↓reduceIte, Nat.reduceBEq, Nat.reduceEqDiff, beq_self_eq_true, true_and, and_true, eq_self_iff_true, Nat.reduceAdd, Nat.blt, Nat.ble, z_le, z_lt, z_eq, z_cl, z_add, z_sub, z_mul, z_in, z_lt0, z_ofN, z_m1, z_ltm1, z_m1lt, z_eqm1, z_m1eq, z_m1le, z_lem1, z_beq, nI_0_1, nI_m1lt0, nI_0lem1, not_false_eq_true, not_true_eq_false, forall_const, false_implies, true_implies, implies_true, false_and, and_false, mrg, renc, tra, trv, sg, List.map_cons, List.map_nil, Option.map_some, Option.map_none, Option.toList_some, Option.toList_none, List.cons_append, List.nil_append, List.length_cons, List.length_nil, pH, pO, t1]
    exact hP lv mo ms me k0 n0 hI hGd hk0 hn0
  | succ m ih =>
    intro p lv mo ms me k0 n0 hp hI hGd hk0 hn0
    have t1 : ¬ psp K lf (n - 1) ≤ p := by omega
    have b0 := fmS_le hw nm tr p
    have b1 := mono (psp K lf (n - 1) - (p + 1)) (p + 1)
    rw [show p + 1 + (psp K lf (n - 1) - (p + 1)) = psp K lf (n - 1) by omega] at b1
    obtain ⟨g1, g2, g3⟩ := hGd
    have hpl := (pmv_len hw (n - 1) (by omega)).2 p
    have hfe : kfo (fmS K lf n nm tr p).1 p ([], (fmS K lf n nm tr p).2.1, (fmS K lf n nm tr p).2.2) (scl 1 0 (pmv K lf (n - 1) p)) = gmvP K lf n p (fmS K lf n nm tr p) := rfl
    have b2 : (gmvP K lf n p (fmS K lf n nm tr p)).2.1 = (fmS K lf n nm tr (p + 1)).2.1 := rfl
    have L := lv_leave (S := psp K lf (n - 1)) (l := p) (a := (fmS K lf n nm tr p).1) (N := N) (root := nI (n - 1)) (sorts := sorts) (ms := upd ms p (nI (fmS K lf n nm tr p).1)) (me := me) hw hk hg hsp (by omega) hN hN2 upd_s (n - 1) (by omega)
    have hpN : p < N := by omega
    refine wq_aw (S := fun x => x == 7) (by decide) (f := 200) ?_
    simp (disch := first | exact rfl | decide | omega) only [v_15_7, u_15_0, u_15_1, u_15_2, u_15_5, u_15_6, u_15_7, u_15_8, u_15_9, u_15_12, u_15_15, u_15_16, u_15_17, u_15_20, u_15_21, u_15_24, u_15_25, u_15_26, u_15_29, u_15_30, u_15_31, u_15_32, u_15_35, u_15_36, u_15_37, u_15_38, u_15_41, u_15_42, u_15_45, u_15_46, u_15_47, u_15_50, u_15_51, u_15_54, u_15_57, wp_stop, lget, lput1, lput2, kil, hget, hset, vget, vset, fget, fgetC, fput, fputC, iget, igetC, jget, jgetC, qget, qgetC, alen, lenC, oI, oJ, oF, oA, oV, oH, oInc, oIld, oJld, oQld, oR, oLen, oIst, oBst, oJst, oQst, ciOf, rcv, oCp, cat1, cond_true, cond_false, Bool.and_self, Bool.and_true, Bool.true_and, Bool.or_true, Bool.true_or, Bool.or_false, Bool.false_or, Bool.not_false, Bool.not_true, ↓reduceIte, Nat.reduceBEq, Nat.reduceEqDiff, beq_self_eq_true, true_and, and_true, eq_self_iff_true, Nat.reduceAdd, Nat.blt, Nat.ble, z_le, z_lt, z_eq, z_cl, z_add, z_sub, z_mul, z_in, z_lt0, z_ofN, z_m1, z_ltm1, z_m1lt, z_eqm1, z_m1eq, z_m1le, z_lem1, z_beq, nI_0_1, nI_m1lt0, nI_0lem1, not_false_eq_true, not_true_eq_false, forall_const, false_implies, true_implies, implies_true, false_and, and_false, mrg, renc, tra, trv, sg, List.map_cons, List.map_nil, Option.map_some, Option.map_none, Option.toList_some, Option.toList_none, List.cons_append, List.nil_append, List.length_cons, List.length_nil, pH, pO, t1]
    refine cal_lv (σ := ([], (fmS K lf n nm tr p).2.1, (fmS K lf n nm tr p).2.2)) (mo := mo) L (by omega) (by omega) (Nat.le_refl 1) (by omega) ⟨fun j hj => absurd hj (Nat.not_lt_zero j), g1, g2, g3⟩ (by show (fmS K lf n nm tr p).1 + 0 + _ ≤ _; omega) (by omega) (by rw [hfe, b2]; show k0 + ((fmS K lf n nm tr (p + 1)).2.1 - (fmS K lf n nm tr p).2.1) ≤ _; omega) (by rw [hfe, b2]; show n0 + 2 * ((fmS K lf n nm tr (p + 1)).2.1 - (fmS K lf n nm tr p).2.1) ≤ _; omega) hgn hgm rfl (fun mo1 h1 f1 => ?_)
    rw [hfe] at h1 ⊢
    simp (disch := first | exact rfl | decide | omega) only [u_15_0, u_15_1, u_15_2, u_15_5, u_15_6, u_15_7, u_15_8, u_15_9, u_15_12, u_15_15, u_15_16, u_15_17, u_15_20, u_15_21, u_15_24, u_15_25, u_15_26, u_15_29, u_15_30, u_15_31, u_15_32, u_15_35, u_15_36, u_15_37, u_15_38, u_15_41, u_15_42, u_15_45, u_15_46, u_15_47, u_15_50, u_15_51, u_15_54, u_15_57, wp_stop, lget, lput1, lput2, kil, hget, hset, vget, vset, fget, fgetC, fput, fputC, iget, igetC, jget, jgetC, qget, qgetC, alen, lenC, oI, oJ, oF, oA, oV, oH, oInc, oIld, oJld, oQld, oR, oLen, oIst, oBst, oJst, oQst, ciOf, rcv, oCp, cat1, cond_true, cond_false, Bool.and_self, Bool.and_true, Bool.true_and, Bool.or_true, Bool.true_or, Bool.or_false, Bool.false_or, Bool.not_false, Bool.not_true, ↓reduceIte, Nat.reduceBEq, Nat.reduceEqDiff, beq_self_eq_true, true_and, and_true, eq_self_iff_true, Nat.reduceAdd, Nat.blt, Nat.ble, z_le, z_lt, z_eq, z_cl, z_add, z_sub, z_mul, z_in, z_lt0, z_ofN, z_m1, z_ltm1, z_m1lt, z_eqm1, z_m1eq, z_m1le, z_lem1, z_beq, nI_0_1, nI_m1lt0, nI_0lem1, not_false_eq_true, not_true_eq_false, forall_const, false_implies, true_implies, implies_true, false_and, and_false, mrg, renc, tra, trv, sg, List.map_cons, List.map_nil, Option.map_some, Option.map_none, Option.toList_some, Option.toList_none, List.cons_append, List.nil_append, List.length_cons, List.length_nil, pH, pO]
    refine ih (p + 1) (nI p) mo1 _ _ _ _ (by omega) (fmI_step hw hI rfl rfl h1.1 f1) ⟨h1.2.1, h1.2.2.1, h1.2.2.2⟩ ?_ ?_
    · show k0 + ((fmS K lf n nm tr (p + 1)).2.1 - (fmS K lf n nm tr p).2.1) ≤ (fmS K lf n nm tr (p + 1)).2.1 - nm
      omega
    · show n0 + 2 * ((fmS K lf n nm tr (p + 1)).2.1 - (fmS K lf n nm tr p).2.1) ≤ 2 * ((fmS K lf n nm tr (p + 1)).2.1 - nm)
      omega
set_option maxRecDepth 100000 in
theorem c_findMoves (d : Nat) (K lf : Nat → Nat) (n : Nat) (hw : wfP K lf n) (sorts mc lv : Int32) (kd sa la sp sh : Nat → Int32) (hk : ∀ j, j < n → kd j = nI (K j)) (hg : gdN K lf n sa la sp sh) (N nm : Nat) (tr mo ms me : Nat → Int32) (hN : psp K lf (n - 1) ≤ N) (hN2 : N < 2 ^ 20) (hnm : 0 < nm) (hnm2 : nm < 2 ^ 21) :
    aSp (d + 48) 15 [.ref 0] (pH (nI (n - 1)) (nI (psp K lf (n - 1))) sorts mc lv kd sa la sp sh N tr nm mo N ms N me) mvP ((fmS K lf n nm tr (psp K lf (n - 1))).2.1 - nm) (2 * ((fmS K lf n nm tr (psp K lf (n - 1))).2.1 - nm))
      (fun r h' => r = none ∧ ∃ lv mo ms me, h' = pH (nI (n - 1)) (nI (psp K lf (n - 1))) sorts (nI (fmS K lf n nm tr (psp K lf (n - 1))).1) lv kd sa la sp sh N (fmS K lf n nm tr (psp K lf (n - 1))).2.2 (fmS K lf n nm tr (psp K lf (n - 1))).2.1 mo N ms N me ∧ fmI K lf n nm tr (psp K lf (n - 1)) mo ms me ∧ fmG K lf n nm tr (psp K lf (n - 1))) := by
  have hn := hw.2.1
  refine sp_of (by decide) (Nat.le_of_ble_eq_true rfl) ?_
  generalize hG : ((d + 48, _, mvP, _, _, _) : aG) = G
  have hgd : gD G = d + 48 := by subst hG; rfl
  have hgn : gN G = 10 := by subst hG; rfl
  have hgm : gM G = mvP := by subst hG; rfl
  have hgc : gC G = (fmS K lf n nm tr (psp K lf (n - 1))).2.1 - nm := by subst hG; rfl
  have hgs : gS G = 2 * ((fmS K lf n nm tr (psp K lf (n - 1))).2.1 - nm) := by subst hG; rfl
  have hret : ∀ lv mo ms me k0 n0, fmI K lf n nm tr (psp K lf (n - 1)) mo ms me → fmG K lf n nm tr (psp K lf (n - 1)) → k0 ≤ (fmS K lf n nm tr (psp K lf (n - 1))).2.1 - nm → n0 ≤ 2 * ((fmS K lf n nm tr (psp K lf (n - 1))).2.1 - nm) → RET G none (pH (nI (n - 1)) (nI (psp K lf (n - 1))) sorts (nI (fmS K lf n nm tr (psp K lf (n - 1))).1) lv kd sa la sp sh N (fmS K lf n nm tr (psp K lf (n - 1))).2.2 (fmS K lf n nm tr (psp K lf (n - 1))).2.1 mo N ms N me) k0 n0 := by
    intro lv mo ms me k0 n0 h1 h2 h3 h4
    subst hG
    exact RET.id ⟨rfl, lv, mo, ms, me, rfl, h1, h2⟩ h3 h4
  clear hG
  refine wp_aw (S := fun x => x == 7) (by decide) 200 _ _ _ _ _ _ ?_
  simp (disch := first | exact rfl | decide | omega) only [u_15_0, u_15_1, u_15_2, u_15_5, u_15_6, u_15_7, u_15_8, u_15_9, u_15_12, u_15_15, u_15_16, u_15_17, u_15_20, u_15_21, u_15_24, u_15_25, u_15_26, u_15_29, u_15_30, u_15_31, u_15_32, u_15_35, u_15_36, u_15_37, u_15_38, u_15_41, u_15_42, u_15_45, u_15_46, u_15_47, u_15_50, u_15_51, u_15_54, u_15_57, wp_stop, lget, lput1, lput2, kil, hget, hset, vget, vset, fget, fgetC, fput, fputC, iget, igetC, jget, jgetC, qget, qgetC, alen, lenC, oI, oJ, oF, oA, oV, oH, oInc, oIld, oJld, oQld, oR, oLen, oIst, oBst, oJst, oQst, ciOf, rcv, oCp, cat1, cond_true, cond_false, Bool.and_self, Bool.and_true, Bool.true_and, Bool.or_true, Bool.true_or, Bool.or_false, Bool.false_or, Bool.not_false, Bool.not_true, ↓reduceIte, Nat.reduceBEq, Nat.reduceEqDiff, beq_self_eq_true, true_and, and_true, eq_self_iff_true, Nat.reduceAdd, Nat.blt, Nat.ble, z_le, z_lt, z_eq, z_cl, z_add, z_sub, z_mul, z_in, z_lt0, z_ofN, z_m1, z_ltm1, z_m1lt, z_eqm1, z_m1eq, z_m1le, z_lem1, z_beq, nI_0_1, nI_m1lt0, nI_0lem1, not_false_eq_true, not_true_eq_false, forall_const, false_implies, true_implies, implies_true, false_and, and_false, mrg, renc, tra, trv, sg, List.map_cons, List.map_nil, Option.map_some, Option.map_none, Option.toList_some, Option.toList_none, List.cons_append, List.nil_append, List.length_cons, List.length_nil, eL, mL_15, pH, pO]
  exact l_findMoves K lf n hw sorts kd sa la sp sh hk hg N nm tr hN hN2 (by rw [hgd]; omega) hgn hgm (by rw [hgc]; exact Nat.le_refl _) (by rw [hgs]; exact Nat.le_refl _) hret (psp K lf (n - 1)) 0 lv mo ms me 0 0 (by omega) (fun q hq => absurd hq (Nat.not_lt_zero q)) ⟨Nat.zero_le _, hnm, hnm2⟩ (Nat.zero_le _) (Nat.zero_le _)
