/-! Plan.leave -/
theorem pmv_ok {K lf : Nat → Nat} {n : Nat} (hw : wfP K lf n) : ∀ i, i < n → ∀ p, p < psp K lf i → ∀ m ∈ pmv K lf i p, m.1 < 8 ∧ 1 ≤ m.2 ∧ m.2 < psp K lf i := by
  intro i
  induction i using Nat.strongRecOn with
  | _ i ih =>
    intro hi p hp m hm
    obtain ⟨hk1, hk2, hk3, hk4⟩ := hw.2.2.1 i hi
    by_cases h8 : K i ≤ 8
    · rw [pmv_let h8] at hm
      rw [psp_let h8]
      split at hm
      · rw [List.mem_singleton] at hm; subst hm; exact ⟨by show K i - 1 < 8; omega, Nat.le_refl 1, by show (1 : Nat) < 2; omega⟩
      · simp at hm
    · by_cases h9 : K i = 9
      · rw [pmv_emp h9] at hm; simp at hm
      · by_cases h13 : 13 ≤ K i
        · have h0 := hk3 (by omega)
          rw [pmv_un h13 h0] at hm
          rw [psp_un h13 h0] at hp ⊢
          rcases List.mem_append.mp hm with q | q
          · exact ih (i - 1) (by omega) (by omega) p hp m q
          · split at q
            · exact ih (i - 1) (by omega) (by omega) 0 (psp_pos K lf (i - 1)) m q
            · simp at q
        · obtain ⟨h0, hl1, hl2⟩ := wf_lf hw hi (by omega) (by omega)
          have q1 := psp_pos K lf (lf i)
          have q2 := psp_pos K lf (i - 1)
          by_cases h11 : K i = 11
          · rw [pmv_mix h11 h0 (by omega)] at hm
            rw [psp_mix h11 h0 (by omega)] at hp ⊢
            have hdv : p / psp K lf (i - 1) < psp K lf (lf i) := Nat.div_lt_of_lt_mul (by rw [Nat.mul_comm]; exact hp)
            have hmd : p % psp K lf (i - 1) < psp K lf (i - 1) := Nat.mod_lt _ q2
            rcases List.mem_append.mp hm with q | q
            · obtain ⟨x, hx, rfl⟩ := List.mem_map.mp q
              obtain ⟨a1, a2, a3⟩ := ih (lf i) (by omega) (by omega) _ hdv x hx
              refine ⟨a1, ?_, ?_⟩
              · have := Nat.mul_le_mul a2 (Nat.le_refl (psp K lf (i - 1)))
                show 1 ≤ x.2 * psp K lf (i - 1) + p % psp K lf (i - 1)
                omega
              · have := Nat.mul_le_mul (show x.2 + 1 ≤ psp K lf (lf i) from a3) (Nat.le_refl (psp K lf (i - 1)))
                rw [Nat.add_mul, Nat.one_mul] at this
                show x.2 * psp K lf (i - 1) + p % psp K lf (i - 1) < psp K lf (lf i) * psp K lf (i - 1)
                omega
            · obtain ⟨x, hx, rfl⟩ := List.mem_map.mp q
              obtain ⟨a1, a2, a3⟩ := ih (i - 1) (by omega) (by omega) _ hmd x hx
              refine ⟨a1, ?_, ?_⟩
              · show 1 ≤ p / psp K lf (i - 1) * psp K lf (i - 1) + x.2
                omega
              · have := Nat.mul_le_mul (show p / psp K lf (i - 1) + 1 ≤ psp K lf (lf i) from hdv) (Nat.le_refl (psp K lf (i - 1)))
                rw [Nat.add_mul, Nat.one_mul] at this
                show p / psp K lf (i - 1) * psp K lf (i - 1) + x.2 < psp K lf (lf i) * psp K lf (i - 1)
                omega
          · have hpr : K i = 10 ∨ K i = 12 := by omega
            rw [psp_pair hpr h0 (by omega)] at hp ⊢
            by_cases hsp : psp K lf (lf i) ≤ p
            · rw [pmv_hi hpr h0 (by omega) hsp] at hm
              obtain ⟨x, hx, rfl⟩ := List.mem_map.mp hm
              obtain ⟨a1, a2, a3⟩ := ih (i - 1) (by omega) (by omega) _ (by omega) x hx
              refine ⟨a1, ?_, ?_⟩
              · show 1 ≤ psp K lf (lf i) - 1 + x.2; omega
              · show psp K lf (lf i) - 1 + x.2 < _; omega
            · rw [pmv_lo hpr h0 (by omega) hsp] at hm
              rcases List.mem_append.mp hm with q | q
              · obtain ⟨a1, a2, a3⟩ := ih (lf i) (by omega) (by omega) p (by omega) m q
                exact ⟨a1, a2, by omega⟩
              · by_cases hc : (if K i = 12 then pal K lf (lf i) p = true else p = 0)
                · rw [if_pos hc] at q
                  obtain ⟨x, hx, rfl⟩ := List.mem_map.mp q
                  obtain ⟨a1, a2, a3⟩ := ih (i - 1) (by omega) (by omega) 0 q2 x hx
                  refine ⟨a1, ?_, ?_⟩
                  · show 1 ≤ psp K lf (lf i) - 1 + x.2; omega
                  · show psp K lf (lf i) - 1 + x.2 < _; omega
                · rw [if_neg hc] at q
                  simp at q
/-- moves, room for them, traits -/
abbrev kS : Type := List (Nat × Nat) × Nat × (Nat → Int32)
def kst (a l : Nat) (σ : kS) (m : Nat × Nat) : kS := if m ∈ σ.1 then σ else (σ.1 ++ [m], kN σ.1 (a + σ.1.length) σ.2.1 m, kT σ.2.2 l m.1 m.2)
def kfo (a l : Nat) (σ : kS) (M : List (Nat × Nat)) : kS := M.foldl (kst a l) σ
theorem kfo_app (a l : Nat) (σ : kS) (M M2 : List (Nat × Nat)) : kfo a l σ (M ++ M2) = kfo a l (kfo a l σ M) M2 := List.foldl_append
theorem kst_le (a l : Nat) (σ : kS) (m : Nat × Nat) : σ.2.1 ≤ (kst a l σ m).2.1 ∧ (kst a l σ m).1.length ≤ σ.1.length + 1 := by
  unfold kst
  split
  · exact ⟨Nat.le_refl _, by omega⟩
  · refine ⟨?_, by simp⟩
    show σ.2.1 ≤ kN _ _ _ _
    unfold kN
    split
    · exact Nat.le_refl _
    · split
      · exact Nat.le_refl _
      · omega
theorem kfo_le (a l : Nat) : ∀ (M : List (Nat × Nat)) (σ : kS), σ.2.1 ≤ (kfo a l σ M).2.1 ∧ (kfo a l σ M).1.length ≤ σ.1.length + M.length
  | [], σ => ⟨Nat.le_refl _, by simp [kfo]⟩
  | m :: M, σ => by
    obtain ⟨h1, h2⟩ := kst_le a l σ m
    obtain ⟨h3, h4⟩ := kfo_le a l M (kst a l σ m)
    exact ⟨Nat.le_trans h1 h3, by show (kfo a l (kst a l σ m) M).1.length ≤ _; simp only [List.length_cons]; omega⟩
def scl (sc sf : Nat) (M : List (Nat × Nat)) : List (Nat × Nat) := M.map (fun m => (m.1, m.2 * sc + sf))
theorem scl_app (sc sf : Nat) (M M2 : List (Nat × Nat)) : scl sc sf (M ++ M2) = scl sc sf M ++ scl sc sf M2 := List.map_append
theorem scl_scl (sc sf sc2 sf2 : Nat) (M : List (Nat × Nat)) : scl sc sf (M.map (fun m => (m.1, m.2 * sc2 + sf2))) = scl (sc * sc2) (sf + sc * sf2) M := by
  unfold scl
  rw [List.map_map]
  congr 1
  funext m
  simp only [Function.comp]
  congr 1
  rw [Nat.add_mul, Nat.mul_assoc, Nat.mul_comm sc2 sc, Nat.mul_comm sf2 sc]
  omega
theorem scl_sh (sc sf b : Nat) (M : List (Nat × Nat)) : scl sc sf (M.map (fun m => (m.1, b + m.2))) = scl sc (sf + sc * b) M := by
  unfold scl
  rw [List.map_map]
  congr 1
  funext m
  simp only [Function.comp]
  congr 1
  rw [Nat.add_mul, Nat.mul_comm b sc]
  omega
theorem scl_len (sc sf : Nat) (M : List (Nat × Nat)) : (scl sc sf M).length = M.length := List.length_map ..
section LV
variable (K lf : Nat → Nat) (n S l a N : Nat) (root sorts : Int32) (kd sa la sp sh ms me : Nat → Int32)
/-- the cells while the moves out of a place are found -/
abbrev kH (σ : kS) (mo : Nat → Int32) : aH := pH root (nI S) sorts (nI (a + σ.1.length)) (nI l) kd sa la sp sh N σ.2.2 σ.2.1 mo N ms N me
def kGd (σ : kS) (mo : Nat → Int32) : Prop := mvOk mo a σ.1 ∧ a + σ.1.length ≤ σ.2.1 ∧ 0 < σ.2.1 ∧ σ.2.1 < 2 ^ 21
def LV (μ i D : Nat) : Prop := ∀ (p sc sf : Nat) (σ : kS) (mo : Nat → Int32), p < psp K lf i → sc * psp K lf i ≤ 256 → 1 ≤ sc → (psp K lf i - 1) * sc + sf < S → kGd a σ mo → a + σ.1.length + (pmv K lf i p).length ≤ 2 ^ 19 →
  aSp D μ [.ref 0, .int (nI i), .int (nI p), .int (nI sc), .int (nI sf)] (kH S l a N root sorts kd sa la sp sh ms me σ mo) mvP ((kfo a l σ (scl sc sf (pmv K lf i p))).2.1 - σ.2.1) (2 * ((kfo a l σ (scl sc sf (pmv K lf i p))).2.1 - σ.2.1))
    (fun r h' => r = none ∧ ∃ mo', h' = kH S l a N root sorts kd sa la sp sh ms me (kfo a l σ (scl sc sf (pmv K lf i p))) mo' ∧ kGd a (kfo a l σ (scl sc sf (pmv K lf i p))) mo' ∧ ∀ j, j < a → mo' j = mo j)
end LV
section LV2
variable {K lf : Nat → Nat} {n S l a N : Nat} {root sorts : Int32} {kd sa la sp sh ms me : Nat → Int32}
set_option maxRecDepth 100000 in
theorem cal_leave {μ f pc j p sc sf k0 n0 D : Nat} {G : aG} {ls : aL} {σ : kS} {mo : Nat → Int32} {St : Nat → Bool} (hL : LV K lf S l a N root sorts kd sa la sp sh ms me 16 j D) (hp : p < psp K lf j) (hsc : sc * psp K lf j ≤ 256) (hs1 : 1 ≤ sc) (hS : (psp K lf j - 1) * sc + sf < S) (hg : kGd a σ mo) (hc : a + σ.1.length + (pmv K lf j p).length ≤ 2 ^ 19)
    (hd : D + 1 ≤ gD G) (hk : k0 + ((kfo a l σ (scl sc sf (pmv K lf j p))).2.1 - σ.2.1) ≤ gC G) (hn : n0 + 2 * ((kfo a l σ (scl sc sf (pmv K lf j p))).2.1 - σ.2.1) ≤ gS G) (hN : gN G = 10) (hM : gM G = mvP) (hls : okL 10 mvP ls = true)
    (kk : ∀ mo', kGd a (kfo a l σ (scl sc sf (pmv K lf j p))) mo' → (∀ x, x < a → mo' x = mo x) → WP μ G St f pc ls [] (kH S l a N root sorts kd sa la sp sh ms me (kfo a l σ (scl sc sf (pmv K lf j p))) mo') (k0 + ((kfo a l σ (scl sc sf (pmv K lf j p))).2.1 - σ.2.1)) (n0 + 2 * ((kfo a l σ (scl sc sf (pmv K lf j p))).2.1 - σ.2.1))) :
    CAL G (WP μ G St f) 16 [.ref 0, .int (nI j), .int (nI p), .int (nI sc), .int (nI sf)] pc ls [] (kH S l a N root sorts kd sa la sp sh ms me σ mo) k0 n0 := by
  refine ⟨D, mvP, _, _, _, hL p sc sf σ mo hp hsc hs1 hS hg hc, hd, hk, hn, Nat.le_of_ble_eq_true rfl, by rw [hN]; exact Nat.le_refl _, fun x _ h2 => by rw [hM] at h2; exact h2, hls, rfl, ?_⟩
  rintro _ _ ⟨rfl, mo', rfl, h1, h2⟩
  exact kk mo' h1 h2
set_option maxRecDepth 100000 in
theorem lv_times (hw : wfP K lf n) (hk : ∀ j, j < n → kd j = nI (K j)) (hg : gdN K lf n sa la sp sh) {i D : Nat} (hi : i < n) (h13 : 13 ≤ K i) (hD : 17 ≤ D) (ih : LV K lf S l a N root sorts kd sa la sp sh ms me 16 (i - 1) D) (hS : S ≤ 256) : LV K lf S l a N root sorts kd sa la sp sh ms me 19 i (D + 1) := by
  intro p sc sf σ mo hp hsc hs1 hsf hgd hc
  have hn := hw.2.1
  obtain ⟨hk1, hk2, hk3, hk4⟩ := hw.2.2.1 i hi
  have h0 := hk3 (by omega)
  have hki := hk i hi
  have hsp := wf_sp hw hi
  have hp1 := psp_pos K lf (i - 1)
  rw [psp_un h13 h0] at hp hsc hsf hsp
  rw [pmv_un h13 h0] at hc ⊢
  rw [scl_app, kfo_app]
  have m1 := kfo_le a l (scl sc sf (pmv K lf (i - 1) p)) σ
  rw [scl_len] at m1
  have hcc : sc ≤ 256 := Nat.le_trans (Nat.le_mul_of_pos_right sc hp1) hsc
  have hff : sf < 256 := by omega
  rw [List.length_append] at hc
  by_cases hb : K i ≠ 13 ∧ p ≠ 0 ∧ pal K lf (i - 1) p = true
  · rw [if_pos hb] at hc ⊢
    obtain ⟨b1, b2, b3⟩ := hb
    have m2 := kfo_le a l (scl sc sf (pmv K lf (i - 1) 0)) (kfo a l σ (scl sc sf (pmv K lf (i - 1) p)))
    generalize hM : kfo a l (kfo a l σ (scl sc sf (pmv K lf (i - 1) p))) (scl sc sf (pmv K lf (i - 1) 0)) = M at m2 ⊢
    refine sp_of (by decide) (Nat.le_of_ble_eq_true rfl) ?_
    generalize hG : ((D + 1, _, mvP, _, _, _) : aG) = G
    have ggd : gD G = D + 1 := by subst hG; rfl
    have ggn : gN G = 10 := by subst hG; rfl
    have ggm : gM G = mvP := by subst hG; rfl
    have ggc : gC G = M.2.1 - σ.2.1 := by subst hG; rfl
    have ggs : gS G = 2 * (M.2.1 - σ.2.1) := by subst hG; rfl
    have hret : ∀ mo', kGd a M mo' → (∀ j, j < a → mo' j = mo j) → ∀ k0 n0, k0 ≤ M.2.1 - σ.2.1 → n0 ≤ 2 * (M.2.1 - σ.2.1) → RET G none (kH S l a N root sorts kd sa la sp sh ms me M mo') k0 n0 := by
      intro mo' h1 h2 k0 n0 h3 h4
      subst hG
      exact RET.id ⟨rfl, mo', rfl, h1, h2⟩ h3 h4
    clear hG
    refine wp_aw (S := fun _ => false) (by decide) 200 _ _ _ _ _ _ ?_
    simp (disch := first | exact rfl | decide | omega) only [u_19_0, u_19_1, u_19_2, u_19_3, u_19_5, u_19_6, u_19_8, u_19_9, u_19_10, u_19_12, u_19_15, u_19_16, u_19_19, u_19_20, u_19_21, u_19_23, u_19_26, u_19_27, u_19_30, u_19_31, u_19_33, u_19_34, u_19_37, u_19_40, u_19_41, u_19_43, u_19_44, u_19_45, u_19_47, u_19_50, wp_stop, lget, lput1, lput2, kil, hget, hset, vget, vset, fget, fgetC, fput, fputC, iget, igetC, jget, jgetC, qget, qgetC, alen, lenC, oI, oJ, oF, oA, oV, oH, oInc, oIld, oJld, oQld, oR, oLen, oIst, oBst, oJst, oQst, ciOf, rcv, oCp, cat1, cond_true, cond_false, Bool.and_self, Bool.and_true, Bool.true_and, Bool.or_true, Bool.true_or, Bool.or_false, Bool.false_or, Bool.not_false, Bool.not_true, ↓reduceIte, Nat.reduceBEq, Nat.reduceEqDiff, beq_self_eq_true, true_and, and_true, eq_self_iff_true, Nat.reduceAdd, Nat.blt, Nat.ble, z_le, z_lt, z_eq, z_cl, z_add, z_sub, z_mul, z_in, z_lt0, z_ofN, z_m1, z_ltm1, z_m1lt, z_eqm1, z_m1eq, z_m1le, z_lem1, z_beq, nI_0_1, nI_m1lt0, nI_0lem1, not_false_eq_true, not_true_eq_false, forall_const, false_implies, true_implies, implies_true, false_and, and_false, mrg, renc, tra, trv, sg, List.map_cons, List.map_nil, Option.map_some, Option.map_none, Option.toList_some, Option.toList_none, List.cons_append, List.nil_append, List.length_cons, List.length_nil, eL, mL_19, pH, pO]
    refine cal_leave ih hp hsc hs1 hsf hgd (by omega) (by rw [ggd]; omega) (by rw [ggc]; omega) (by rw [ggs]; omega) ggn ggm rfl (fun mo1 g1 f1 => ?_)
    simp (disch := first | exact rfl | decide | omega) only [u_19_0, u_19_1, u_19_2, u_19_3, u_19_5, u_19_6, u_19_8, u_19_9, u_19_10, u_19_12, u_19_15, u_19_16, u_19_19, u_19_20, u_19_21, u_19_23, u_19_26, u_19_27, u_19_30, u_19_31, u_19_33, u_19_34, u_19_37, u_19_40, u_19_41, u_19_43, u_19_44, u_19_45, u_19_47, u_19_50, wp_stop, lget, lput1, lput2, kil, hget, hset, vget, vset, fget, fgetC, fput, fputC, iget, igetC, jget, jgetC, qget, qgetC, alen, lenC, oI, oJ, oF, oA, oV, oH, oInc, oIld, oJld, oQld, oR, oLen, oIst, oBst, oJst, oQst, ciOf, rcv, oCp, cat1, cond_true, cond_false, Bool.and_self, Bool.and_true, Bool.true_and, Bool.or_true, Bool.true_or, Bool.or_false, Bool.false_or, Bool.not_false, Bool.not_true, ↓reduceIte, Nat.reduceBEq, Nat.reduceEqDiff, beq_self_eq_true, true_and, and_true, eq_self_iff_true, Nat.reduceAdd, Nat.blt, Nat.ble, z_le, z_lt, z_eq, z_cl, z_add, z_sub, z_mul, z_in, z_lt0, z_ofN, z_m1, z_ltm1, z_m1lt, z_eqm1, z_m1eq, z_m1le, z_lem1, z_beq, nI_0_1, nI_m1lt0, nI_0lem1, not_false_eq_true, not_true_eq_false, forall_const, false_implies, true_implies, implies_true, false_and, and_false, mrg, renc, tra, trv, sg, List.map_cons, List.map_nil, Option.map_some, Option.map_none, Option.toList_some, Option.toList_none, List.cons_append, List.nil_append, List.length_cons, List.length_nil, pH, pO, hki, b1, b2]
    refine CAL.dir (c_allows K lf n hw _ _ _ _ _ _ _ _ _ _ _ _ _ _ _ _ _ _ hk hg (i - 1) (by omega) 0 p (by omega)) (by rw [ggd]; omega) (by rw [ggc]; omega) (by rw [ggs]; omega) (Nat.le_of_ble_eq_true rfl) (by rw [ggn]; exact Nat.le_refl _) rfl rfl ?_
    rintro _ _ ⟨rfl, rfl⟩
    simp (disch := first | exact rfl | decide | omega) only [u_19_0, u_19_1, u_19_2, u_19_3, u_19_5, u_19_6, u_19_8, u_19_9, u_19_10, u_19_12, u_19_15, u_19_16, u_19_19, u_19_20, u_19_21, u_19_23, u_19_26, u_19_27, u_19_30, u_19_31, u_19_33, u_19_34, u_19_37, u_19_40, u_19_41, u_19_43, u_19_44, u_19_45, u_19_47, u_19_50, wp_stop, lget, lput1, lput2, kil, hget, hset, vget, vset, fget, fgetC, fput, fputC, iget, igetC, jget, jgetC, qget, qgetC, alen, lenC, oI, oJ, oF, oA, oV, oH, oInc, oIld, oJld, oQld, oR, oLen, oIst, oBst, oJst, oQst, ciOf, rcv, oCp, cat1, cond_true, cond_false, Bool.and_self, Bool.and_true, Bool.true_and, Bool.or_true, Bool.true_or, Bool.or_false, Bool.false_or, Bool.not_false, Bool.not_true, ↓reduceIte, Nat.reduceBEq, Nat.reduceEqDiff, beq_self_eq_true, true_and, and_true, eq_self_iff_true, Nat.reduceAdd, Nat.blt, Nat.ble, z_le, z_lt, z_eq, z_cl, z_add, z_sub, z_mul, z_in, z_lt0, z_ofN, z_m1, z_ltm1, z_m1lt, z_eqm1, z_m1eq, z_m1le, z_lem1, z_beq, nI_0_1, nI_m1lt0, nI_0lem1, not_false_eq_true, not_true_eq_false, forall_const, false_implies, true_implies, implies_true, false_and, and_false, mrg, renc, tra, trv, sg, List.map_cons, List.map_nil, Option.map_some, Option.map_none, Option.toList_some, Option.toList_none, List.cons_append, List.nil_append, List.length_cons, List.length_nil, pH, pO, b3, bN, show ¬ (1 : Nat) = 0 by decide]
    refine cal_leave ih hp1 hsc hs1 hsf g1 (by omega) (by rw [ggd]; omega) (by rw [ggc, hM]; omega) (by rw [ggs, hM]; omega) ggn ggm rfl (fun mo2 g2 f2 => ?_)
    rw [hM] at g2 ⊢
    simp (disch := first | exact rfl | decide | omega) only [u_19_0, u_19_1, u_19_2, u_19_3, u_19_5, u_19_6, u_19_8, u_19_9, u_19_10, u_19_12, u_19_15, u_19_16, u_19_19, u_19_20, u_19_21, u_19_23, u_19_26, u_19_27, u_19_30, u_19_31, u_19_33, u_19_34, u_19_37, u_19_40, u_19_41, u_19_43, u_19_44, u_19_45, u_19_47, u_19_50, wp_stop, lget, lput1, lput2, kil, hget, hset, vget, vset, fget, fgetC, fput, fputC, iget, igetC, jget, jgetC, qget, qgetC, alen, lenC, oI, oJ, oF, oA, oV, oH, oInc, oIld, oJld, oQld, oR, oLen, oIst, oBst, oJst, oQst, ciOf, rcv, oCp, cat1, cond_true, cond_false, Bool.and_self, Bool.and_true, Bool.true_and, Bool.or_true, Bool.true_or, Bool.or_false, Bool.false_or, Bool.not_false, Bool.not_true, ↓reduceIte, Nat.reduceBEq, Nat.reduceEqDiff, beq_self_eq_true, true_and, and_true, eq_self_iff_true, Nat.reduceAdd, Nat.blt, Nat.ble, z_le, z_lt, z_eq, z_cl, z_add, z_sub, z_mul, z_in, z_lt0, z_ofN, z_m1, z_ltm1, z_m1lt, z_eqm1, z_m1eq, z_m1le, z_lem1, z_beq, nI_0_1, nI_m1lt0, nI_0lem1, not_false_eq_true, not_true_eq_false, forall_const, false_implies, true_implies, implies_true, false_and, and_false, mrg, renc, tra, trv, sg, List.map_cons, List.map_nil, Option.map_some, Option.map_none, Option.toList_some, Option.toList_none, List.cons_append, List.nil_append, List.length_cons, List.length_nil, pH, pO]
    exact hret mo2 g2 (fun j hj => (f2 j hj).trans (f1 j hj)) _ _ (by omega) (by omega)
  · rw [if_neg hb] at hc ⊢
    generalize hM : kfo a l σ (scl sc sf (pmv K lf (i - 1) p)) = M at m1 ⊢
    rw [show kfo a l M (scl sc sf []) = M from rfl]
    refine sp_of (by decide) (Nat.le_of_ble_eq_true rfl) ?_
    generalize hG : ((D + 1, _, mvP, _, _, _) : aG) = G
    have ggd : gD G = D + 1 := by subst hG; rfl
    have ggn : gN G = 10 := by subst hG; rfl
    have ggm : gM G = mvP := by subst hG; rfl
    have ggc : gC G = M.2.1 - σ.2.1 := by subst hG; rfl
    have ggs : gS G = 2 * (M.2.1 - σ.2.1) := by subst hG; rfl
    have hret : ∀ mo', kGd a M mo' → (∀ j, j < a → mo' j = mo j) → ∀ k0 n0, k0 ≤ M.2.1 - σ.2.1 → n0 ≤ 2 * (M.2.1 - σ.2.1) → RET G none (kH S l a N root sorts kd sa la sp sh ms me M mo') k0 n0 := by
      intro mo' h1 h2 k0 n0 h3 h4
      subst hG
      exact RET.id ⟨rfl, mo', rfl, h1, h2⟩ h3 h4
    clear hG
    by_cases b1 : K i = 13
    · rw [b1] at hki
      refine wp_aw (S := fun _ => false) (by decide) 200 _ _ _ _ _ _ ?_
      simp (disch := first | exact rfl | decide | omega) only [u_19_0, u_19_1, u_19_2, u_19_3, u_19_5, u_19_6, u_19_8, u_19_9, u_19_10, u_19_12, u_19_15, u_19_16, u_19_19, u_19_20, u_19_21, u_19_23, u_19_26, u_19_27, u_19_30, u_19_31, u_19_33, u_19_34, u_19_37, u_19_40, u_19_41, u_19_43, u_19_44, u_19_45, u_19_47, u_19_50, wp_stop, lget, lput1, lput2, kil, hget, hset, vget, vset, fget, fgetC, fput, fputC, iget, igetC, jget, jgetC, qget, qgetC, alen, lenC, oI, oJ, oF, oA, oV, oH, oInc, oIld, oJld, oQld, oR, oLen, oIst, oBst, oJst, oQst, ciOf, rcv, oCp, cat1, cond_true, cond_false, Bool.and_self, Bool.and_true, Bool.true_and, Bool.or_true, Bool.true_or, Bool.or_false, Bool.false_or, Bool.not_false, Bool.not_true, ↓reduceIte, Nat.reduceBEq, Nat.reduceEqDiff, beq_self_eq_true, true_and, and_true, eq_self_iff_true, Nat.reduceAdd, Nat.blt, Nat.ble, z_le, z_lt, z_eq, z_cl, z_add, z_sub, z_mul, z_in, z_lt0, z_ofN, z_m1, z_ltm1, z_m1lt, z_eqm1, z_m1eq, z_m1le, z_lem1, z_beq, nI_0_1, nI_m1lt0, nI_0lem1, not_false_eq_true, not_true_eq_false, forall_const, false_implies, true_implies, implies_true, false_and, and_false, mrg, renc, tra, trv, sg, List.map_cons, List.map_nil, Option.map_some, Option.map_none, Option.toList_some, Option.toList_none, List.cons_append, List.nil_append, List.length_cons, List.length_nil, eL, mL_19, pH, pO]
      refine cal_leave ih hp hsc hs1 hsf hgd (by omega) (by rw [ggd]; omega) (by rw [ggc, hM]; omega) (by rw [ggs, hM]; omega) ggn ggm rfl (fun mo1 g1 f1 => ?_)
      rw [hM] at g1 ⊢
      simp (disch := first | exact rfl | decide | omega) only [u_19_0, u_19_1, u_19_2, u_19_3, u_19_5, u_19_6, u_19_8, u_19_9, u_19_10, u_19_12, u_19_15, u_19_16, u_19_19, u_19_20, u_19_21, u_19_23, u_19_26, u_19_27, u_19_30, u_19_31, u_19_33, u_19_34, u_19_37, u_19_40, u_19_41, u_19_43, u_19_44, u_19_45, u_19_47, u_19_50, wp_stop, lget, lput1, lput2, kil, hget, hset, vget, vset, fget, fgetC, fput, fputC, iget, igetC, jget, jgetC, qget, qgetC, alen, lenC, oI, oJ, oF, oA, oV, oH, oInc, oIld, oJld, oQld, oR, oLen, oIst, oBst, oJst, oQst, ciOf, rcv, oCp, cat1, cond_true, cond_false, Bool.and_self, Bool.and_true, Bool.true_and, Bool.or_true, Bool.true_or, Bool.or_false, Bool.false_or, Bool.not_false, Bool.not_true, ↓reduceIte, Nat.reduceBEq, Nat.reduceEqDiff, beq_self_eq_true, true_and, and_true, eq_self_iff_true, Nat.reduceAdd, Nat.blt, Nat.ble, z_le, z_lt, z_eq, z_cl, z_add, z_sub, z_mul, z_in, z_lt0, z_ofN, z_m1, z_ltm1, z_m1lt, z_eqm1, z_m1eq, z_m1le, z_lem1, z_beq, nI_0_1, nI_m1lt0, nI_0lem1, not_false_eq_true, not_true_eq_false, forall_const, false_implies, true_implies, implies_true, false_and, and_false, mrg, renc, tra, trv, sg, List.map_cons, List.map_nil, Option.map_some, Option.map_none, Option.toList_some, Option.toList_none, List.cons_append, List.nil_append, List.length_cons, List.length_nil, pH, pO, hki]
      exact hret mo1 g1 f1 _ _ (by omega) (by omega)
    · by_cases b2 : p = 0
      · rw [b2] at hM hp hc ⊢
        refine wp_aw (S := fun _ => false) (by decide) 200 _ _ _ _ _ _ ?_
        simp (disch := first | exact rfl | decide | omega) only [u_19_0, u_19_1, u_19_2, u_19_3, u_19_5, u_19_6, u_19_8, u_19_9, u_19_10, u_19_12, u_19_15, u_19_16, u_19_19, u_19_20, u_19_21, u_19_23, u_19_26, u_19_27, u_19_30, u_19_31, u_19_33, u_19_34, u_19_37, u_19_40, u_19_41, u_19_43, u_19_44, u_19_45, u_19_47, u_19_50, wp_stop, lget, lput1, lput2, kil, hget, hset, vget, vset, fget, fgetC, fput, fputC, iget, igetC, jget, jgetC, qget, qgetC, alen, lenC, oI, oJ, oF, oA, oV, oH, oInc, oIld, oJld, oQld, oR, oLen, oIst, oBst, oJst, oQst, ciOf, rcv, oCp, cat1, cond_true, cond_false, Bool.and_self, Bool.and_true, Bool.true_and, Bool.or_true, Bool.true_or, Bool.or_false, Bool.false_or, Bool.not_false, Bool.not_true, ↓reduceIte, Nat.reduceBEq, Nat.reduceEqDiff, beq_self_eq_true, true_and, and_true, eq_self_iff_true, Nat.reduceAdd, Nat.blt, Nat.ble, z_le, z_lt, z_eq, z_cl, z_add, z_sub, z_mul, z_in, z_lt0, z_ofN, z_m1, z_ltm1, z_m1lt, z_eqm1, z_m1eq, z_m1le, z_lem1, z_beq, nI_0_1, nI_m1lt0, nI_0lem1, not_false_eq_true, not_true_eq_false, forall_const, false_implies, true_implies, implies_true, false_and, and_false, mrg, renc, tra, trv, sg, List.map_cons, List.map_nil, Option.map_some, Option.map_none, Option.toList_some, Option.toList_none, List.cons_append, List.nil_append, List.length_cons, List.length_nil, eL, mL_19, pH, pO]
        refine cal_leave ih hp hsc hs1 hsf hgd (by omega) (by rw [ggd]; omega) (by rw [ggc, hM]; omega) (by rw [ggs, hM]; omega) ggn ggm rfl (fun mo1 g1 f1 => ?_)
        rw [hM] at g1 ⊢
        simp (disch := first | exact rfl | decide | omega) only [u_19_0, u_19_1, u_19_2, u_19_3, u_19_5, u_19_6, u_19_8, u_19_9, u_19_10, u_19_12, u_19_15, u_19_16, u_19_19, u_19_20, u_19_21, u_19_23, u_19_26, u_19_27, u_19_30, u_19_31, u_19_33, u_19_34, u_19_37, u_19_40, u_19_41, u_19_43, u_19_44, u_19_45, u_19_47, u_19_50, wp_stop, lget, lput1, lput2, kil, hget, hset, vget, vset, fget, fgetC, fput, fputC, iget, igetC, jget, jgetC, qget, qgetC, alen, lenC, oI, oJ, oF, oA, oV, oH, oInc, oIld, oJld, oQld, oR, oLen, oIst, oBst, oJst, oQst, ciOf, rcv, oCp, cat1, cond_true, cond_false, Bool.and_self, Bool.and_true, Bool.true_and, Bool.or_true, Bool.true_or, Bool.or_false, Bool.false_or, Bool.not_false, Bool.not_true, ↓reduceIte, Nat.reduceBEq, Nat.reduceEqDiff, beq_self_eq_true, true_and, and_true, eq_self_iff_true, Nat.reduceAdd, Nat.blt, Nat.ble, z_le, z_lt, z_eq, z_cl, z_add, z_sub, z_mul, z_in, z_lt0, z_ofN, z_m1, z_ltm1, z_m1lt, z_eqm1, z_m1eq, z_m1le, z_lem1, z_beq, nI_0_1, nI_m1lt0, nI_0lem1, not_false_eq_true, not_true_eq_false, forall_const, false_implies, true_implies, implies_true, false_and, and_false, mrg, renc, tra, trv, sg, List.map_cons, List.map_nil, Option.map_some, Option.map_none, Option.toList_some, Option.toList_none, List.cons_append, List.nil_append, List.length_cons, List.length_nil, pH, pO, hki, b1]
        exact hret mo1 g1 f1 _ _ (by omega) (by omega)
      · have b3 : pal K lf (i - 1) p = false := by
          cases hx : pal K lf (i - 1) p with
          | false => rfl
          | true => exact absurd ⟨b1, b2, hx⟩ hb
        refine wp_aw (S := fun _ => false) (by decide) 200 _ _ _ _ _ _ ?_
        simp (disch := first | exact rfl | decide | omega) only [u_19_0, u_19_1, u_19_2, u_19_3, u_19_5, u_19_6, u_19_8, u_19_9, u_19_10, u_19_12, u_19_15, u_19_16, u_19_19, u_19_20, u_19_21, u_19_23, u_19_26, u_19_27, u_19_30, u_19_31, u_19_33, u_19_34, u_19_37, u_19_40, u_19_41, u_19_43, u_19_44, u_19_45, u_19_47, u_19_50, wp_stop, lget, lput1, lput2, kil, hget, hset, vget, vset, fget, fgetC, fput, fputC, iget, igetC, jget, jgetC, qget, qgetC, alen, lenC, oI, oJ, oF, oA, oV, oH, oInc, oIld, oJld, oQld, oR, oLen, oIst, oBst, oJst, oQst, ciOf, rcv, oCp, cat1, cond_true, cond_false, Bool.and_self, Bool.and_true, Bool.true_and, Bool.or_true, Bool.true_or, Bool.or_false, Bool.false_or, Bool.not_false, Bool.not_true, ↓reduceIte, Nat.reduceBEq, Nat.reduceEqDiff, beq_self_eq_true, true_and, and_true, eq_self_iff_true, Nat.reduceAdd, Nat.blt, Nat.ble, z_le, z_lt, z_eq, z_cl, z_add, z_sub, z_mul, z_in, z_lt0, z_ofN, z_m1, z_ltm1, z_m1lt, z_eqm1, z_m1eq, z_m1le, z_lem1, z_beq, nI_0_1, nI_m1lt0, nI_0lem1, not_false_eq_true, not_true_eq_false, forall_const, false_implies, true_implies, implies_true, false_and, and_false, mrg, renc, tra, trv, sg, List.map_cons, List.map_nil, Option.map_some, Option.map_none, Option.toList_some, Option.toList_none, List.cons_append, List.nil_append, List.length_cons, List.length_nil, eL, mL_19, pH, pO]
        refine cal_leave ih hp hsc hs1 hsf hgd (by omega) (by rw [ggd]; omega) (by rw [ggc, hM]; omega) (by rw [ggs, hM]; omega) ggn ggm rfl (fun mo1 g1 f1 => ?_)
        rw [hM] at g1 ⊢
        simp (disch := first | exact rfl | decide | omega) only [u_19_0, u_19_1, u_19_2, u_19_3, u_19_5, u_19_6, u_19_8, u_19_9, u_19_10, u_19_12, u_19_15, u_19_16, u_19_19, u_19_20, u_19_21, u_19_23, u_19_26, u_19_27, u_19_30, u_19_31, u_19_33, u_19_34, u_19_37, u_19_40, u_19_41, u_19_43, u_19_44, u_19_45, u_19_47, u_19_50, wp_stop, lget, lput1, lput2, kil, hget, hset, vget, vset, fget, fgetC, fput, fputC, iget, igetC, jget, jgetC, qget, qgetC, alen, lenC, oI, oJ, oF, oA, oV, oH, oInc, oIld, oJld, oQld, oR, oLen, oIst, oBst, oJst, oQst, ciOf, rcv, oCp, cat1, cond_true, cond_false, Bool.and_self, Bool.and_true, Bool.true_and, Bool.or_true, Bool.true_or, Bool.or_false, Bool.false_or, Bool.not_false, Bool.not_true, ↓reduceIte, Nat.reduceBEq, Nat.reduceEqDiff, beq_self_eq_true, true_and, and_true, eq_self_iff_true, Nat.reduceAdd, Nat.blt, Nat.ble, z_le, z_lt, z_eq, z_cl, z_add, z_sub, z_mul, z_in, z_lt0, z_ofN, z_m1, z_ltm1, z_m1lt, z_eqm1, z_m1eq, z_m1le, z_lem1, z_beq, nI_0_1, nI_m1lt0, nI_0lem1, not_false_eq_true, not_true_eq_false, forall_const, false_implies, true_implies, implies_true, false_and, and_false, mrg, renc, tra, trv, sg, List.map_cons, List.map_nil, Option.map_some, Option.map_none, Option.toList_some, Option.toList_none, List.cons_append, List.nil_append, List.length_cons, List.length_nil, pH, pO, hki, b1, b2]
        refine CAL.dir (c_allows K lf n hw _ _ _ _ _ _ _ _ _ _ _ _ _ _ _ _ _ _ hk hg (i - 1) (by omega) 0 p (by omega)) (by rw [ggd]; omega) (by rw [ggc]; omega) (by rw [ggs]; omega) (Nat.le_of_ble_eq_true rfl) (by rw [ggn]; exact Nat.le_refl _) rfl rfl ?_
        rintro _ _ ⟨rfl, rfl⟩
        simp (disch := first | exact rfl | decide | omega) only [u_19_0, u_19_1, u_19_2, u_19_3, u_19_5, u_19_6, u_19_8, u_19_9, u_19_10, u_19_12, u_19_15, u_19_16, u_19_19, u_19_20, u_19_21, u_19_23, u_19_26, u_19_27, u_19_30, u_19_31, u_19_33, u_19_34, u_19_37, u_19_40, u_19_41, u_19_43, u_19_44, u_19_45, u_19_47, u_19_50, wp_stop, lget, lput1, lput2, kil, hget, hset, vget, vset, fget, fgetC, fput, fputC, iget, igetC, jget, jgetC, qget, qgetC, alen, lenC, oI, oJ, oF, oA, oV, oH, oInc, oIld, oJld, oQld, oR, oLen, oIst, oBst, oJst, oQst, ciOf, rcv, oCp, cat1, cond_true, cond_false, Bool.and_self, Bool.and_true, Bool.true_and, Bool.or_true, Bool.true_or, Bool.or_false, Bool.false_or, Bool.not_false, Bool.not_true, ↓reduceIte, Nat.reduceBEq, Nat.reduceEqDiff, beq_self_eq_true, true_and, and_true, eq_self_iff_true, Nat.reduceAdd, Nat.blt, Nat.ble, z_le, z_lt, z_eq, z_cl, z_add, z_sub, z_mul, z_in, z_lt0, z_ofN, z_m1, z_ltm1, z_m1lt, z_eqm1, z_m1eq, z_m1le, z_lem1, z_beq, nI_0_1, nI_m1lt0, nI_0lem1, not_false_eq_true, not_true_eq_false, forall_const, false_implies, true_implies, implies_true, false_and, and_false, mrg, renc, tra, trv, sg, List.map_cons, List.map_nil, Option.map_some, Option.map_none, Option.toList_some, Option.toList_none, List.cons_append, List.nil_append, List.length_cons, List.length_nil, pH, pO, b3, bN]
        exact hret mo1 g1 f1 _ _ (by omega) (by omega)
end LV2
