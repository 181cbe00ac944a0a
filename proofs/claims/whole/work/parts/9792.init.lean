/-! ResidualJudge's constructor -/
def tauJ : Nat → Nat := fun i => if i < 25 then i else if i < 31 then i + 162 else i - 6
theorem tauJ_inj {i j : Nat} (hi : i < 193) (hj : j < 193) (h : tauJ i = tauJ j) : i = j := by
  unfold tauJ at h
  split at h <;> split at h <;> (try split at h) <;> (try split at h) <;> omega
theorem aF_renJ : (fun i => (aF 31 i).map tauJ) = aF 25 := by
  funext i
  unfold aF
  by_cases q : i < 9
  · rw [if_pos q, if_pos q]
    show some (tauJ (31 + 18 * i)) = _
    unfold tauJ
    rw [if_neg (by omega), if_neg (by omega)]
    congr 1
    omega
  · rw [if_neg q, if_neg q]
    rfl
theorem pF_renJ : (fun i => (pF 8 i).map tauJ) = pF 8 := by
  funext i
  unfold pF
  by_cases q : i < 4
  · rw [if_pos q]
    show some (tauJ (8 + 3 * i)) = _
    unfold tauJ
    rw [if_pos (by omega)]
  · rw [if_neg q]
    rfl
/-- a new judge -/
abbrev jNew (pt : Nat → Int64) (s : Nat → aS) : jS := ((0, 0, 0), (0, fun _ => 0), (pt, fun _ => 0, 0, nI 8), (0, 0, s), (fun _ => 0, fun _ => 0, 0, 0, 0, 0, 0, 0, 0, 0), (16, fun _ => 0, 16, fun _ => 0), (0, 0, 0, 0, 0, 0, 0, 0, fun _ => 0, fun _ => 0))
abbrev jOld (pt : Nat → Int64) (s : Nat → aS) (PM : Nat → PS × MS) : aH := jO (.ref 187) (.ref 190) :: ((jA (.inr (0, [])) pt s).tail ++ (jRd ++ (jMc ++ blks 25 PM 9)) ++ (cnR ++ bkR))
theorem jN_cells (pt : Nat → Int64) (s : Nat → aS) : (jF (jNew pt s)).map (renc tauJ) = jO (.ref 187) (.ref 190) :: ((jA (.inr (0, [])) pt s).tail ++ (jRd ++ (jMc ++ (cnR ++ bkR)))) := by
  have h7 : renc tauJ (.inl (4, 4, .inr (.inr (.inr (.inr (pF 8)))))) = .inl (4, 4, .inr (.inr (.inr (.inr (pF 8))))) := by
    show Sum.inl (4, 4, Sum.inr (Sum.inr (Sum.inr (Sum.inr (fun i => (pF 8 i).map tauJ))))) = _
    rw [pF_renJ]
  have h24 : renc tauJ (.inl (3, 9, .inr (.inr (.inr (.inr (aF 31)))))) = .inl (3, 9, .inr (.inr (.inr (.inr (aF 25))))) := by
    show Sum.inl (3, 9, Sum.inr (Sum.inr (Sum.inr (Sum.inr (fun i => (aF 31 i).map tauJ))))) = _
    rw [aF_renJ]
  simp only [jF, List.map_cons, List.map_nil, h7, h24]
  rfl
theorem jN_view (pt : Nat → Int64) (s : Nat → aS) (PM : Nat → PS × MS) : ∀ i c, hget (jH (jNew pt s) PM) i = some c → hget (jOld pt s PM) (tauJ i) = some (renc tauJ c) := by
  intro i c hc
  have hl := hget_lt hc
  rw [jH_len] at hl
  rcases Nat.lt_or_ge i 31 with z | z
  · have h1 : hget (jF (jNew pt s)) i = some c := by
      rw [← fb_getF (jF (jNew pt s)) PM (nb := 9) i z]
      exact hc
    have h2 : ((jF (jNew pt s)).map (renc tauJ))[i]? = some (renc tauJ c) := by
      rw [List.getElem?_map, ← hget_eq, h1]
      rfl
    rw [jN_cells] at h2
    rw [hget_eq]
    rcases Nat.lt_or_ge i 25 with w | w
    · have e : tauJ i = i := if_pos w
      rw [e]
      have l1 : (jO (.ref 187) (.ref 190) :: ((jA (.inr (0, [])) pt s).tail ++ (jRd ++ jMc))).length = 25 := rfl
      have e1 : jOld pt s PM = (jO (.ref 187) (.ref 190) :: ((jA (.inr (0, [])) pt s).tail ++ (jRd ++ jMc))) ++ (blks 25 PM 9 ++ (cnR ++ bkR)) := rfl
      have e2 : jO (.ref 187) (.ref 190) :: ((jA (.inr (0, [])) pt s).tail ++ (jRd ++ (jMc ++ (cnR ++ bkR)))) = (jO (.ref 187) (.ref 190) :: ((jA (.inr (0, [])) pt s).tail ++ (jRd ++ jMc))) ++ (cnR ++ bkR) := rfl
      rw [e1, List.getElem?_append_left (by rw [l1]; exact w)]
      rw [e2, List.getElem?_append_left (by rw [l1]; exact w)] at h2
      exact h2
    · have e : tauJ i = i + 162 := by
        unfold tauJ
        rw [if_neg (by omega), if_pos z]
      rw [e]
      have l1 : (jO (.ref 187) (.ref 190) :: ((jA (.inr (0, [])) pt s).tail ++ (jRd ++ jMc))).length = 25 := rfl
      have l2 : ((jO (.ref 187) (.ref 190) :: ((jA (.inr (0, [])) pt s).tail ++ (jRd ++ jMc))) ++ blks 25 PM 9).length = 187 := by
        rw [List.length_append, l1, blks_len]
      have e1 : jOld pt s PM = ((jO (.ref 187) (.ref 190) :: ((jA (.inr (0, [])) pt s).tail ++ (jRd ++ jMc))) ++ blks 25 PM 9) ++ (cnR ++ bkR) := by
        rw [List.append_assoc]
        rfl
      have e2 : jO (.ref 187) (.ref 190) :: ((jA (.inr (0, [])) pt s).tail ++ (jRd ++ (jMc ++ (cnR ++ bkR)))) = (jO (.ref 187) (.ref 190) :: ((jA (.inr (0, [])) pt s).tail ++ (jRd ++ jMc))) ++ (cnR ++ bkR) := rfl
      rw [e1, List.getElem?_append_right (by rw [l2]; omega), l2]
      rw [e2, List.getElem?_append_right (by rw [l1]; exact w), l1] at h2
      rw [show i + 162 - 187 = i - 25 by omega]
      exact h2
  · obtain ⟨y, k, hy, hk, rfl⟩ := fb_split (nb := 9) (b := 31) z (by omega)
    have h1 : hget (mHB (31 + 18 * y) (PM y)) k = some c := (fb_get (jF (jNew pt s)) PM (nb := 9) y k hy hk).symm.trans hc
    have e : tauJ (31 + 18 * y + k) = 25 + (18 * y + k) := by
      unfold tauJ
      rw [if_neg (by omega), if_neg (by omega)]
      omega
    have l1 : (jO (.ref 187) (.ref 190) :: ((jA (.inr (0, [])) pt s).tail ++ (jRd ++ jMc))).length = 25 := rfl
    have e1 : jOld pt s PM = (jO (.ref 187) (.ref 190) :: ((jA (.inr (0, [])) pt s).tail ++ (jRd ++ jMc))) ++ (blks 25 PM 9 ++ (cnR ++ bkR)) := rfl
    rw [e, e1, hget_eq, List.getElem?_append_right (by rw [l1]; omega), l1, show 25 + (18 * y + k) - 25 = 18 * y + k by omega, List.getElem?_append_left (by rw [blks_len]; omega), ← hget_eq, blks_get 25 PM 9 y k hy hk, ← mHB_ren (σ := tauJ) (b := 31 + 18 * y) (b2 := 25 + 18 * y) (fun i hi => by
      unfold tauJ
      rw [if_neg (by omega), if_neg (by omega)]
      omega), hget_eq, List.getElem?_map, ← hget_eq, h1]
    rfl
set_option maxRecDepth 100000 in
theorem c_judgeInit (d : Nat) : aSp (d + 51) 0 [.ref 0] [jOx .null .null .null .null .null] nomv (192 + flS zC al0 (fwA al0 (fun _ => lN 9)) 9) (3014 + flS zS al0 (fwA al0 (fun _ => lN 9)) 9)
    (fun r h' => r = none ∧ ∃ pt s PM', h' = jH (jNew pt s) PM' ∧ (∀ j, j < 9 → pt j = lN 9) ∧ fwR PM0 PM' al0 pt 9) := by
  refine sp_of (by decide) (Nat.le_of_ble_eq_true rfl) ?_
  generalize hG : ((d + 51, _, nomv, _, _, _) : aG) = G
  have ggd : gD G = d + 51 := by subst hG; rfl
  have ggn : gN G = 1 := by subst hG; rfl
  have ggm : gM G = nomv := by subst hG; rfl
  have ggc : gC G = 192 + flS zC al0 (fwA al0 (fun _ => lN 9)) 9 := by subst hG; rfl
  have ggs : gS G = 3014 + flS zS al0 (fwA al0 (fun _ => lN 9)) 9 := by subst hG; rfl
  have hret : ∀ pt s PM' k' n', (∀ j, j < 9 → pt j = lN 9) → fwR PM0 PM' al0 pt 9 → k' ≤ gC G → n' ≤ gS G → RET G none (jH (jNew pt s) PM') k' n' := by
    subst hG
    exact fun pt s PM' k' n' q1 q2 q3 q4 => RET.id ⟨rfl, pt, s, PM', rfl, q1, q2⟩ q3 q4
  clear hG
  refine l_init1 (by omega) ggn (by omega) (by omega) (fun pt s PM' k' n' hpt hs hfw hk' hn' => ?_)
  refine l_init2 _ (by rw [List.length_append, List.length_append, List.length_append, blks_len]; rfl) (fun n hn => ?_) (by omega) ggn k' n' (by omega) (by omega) ?_
  · have hb : ∀ j, j < 187 → Nat.blt j n = true := fun j hj => blt_1 (by omega)
    have hr : ∀ a b c e : Value, okV n nomv a = true → okV n nomv b = true → okV n nomv c = true → okV n nomv e = true → okS n nomv [a, b, c, e] = true := fun a b c e h1 h2 h3 h4 => by simp only [okS, h1, h2, h3, h4]; rfl
    have hv : ∀ j, j < 187 → okV n nomv (.ref j) = true := fun j hj => by simp only [okV, hb j hj, nomv]; rfl
    refine okH_app ⟨?_, trivial, hr _ _ _ _ (hv 4 (by decide)) (hv 5 (by decide)) rfl rfl, trivial, trivial, ?_, pF_okN (by omega), hr _ _ _ _ (hv 9 (by decide)) (hv 10 (by decide)) rfl rfl, trivial, trivial, hr _ _ _ _ (hv 12 (by decide)) (hv 13 (by decide)) rfl rfl, trivial, trivial, hr _ _ _ _ (hv 15 (by decide)) (hv 16 (by decide)) rfl rfl, trivial, trivial, hr _ _ _ _ (hv 18 (by decide)) (hv 19 (by decide)) rfl rfl, trivial, trivial, trivial⟩ (okH_app ⟨?_, trivial, trivial, trivial⟩ (okH_app ⟨?_, aF_okN hn, trivial⟩ (okH_blks 9 (by omega))))
    · show okS n nomv _ = true
      simp only [okS, hv 2 (by decide)]
      rfl
    · show okS n nomv _ = true
      simp only [okS, hv 7 (by decide)]
      rfl
    · show okS n nomv _ = true
      simp only [okS, hv 21 (by decide), hv 22 (by decide)]
      rfl
    · show okS n nomv _ = true
      simp only [okS, hv 24 (by decide)]
      rfl
  refine aw_ren (τ := tauJ) (h' := jH (jNew pt s) PM') (ls' := [some (.ref 0)]) (st' := []) (jN_view pt s PM') (fun i j hi hj h => tauJ_inj (by rw [jH_len] at hi; exact hi) (by rw [jH_len] at hj; exact hj) h) (fun j hj _ => by rw [ggn] at hj; unfold tauJ; rw [if_pos (by omega)]) (fun i v q => ?_) rfl ?_
  · cases i with
    | zero =>
      have : v = .ref 0 := (Option.some.inj q).symm
      subst this
      rfl
    | succ i =>
      cases i <;> exact absurd q (by simp [lget])
  have hf := hret pt s PM' (k' + 6) (n' + 62) hpt ⟨fun y hy => by rw [hpt y hy]; exact hfw.1 y hy, hfw.2⟩ (by omega) (by omega)
  clear hret
  refine wp_aw (S := fun _ => false) (by decide) 200 _ _ _ _ _ _ ?_
  simp (disch := first | exact rfl | decide | omega) only [u_0_0, u_0_1, u_0_4, u_0_5, u_0_8, u_0_9, u_0_12, u_0_15, u_0_16, u_0_19, u_0_20, u_0_23, u_0_26, u_0_27, u_0_30, u_0_31, u_0_34, u_0_37, u_0_38, u_0_41, u_0_42, u_0_45, u_0_48, u_0_49, u_0_52, u_0_53, u_0_56, u_0_59, u_0_60, u_0_63, u_0_64, u_0_67, u_0_70, u_0_71, u_0_74, u_0_75, u_0_78, u_0_81, wp_stop, lget, lput1, lput2, kil, hget, hset, vget, vset, fget, fgetC, fput, fputC, iget, igetC, jget, jgetC, qget, qgetC, alen, lenC, oI, oJ, oF, oA, oV, oH, oInc, oIld, oJld, oQld, oR, oLen, oIst, oBst, oJst, oQst, ciOf, rcv, oCp, cat1, cond_true, cond_false, Bool.and_self, Bool.and_true, Bool.true_and, Bool.or_true, Bool.true_or, Bool.or_false, Bool.false_or, Bool.not_false, Bool.not_true, ↓reduceIte, Nat.reduceBEq, Nat.reduceEqDiff, beq_self_eq_true, true_and, and_true, eq_self_iff_true, Nat.reduceAdd, Nat.blt, Nat.ble, z_le, z_lt, z_eq, z_cl, z_add, z_sub, z_mul, z_in, z_lt0, z_ofN, z_m1, z_ltm1, z_m1lt, z_eqm1, z_m1eq, z_m1le, z_lem1, z_beq, nI_0_1, nI_m1lt0, nI_0lem1, not_false_eq_true, not_true_eq_false, forall_const, false_implies, true_implies, implies_true, false_and, and_false, mrg, renc, tra, trv, sg, List.map_cons, List.map_nil, Option.map_some, Option.map_none, Option.toList_some, Option.toList_none, List.cons_append, List.nil_append, List.length_cons, List.length_nil, jH, jF]
  exact hf
