/-! Machines' constructor -/
theorem hset_app {h r : aH} {c c' : aC} : hset (h ++ c :: r) h.length c' = h ++ c' :: r := by
  rw [hset_eq]
  induction h with
  | nil => rfl
  | cons a h ih =>
    show a :: (h ++ c :: r).set h.length c' = _
    rw [ih]
    rfl
theorem hget_app {h r : aH} {c : aC} : hget (h ++ c :: r) h.length = some c := by
  rw [hget_eq, List.getElem?_append_right (Nat.le_refl _), Nat.sub_self]
  rfl
/-- what a constructor makes of the newest cell -/
theorem mrg_last {h : aH} {c : aC} (c0 : aC) (cs : aH) : mrg (sg [h.length] (h ++ [c]).length) (h ++ [c]) [h.length] (c0 :: cs) = h ++ (c0 :: cs).map (renc (h.length + ·)) := by
  have e : sg [h.length] (h ++ [c]).length = (h.length + ·) := by
    funext i
    cases i with
    | zero => rfl
    | succ i =>
      show (h ++ [c]).length + i = h.length + (i + 1)
      rw [List.length_append, List.length_singleton]
      omega
  rw [e]
  show mrg _ (hset (h ++ [c]) h.length (renc _ c0)) [] cs = _
  rw [hset_app]
  simp only [mrg]
  rw [List.map_cons, List.append_assoc]
  rfl
/-- all machines made so far -/
def aU (b k : Nat) : Nat → Option Nat := fun i => if i < k then some (b + 18 * i) else none
theorem aU_up (b k : Nat) : va_up (aU b k) k (some (b + 18 * k)) = aU b (k + 1) := by
  funext i
  unfold va_up aU
  by_cases q : i = k
  · subst q
    rw [if_pos rfl, if_pos (by omega)]
  · rw [if_neg q]
    by_cases q2 : i < k
    · rw [if_pos q2, if_pos (by omega)]
    · rw [if_neg q2, if_neg (by omega)]
theorem aU_ok {b k n : Nat} (h : b + 18 * k ≤ n) : ∀ i j, aU b k i = some j → j < n ∧ nomv j = false := by
  intro i j hj
  unfold aU at hj
  split at hj
  · rw [← Option.some.inj hj]
    exact ⟨by omega, rfl⟩
  · exact absurd hj (by simp)
abbrev mF (k : Nat) : aH := [.inr (3, [.ref 1]), .inl (3, 9, .inr (.inr (.inr (.inr (aU 2 k)))))]
abbrev PM0 : Nat → PS × MS := fun _ => (P0, M0)
noncomputable def al0 : Nat → aZ := fun _ => (0, ([], 8, 8), 4, 4, 0, fun _ => 0)
theorem al0_ok (x : Nat) : zR0 (PM0 x) (al0 x) := ⟨_, _, _, _, _, _, _, _, _, _, _, _, _, _, _, _, _, _, _, _, _, _, _, rfl, Nat.le_of_ble_eq_true rfl, Nat.le_of_ble_eq_true rfl, Nat.le_of_ble_eq_true rfl, ⟨0, rfl⟩, ⟨0, Or.inl rfl⟩, Nat.le_of_ble_eq_true rfl, Nat.le_of_ble_eq_true rfl⟩
theorem okP9 : okP (lN 9) := by
  have h1 : encP (lN 9) (fun i => [9].getD i 0) 1 := enc_nib (L := [9]) (by decide) (by decide)
  refine ⟨(fun i => [9].getD i 0, fun _ => 0, 1), h1, Nat.zero_lt_one, by show 1 ≤ 16; decide, fun i hi => ?_, ?_⟩
  · have hi2 : i < 1 := hi
    have : i = 0 := by omega
    subst this
    exact ⟨by show 1 ≤ 9; decide, by show 9 ≤ 15; decide, fun h => absurd h (by show ¬ 10 ≤ 9; decide), fun h => absurd h (by show ¬ 10 ≤ 9; decide)⟩
  · exact pst_leaf (by show 9 ≤ 9; decide)
theorem aU_at (b k : Nat) : aU b (k + 1) k = some (b + 18 * k) := if_pos (by omega)
theorem aU_okI {b k : Nat} : ∀ i j, aU b k i = some j → j < b + 18 * k ∧ mvI b j = false := by
  intro i j hj
  unfold aU at hj
  split at hj
  · have := Option.some.inj hj
    subst this
    refine ⟨by omega, ?_⟩
    unfold mvI
    rw [show b + 18 * i - b = 18 * i by omega, Nat.mul_mod_right]
    simp
  · exact absurd hj (by simp)
theorem okF_mF (k : Nat) : okF k (mF k) := by
  refine ⟨?_, aU_okI, trivial⟩
  show okS (2 + 18 * k) (mvI 2) [.ref 1] = true
  have hb : Nat.blt 1 (2 + 18 * k) = true := by rw [Nat.blt_eq]; omega
  simp only [okS, okV, hb]
  rfl
theorem okH_mF {k n : Nat} (PM : Nat → PS × MS) (h : 2 + 18 * k ≤ n) : okH n nomv (mF k ++ blks 2 PM k) := by
  refine okH_app ⟨?_, aU_ok h, trivial⟩ (okH_blks k h)
  show (okV n nomv (.ref 1) && true) = true
  simp only [okV, nomv, Bool.not_false, Bool.and_true]
  rw [Nat.blt_eq]
  omega
theorem mF_len (PM : Nat → PS × MS) (k : Nat) : (mF k ++ blks 2 PM k).length = 2 + 18 * k := by
  rw [List.length_append, blks_len]
  rfl
set_option maxRecDepth 100000 in
theorem l_machs {G : aG} (hd : 50 ≤ gD G) (ggn : gN G = 1) (ggc : gC G = 163 + flS zC al0 (fwA al0 (fun _ => lN 9)) 9) (ggs : gS G = 2583 + flS zS al0 (fwA al0 (fun _ => lN 9)) 9)
    (hret : ∀ PM k' n', fwR PM0 PM al0 (fun _ => lN 9) 9 → k' ≤ gC G → n' ≤ gS G → RET G none (mF 9 ++ blks 2 PM 9) k' n') :
    ∀ (b x : Nat) (PM : Nat → PS × MS) (k0 n0 : Nat), x + b = 9 → fwR PM0 PM al0 (fun _ => lN 9) x → k0 = 1 + 18 * x + flS zC al0 (fwA al0 (fun _ => lN 9)) x → n0 = 9 + 286 * x + flS zS al0 (fwA al0 (fun _ => lN 9)) x → AW 6 G 15 [some (.ref 0), some (.int (nI x))] [] (mF x ++ blks 2 PM x) k0 n0 := by
  intro b
  induction b with
  | zero =>
    intro x PM k0 n0 hx hR hk0 hn0
    have hx9 : x = 9 := by omega
    subst hx9
    have t1 : (9 : Nat) ≤ 9 := Nat.le_refl _
    have hf := hret PM k0 n0 hR (by omega) (by omega)
    refine wq_aw (S := fun x => x == 15) (by decide) (f := 200) ?_
    simp (disch := first | exact rfl | decide | omega) only [v_6_15, u_6_0, u_6_1, u_6_4, u_6_5, u_6_7, u_6_10, u_6_13, u_6_14, u_6_15, u_6_16, u_6_18, u_6_21, u_6_22, u_6_25, u_6_26, u_6_29, u_6_30, u_6_33, u_6_34, u_6_35, u_6_38, u_6_39, u_6_40, u_6_43, u_6_46, u_6_49, u_6_52, wp_stop, lget, lput1, lput2, kil, hget, hset, vget, vset, fget, fgetC, fput, fputC, iget, igetC, jget, jgetC, qget, qgetC, alen, lenC, oI, oJ, oF, oA, oV, oH, oInc, oIld, oJld, oQld, oR, oLen, oIst, oBst, oJst, oQst, ciOf, rcv, oCp, cat1, cond_true, cond_false, Bool.and_self, Bool.and_true, Bool.true_and, Bool.or_true, Bool.true_or, Bool.or_false, Bool.false_or, Bool.not_false, Bool.not_true, ↓reduceIte, Nat.reduceBEq, Nat.reduceEqDiff, beq_self_eq_true, true_and, and_true, eq_self_iff_true, Nat.reduceAdd, Nat.blt, Nat.ble, z_le, z_lt, z_eq, z_cl, z_add, z_sub, z_mul, z_in, z_lt0, z_ofN, z_m1, z_ltm1, z_m1lt, z_eqm1, z_m1eq, z_m1le, z_lem1, z_beq, nI_0_1, nI_m1lt0, nI_0lem1, not_false_eq_true, not_true_eq_false, forall_const, false_implies, true_implies, implies_true, false_and, and_false, mrg, renc, tra, trv, sg, List.map_cons, List.map_nil, Option.map_some, Option.map_none, Option.toList_some, Option.toList_none, List.cons_append, List.nil_append, List.length_cons, List.length_nil, mF, t1]
    exact hf
  | succ b ih =>
    intro x PM k0 n0 hx hR hk0 hn0
    have t1 : ¬ 9 ≤ x := by omega
    have t2 : x < 9 := by omega
    have hPx : PM x = (P0, M0) := hR.2 x (Nat.le_refl _)
    have hne : ¬ (al0 x).1 = lN 9 := show ¬ (0 : Int64) = lN 9 by decide
    have hfw : fwA al0 (fun _ => lN 9) x = ldA (al0 x) (lN 9) := if_neg hne
    have hz0 : zR0 (PM x) (al0 x) := by
      rw [hPx]
      exact al0_ok x
    have hs := z_load 0 hz0 (lN 9) okP9 hne
    have c1 : flS zC al0 (fwA al0 (fun _ => lN 9)) (x + 1) = flS zC al0 (fwA al0 (fun _ => lN 9)) x + (zC (ldA (al0 x) (lN 9)) - zC (al0 x)) := by
      show _ + (zC (fwA al0 (fun _ => lN 9) x) - zC (al0 x)) = _
      rw [hfw]
    have c2 : flS zS al0 (fwA al0 (fun _ => lN 9)) (x + 1) = flS zS al0 (fwA al0 (fun _ => lN 9)) x + (zS (ldA (al0 x) (lN 9)) - zS (al0 x)) := by
      show _ + (zS (fwA al0 (fun _ => lN 9) x) - zS (al0 x)) = _
      rw [hfw]
    have m1 := flS_mono zC al0 (fwA al0 (fun _ => lN 9)) (show x + 1 ≤ 9 by omega)
    have m2 := flS_mono zS al0 (fwA al0 (fun _ => lN 9)) (show x + 1 ≤ 9 by omega)
    have hn : ∀ Z k' n', zR Z (ldA (al0 x) (lN 9)) → k' = 1 + 18 * (x + 1) + flS zC al0 (fwA al0 (fun _ => lN 9)) (x + 1) → n' = 9 + 286 * (x + 1) + flS zS al0 (fwA al0 (fun _ => lN 9)) (x + 1) → AW 6 G 15 [some (.ref 0), some (.int (nI (x + 1)))] [] (mF (x + 1) ++ blks 2 (updZ PM x Z) (x + 1)) k' n' := fun Z k' n' hZ hk' hn' => ih (x + 1) (updZ PM x Z) k' n' (by omega) ⟨fun y hy => by
      unfold updZ
      rcases Nat.lt_or_ge y x with z | z
      · rw [if_neg (by omega)]
        exact hR.1 y z
      · have : y = x := by omega
        subst this
        rw [if_pos rfl]
        exact ⟨fun z2 => absurd z2 hne, fun _ => hZ⟩, fun y hy => by
      unfold updZ
      rw [if_neg (by omega)]
      exact hR.2 y (by omega)⟩ hk' hn'
    generalize flS zC al0 (fwA al0 (fun _ => lN 9)) (x + 1) = sC1 at *
    generalize flS zS al0 (fwA al0 (fun _ => lN 9)) (x + 1) = sS1 at *
    generalize flS zC al0 (fwA al0 (fun _ => lN 9)) x = sC at *
    generalize flS zS al0 (fwA al0 (fun _ => lN 9)) x = sS at *
    generalize flS zC al0 (fwA al0 (fun _ => lN 9)) 9 = sC9 at *
    generalize flS zS al0 (fwA al0 (fun _ => lN 9)) 9 = sS9 at *
    generalize zC (ldA (al0 x) (lN 9)) - zC (al0 x) = dC at *
    generalize zS (ldA (al0 x) (lN 9)) - zS (al0 x) = dS1 at *
    have hlen := mF_len PM x
    have hok := okH_mF (k := x) (n := (mF x ++ blks 2 PM x).length) PM (by rw [hlen]; exact Nat.le_refl _)
    have hb0 : Nat.blt 0 (mF x ++ blks 2 PM x).length = true := by rw [Nat.blt_eq, hlen]; omega
    have hb1 : Nat.blt 1 (mF x ++ blks 2 PM x).length = true := by rw [Nat.blt_eq, hlen]; omega
    refine wq_aw (S := fun x => x == 15) (by decide) (f := 200) ?_
    simp (disch := first | exact rfl | decide | omega) only [v_6_15, u_6_0, u_6_1, u_6_4, u_6_5, u_6_7, u_6_10, u_6_13, u_6_14, u_6_15, u_6_16, u_6_18, u_6_21, u_6_22, u_6_25, u_6_26, u_6_29, u_6_30, u_6_33, u_6_34, u_6_35, u_6_38, u_6_39, u_6_40, u_6_43, u_6_46, u_6_49, u_6_52, wp_stop, lget, lput1, lput2, kil, hget, hset, vget, vset, fget, fgetC, fput, fputC, iget, igetC, jget, jgetC, qget, qgetC, alen, lenC, oI, oJ, oF, oA, oV, oH, oInc, oIld, oJld, oQld, oR, oLen, oIst, oBst, oJst, oQst, ciOf, rcv, oCp, cat1, cond_true, cond_false, Bool.and_self, Bool.and_true, Bool.true_and, Bool.or_true, Bool.true_or, Bool.or_false, Bool.false_or, Bool.not_false, Bool.not_true, ↓reduceIte, Nat.reduceBEq, Nat.reduceEqDiff, beq_self_eq_true, true_and, and_true, eq_self_iff_true, Nat.reduceAdd, Nat.blt, Nat.ble, z_le, z_lt, z_eq, z_cl, z_add, z_sub, z_mul, z_in, z_lt0, z_ofN, z_m1, z_ltm1, z_m1lt, z_eqm1, z_m1eq, z_m1le, z_lem1, z_beq, nI_0_1, nI_m1lt0, nI_0lem1, not_false_eq_true, not_true_eq_false, forall_const, false_implies, true_implies, implies_true, false_and, and_false, mrg, renc, tra, trv, sg, List.map_cons, List.map_nil, Option.map_some, Option.map_none, Option.toList_some, Option.toList_none, List.cons_append, List.nil_append, List.length_cons, List.length_nil, mF, t1, dfl_2, nf_2]
    show oNew _ _ _ _ _ _ _ (mF x ++ blks 2 PM x) _ _
    refine oNew.mkP (by rw [ggc]; omega) (by rw [ggs]; omega) (by rw [ggn, hlen]; omega) hok (by simp only [okL, okV, hb0, nomv]; rfl) (by simp only [okS, okV, hb1, nomv]; rfl) ?_
    have hgx : hget (mF x ++ blks 2 PM x ++ [mO0]) (2 + 18 * x) = some mO0 := by
      rw [← hlen]
      exact hget_app
    have hl2 : (mF x ++ blks 2 PM x ++ [mO0]).length = 3 + 18 * x := by
      rw [List.length_append, hlen, List.length_singleton]
      omega
    have hok2 : okH (mF x ++ blks 2 PM x ++ [mO0]).length nomv (mF x ++ blks 2 PM x ++ [mO0]) := okH_app (okH_mF PM (by rw [hl2]; omega)) ⟨rfl, trivial⟩
    have hmr := mrg_last (h := mF x ++ blks 2 PM x) (c := mO0) (mO M0) (mH P0 M0).tail
    rw [hlen] at hmr
    have hb02 : Nat.blt 0 (mF x ++ blks 2 PM x ++ [mO0]).length = true := by rw [Nat.blt_eq, hl2]; omega
    have hb12 : Nat.blt 1 (mF x ++ blks 2 PM x ++ [mO0]).length = true := by rw [Nat.blt_eq, hl2]; omega
    have hbx2 : Nat.blt (2 + 18 * x) (mF x ++ blks 2 PM x ++ [mO0]).length = true := by rw [Nat.blt_eq, hl2]; omega
    have hgy : ∀ c0 c1, hget (c0 :: c1 :: (blks 2 PM x ++ mHB (2 + 18 * x) (P0, M0))) (2 + 18 * x) = some (renc (2 + 18 * x + ·) (mO M0)) := by
      intro c0 c1
      rw [hget_eq]
      show (c0 :: c1 :: (blks 2 PM x ++ mHB (2 + 18 * x) (P0, M0)))[2 + 18 * x]? = _
      rw [show 2 + 18 * x = 18 * x + 1 + 1 by omega, List.getElem?_cons_succ, List.getElem?_cons_succ, List.getElem?_append_right (by rw [blks_len]; exact Nat.le_refl _), blks_len, Nat.sub_self]
      rfl
    rw [hlen]
    refine (?_ : WP _ _ _ _ _ _ _ (mF x ++ blks 2 PM x ++ [mO0]) _ _)
    generalize hH : mF x ++ blks 2 PM x ++ [mO0] = H at *
    simp (disch := first | exact rfl | decide | omega) only [u_6_0, u_6_1, u_6_4, u_6_5, u_6_7, u_6_10, u_6_13, u_6_14, u_6_15, u_6_16, u_6_18, u_6_21, u_6_22, u_6_25, u_6_26, u_6_29, u_6_30, u_6_33, u_6_34, u_6_35, u_6_38, u_6_39, u_6_40, u_6_43, u_6_46, u_6_49, u_6_52, wp_stop, lget, lput1, lput2, kil, hget, hset, vget, vset, fget, fgetC, fput, fputC, iget, igetC, jget, jgetC, qget, qgetC, alen, lenC, oI, oJ, oF, oA, oV, oH, oInc, oIld, oJld, oQld, oR, oLen, oIst, oBst, oJst, oQst, ciOf, rcv, oCp, cat1, cond_true, cond_false, Bool.and_self, Bool.and_true, Bool.true_and, Bool.or_true, Bool.true_or, Bool.or_false, Bool.false_or, Bool.not_false, Bool.not_true, ↓reduceIte, Nat.reduceBEq, Nat.reduceEqDiff, beq_self_eq_true, true_and, and_true, eq_self_iff_true, Nat.reduceAdd, Nat.blt, Nat.ble, z_le, z_lt, z_eq, z_cl, z_add, z_sub, z_mul, z_in, z_lt0, z_ofN, z_m1, z_ltm1, z_m1lt, z_eqm1, z_m1eq, z_m1le, z_lem1, z_beq, nI_0_1, nI_m1lt0, nI_0lem1, not_false_eq_true, not_true_eq_false, forall_const, false_implies, true_implies, implies_true, false_and, and_false, mrg, renc, tra, trv, sg, List.map_cons, List.map_nil, Option.map_some, Option.map_none, Option.toList_some, Option.toList_none, List.cons_append, List.nil_append, List.length_cons, List.length_nil]
    refine CAL.nmP (c_machInit 0) [2 + 18 * x] rfl rfl (by simp only [List.map_cons, List.map_nil, hgx]; rfl) (by simp) hok2 (fun r hc' q => by obtain ⟨-, rfl⟩ := q; exact Nat.le_of_ble_eq_true rfl) (by show _ ≤ gD G; omega) (by rw [ggc]; omega) (by rw [ggs]; omega) (Nat.le_of_ble_eq_true rfl) (by rw [ggn, hl2]; omega) (by simp only [okL, okV, hb02, nomv]; rfl) (by simp only [okS, okV, hb12, hbx2, nomv]; rfl) ?_
    rintro _ _ ⟨rfl, rfl⟩
    have hmr2 : mrg (sg [2 + 18 * x] H.length) H [2 + 18 * x] (mH P0 M0) = .inr (3, [.ref 1]) :: .inl (3, 9, .inr (.inr (.inr (.inr (aU 2 x))))) :: (blks 2 PM x ++ mHB (2 + 18 * x) (P0, M0)) := hmr
    rw [hmr2]
    have hcells : (.inr (3, [.ref 1]) :: .inl (3, 9, .inr (.inr (.inr (.inr (aU 2 (x + 1)))))) :: (blks 2 PM x ++ mHB (2 + 18 * x) (P0, M0)) : aH) = mF (x + 1) ++ blks (mF (x + 1)).length PM (x + 1) := by
      show _ = mF (x + 1) ++ (blks 2 PM x ++ mHB (2 + 18 * x) (PM x))
      rw [hPx]
      rfl
    have hb03 : Nat.blt 0 (2 + 18 * (x + 1)) = true := by rw [Nat.blt_eq]; omega
    simp (disch := first | exact rfl | decide | omega) only [u_6_0, u_6_1, u_6_4, u_6_5, u_6_7, u_6_10, u_6_13, u_6_14, u_6_15, u_6_16, u_6_18, u_6_21, u_6_22, u_6_25, u_6_26, u_6_29, u_6_30, u_6_33, u_6_34, u_6_35, u_6_38, u_6_39, u_6_40, u_6_43, u_6_46, u_6_49, u_6_52, wp_stop, lget, lput1, lput2, kil, hget, hset, vget, vset, fget, fgetC, fput, fputC, iget, igetC, jget, jgetC, qget, qgetC, alen, lenC, oI, oJ, oF, oA, oV, oH, oInc, oIld, oJld, oQld, oR, oLen, oIst, oBst, oJst, oQst, ciOf, rcv, oCp, cat1, cond_true, cond_false, Bool.and_self, Bool.and_true, Bool.true_and, Bool.or_true, Bool.true_or, Bool.or_false, Bool.false_or, Bool.not_false, Bool.not_true, ↓reduceIte, Nat.reduceBEq, Nat.reduceEqDiff, beq_self_eq_true, true_and, and_true, eq_self_iff_true, Nat.reduceAdd, Nat.blt, Nat.ble, z_le, z_lt, z_eq, z_cl, z_add, z_sub, z_mul, z_in, z_lt0, z_ofN, z_m1, z_ltm1, z_m1lt, z_eqm1, z_m1eq, z_m1le, z_lem1, z_beq, nI_0_1, nI_m1lt0, nI_0lem1, not_false_eq_true, not_true_eq_false, forall_const, false_implies, true_implies, implies_true, false_and, and_false, mrg, renc, tra, trv, sg, List.map_cons, List.map_nil, Option.map_some, Option.map_none, Option.toList_some, Option.toList_none, List.cons_append, List.nil_append, List.length_cons, List.length_nil, hgy, mO, aU_up, aU_at]
    rw [hcells]
    show CAL _ _ _ (.ref ((mF (x + 1)).length + 18 * x) :: _) _ _ _ (mF (x + 1) ++ blks (mF (x + 1)).length PM (x + 1)) _ _
    refine CAL.blk hs (Nat.lt_succ_self x) (okF_mF (x + 1)) (fun _ => rfl) mvM_1 (fun r hc' q => by obtain ⟨rfl, Z, rfl, -⟩ := q; exact ⟨⟨Z, rfl⟩, fun _ => rfl⟩) (by show _ ≤ gD G; omega) (by rw [ggc]; omega) (by rw [ggs]; omega) (Nat.le_of_ble_eq_true rfl) (by rw [ggn]; show 1 ≤ 2 + 18 * (x + 1); omega) (fun j hj _ => by
      rw [ggn] at hj
      have : j = 0 := by omega
      subst this
      rfl) (by show okL (2 + 18 * (x + 1)) (mvI 2) _ = true; simp only [okL, okV, hb03]; rfl) rfl ?_
    rintro r Z1 ⟨rfl, Z, hZ, hz⟩
    have e : blks (mF (x + 1)).length (updZ PM x Z1) (x + 1) = blks 2 (updZ PM x Z) (x + 1) := blks_congr (x + 1) (fun y _ => by
      unfold updZ
      by_cases qy : y = x
      · rw [if_pos qy, if_pos qy]
        exact hZ
      · rw [if_neg qy, if_neg qy])
    rw [e]
    have hn2 := fun k' n' => hn Z k' n' hz
    clear hn ih hret
    simp (disch := first | exact rfl | decide | omega) only [u_6_0, u_6_1, u_6_4, u_6_5, u_6_7, u_6_10, u_6_13, u_6_14, u_6_15, u_6_16, u_6_18, u_6_21, u_6_22, u_6_25, u_6_26, u_6_29, u_6_30, u_6_33, u_6_34, u_6_35, u_6_38, u_6_39, u_6_40, u_6_43, u_6_46, u_6_49, u_6_52, wp_stop, lget, lput1, lput2, kil, hget, hset, vget, vset, fget, fgetC, fput, fputC, iget, igetC, jget, jgetC, qget, qgetC, alen, lenC, oI, oJ, oF, oA, oV, oH, oInc, oIld, oJld, oQld, oR, oLen, oIst, oBst, oJst, oQst, ciOf, rcv, oCp, cat1, cond_true, cond_false, Bool.and_self, Bool.and_true, Bool.true_and, Bool.or_true, Bool.true_or, Bool.or_false, Bool.false_or, Bool.not_false, Bool.not_true, ↓reduceIte, Nat.reduceBEq, Nat.reduceEqDiff, beq_self_eq_true, true_and, and_true, eq_self_iff_true, Nat.reduceAdd, Nat.blt, Nat.ble, z_le, z_lt, z_eq, z_cl, z_add, z_sub, z_mul, z_in, z_lt0, z_ofN, z_m1, z_ltm1, z_m1lt, z_eqm1, z_m1eq, z_m1le, z_lem1, z_beq, nI_0_1, nI_m1lt0, nI_0lem1, not_false_eq_true, not_true_eq_false, forall_const, false_implies, true_implies, implies_true, false_and, and_false, mrg, renc, tra, trv, sg, List.map_cons, List.map_nil, Option.map_some, Option.map_none, Option.toList_some, Option.toList_none, List.cons_append, List.nil_append, List.length_cons, List.length_nil, mF]
    exact hn2 _ _ (by omega) (by omega)
set_option maxRecDepth 100000 in
theorem c_machsInit (d : Nat) : aSp (d + 50) 6 [.ref 0] [.inr (3, [.null])] nomv (163 + flS zC al0 (fwA al0 (fun _ => lN 9)) 9) (2583 + flS zS al0 (fwA al0 (fun _ => lN 9)) 9) (fun r h' => r = none ∧ ∃ PM, h' = mF 9 ++ blks 2 PM 9 ∧ fwR PM0 PM al0 (fun _ => lN 9) 9) := by
  refine sp_of (by decide) (Nat.le_of_ble_eq_true rfl) ?_
  generalize hG : ((d + 50, _, nomv, _, _, _) : aG) = G
  have ggd : gD G = d + 50 := by subst hG; rfl
  have ggn : gN G = 1 := by subst hG; rfl
  have ggm : gM G = nomv := by subst hG; rfl
  have ggc : gC G = 163 + flS zC al0 (fwA al0 (fun _ => lN 9)) 9 := by subst hG; rfl
  have ggs : gS G = 2583 + flS zS al0 (fwA al0 (fun _ => lN 9)) 9 := by subst hG; rfl
  have hret : ∀ PM k' n', fwR PM0 PM al0 (fun _ => lN 9) 9 → k' ≤ gC G → n' ≤ gS G → RET G none (mF 9 ++ blks 2 PM 9) k' n' := by
    subst hG
    exact fun PM k' n' q q1 q2 => RET.id ⟨rfl, PM, rfl, q⟩ q1 q2
  clear hG
  have hd1 : 1 ≤ gD G := by rw [ggd]; omega
  have hc0 : (0 : Nat) ≤ 8 := Nat.zero_le _
  have t1 : (9 : Nat) * 4 ≤ 536870912 := by decide
  have hf := l_machs (by rw [ggd]; omega) ggn ggc ggs hret 9 0 PM0 1 9 (by omega) ⟨fun y hy => absurd hy (Nat.not_lt_zero y), fun y _ => rfl⟩ rfl rfl
  clear hret
  refine wp_aw (S := fun x => x == 15) (by decide) 200 _ _ _ _ _ _ ?_
  simp (disch := first | exact rfl | decide | omega) only [u_6_0, u_6_1, u_6_4, u_6_5, u_6_7, u_6_10, u_6_13, u_6_14, u_6_15, u_6_16, u_6_18, u_6_21, u_6_22, u_6_25, u_6_26, u_6_29, u_6_30, u_6_33, u_6_34, u_6_35, u_6_38, u_6_39, u_6_40, u_6_43, u_6_46, u_6_49, u_6_52, wp_stop, lget, lput1, lput2, kil, hget, hset, vget, vset, fget, fgetC, fput, fputC, iget, igetC, jget, jgetC, qget, qgetC, alen, lenC, oI, oJ, oF, oA, oV, oH, oInc, oIld, oJld, oQld, oR, oLen, oIst, oBst, oJst, oQst, ciOf, rcv, oCp, cat1, cond_true, cond_false, Bool.and_self, Bool.and_true, Bool.true_and, Bool.or_true, Bool.true_or, Bool.or_false, Bool.false_or, Bool.not_false, Bool.not_true, ↓reduceIte, Nat.reduceBEq, Nat.reduceEqDiff, beq_self_eq_true, true_and, and_true, eq_self_iff_true, Nat.reduceAdd, Nat.blt, Nat.ble, z_le, z_lt, z_eq, z_cl, z_add, z_sub, z_mul, z_in, z_lt0, z_ofN, z_m1, z_ltm1, z_m1lt, z_eqm1, z_m1eq, z_m1le, z_lem1, z_beq, nI_0_1, nI_m1lt0, nI_0lem1, not_false_eq_true, not_true_eq_false, forall_const, false_implies, true_implies, implies_true, false_and, and_false, mrg, renc, tra, trv, sg, List.map_cons, List.map_nil, Option.map_some, Option.map_none, Option.toList_some, Option.toList_none, List.cons_append, List.nil_append, List.length_cons, List.length_nil, eL, mL_6, hd1, List.sum_nil, hc0, t1]
  refine oNew.mk (by rw [ggc]; omega) (by rw [ggs]; omega) (by rw [ggn]; exact Nat.le_of_ble_eq_true rfl) rfl rfl rfl ?_
  simp (disch := first | exact rfl | decide | omega) only [u_6_0, u_6_1, u_6_4, u_6_5, u_6_7, u_6_10, u_6_13, u_6_14, u_6_15, u_6_16, u_6_18, u_6_21, u_6_22, u_6_25, u_6_26, u_6_29, u_6_30, u_6_33, u_6_34, u_6_35, u_6_38, u_6_39, u_6_40, u_6_43, u_6_46, u_6_49, u_6_52, wp_stop, lget, lput1, lput2, kil, hget, hset, vget, vset, fget, fgetC, fput, fputC, iget, igetC, jget, jgetC, qget, qgetC, alen, lenC, oI, oJ, oF, oA, oV, oH, oInc, oIld, oJld, oQld, oR, oLen, oIst, oBst, oJst, oQst, ciOf, rcv, oCp, cat1, cond_true, cond_false, Bool.and_self, Bool.and_true, Bool.true_and, Bool.or_true, Bool.true_or, Bool.or_false, Bool.false_or, Bool.not_false, Bool.not_true, ↓reduceIte, Nat.reduceBEq, Nat.reduceEqDiff, beq_self_eq_true, true_and, and_true, eq_self_iff_true, Nat.reduceAdd, Nat.blt, Nat.ble, z_le, z_lt, z_eq, z_cl, z_add, z_sub, z_mul, z_in, z_lt0, z_ofN, z_m1, z_ltm1, z_m1lt, z_eqm1, z_m1eq, z_m1le, z_lem1, z_beq, nI_0_1, nI_m1lt0, nI_0lem1, not_false_eq_true, not_true_eq_false, forall_const, false_implies, true_implies, implies_true, false_and, and_false, mrg, renc, tra, trv, sg, List.map_cons, List.map_nil, Option.map_some, Option.map_none, Option.toList_some, Option.toList_none, List.cons_append, List.nil_append, List.length_cons, List.length_nil, cQ]
  exact hf
