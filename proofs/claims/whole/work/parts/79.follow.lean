/-! Machines.follow -/
abbrev fF (pt : Nat → Int64) : aH := [.inr (3, [.ref 1]), .inl (3, 9, .inr (.inr (.inr (.inr (aF 3))))), .inl (2, 9, .inr (.inl pt))]
theorem okF_fF (pt : Nat → Int64) : okF 9 (fF pt) := ⟨rfl, aF_ok, trivial, trivial⟩
theorem hg3 {c0 c1 c2 : aC} {PM : Nat → PS × MS} {x : Nat} (hx : x < 9) : hget (c0 :: c1 :: c2 :: blks 3 PM 9) (3 + 18 * x) = some (renc (3 + 18 * x + ·) (mO (PM x).2)) := by
  have := fb_get [c0, c1, c2] PM (nb := 9) x 0 hx (by decide)
  exact this
/-- what machines have made in going by other patterns -/
def flS (f : aZ → Nat) (α α' : Nat → aZ) : Nat → Nat
  | 0 => 0
  | k + 1 => flS f α α' k + (f (α' k) - f (α k))
theorem flS_mono (f : aZ → Nat) (α α' : Nat → aZ) {a b : Nat} (h : a ≤ b) : flS f α α' a ≤ flS f α α' b := by
  induction b with
  | zero =>
    have : a = 0 := by omega
    subst this
    exact Nat.le_refl _
  | succ b ih =>
    rcases Nat.lt_or_ge a (b + 1) with q | q
    · have := ih (by omega)
      show _ ≤ flS f α α' b + _
      omega
    · have : a = b + 1 := by omega
      subst this
      exact Nat.le_refl _
noncomputable def fwA (α : Nat → aZ) (pt : Nat → Int64) : Nat → aZ := fun x => if (α x).1 = pt x then α x else ldA (α x) (pt x)
def fwR (PM PM' : Nat → PS × MS) (α : Nat → aZ) (pt : Nat → Int64) (k : Nat) : Prop := (∀ y, y < k → ((α y).1 = pt y → PM' y = PM y) ∧ (¬ (α y).1 = pt y → zR (PM' y) (ldA (α y) (pt y)))) ∧ ∀ y, k ≤ y → PM' y = PM y
section FW
variable (pt : Nat → Int64) (PM : Nat → PS × MS) (α : Nat → aZ)
set_option maxRecDepth 100000 in
theorem l_follow {G : aG} (h0 : ∀ x, x < 9 → zR0 (PM x) (α x)) (hp : ∀ x, x < 9 → okP (pt x)) (hd : 50 ≤ gD G) (ggn : gN G = 165) (ggm : gM G = mvI 3) (ggc : gC G = flS zC α (fwA α pt) 9) (ggs : gS G = flS zS α (fwA α pt) 9)
    (hret : ∀ PM', fwR PM PM' α pt 9 → RET G none (fF pt ++ blks 3 PM' 9) (flS zC α (fwA α pt) 9) (flS zS α (fwA α pt) 9)) :
    ∀ (b x : Nat) (PM' : Nat → PS × MS), x + b = 9 → fwR PM PM' α pt x → AW 55 G 2 [some (.ref 0), some (.ref 2), some (.int (nI x))] [] (fF pt ++ blks 3 PM' 9) (flS zC α (fwA α pt) x) (flS zS α (fwA α pt) x) := by
  intro b
  induction b with
  | zero =>
    intro x PM' hx hR
    have hx9 : x = 9 := by omega
    subst hx9
    have t1 : (9 : Nat) ≤ 9 := Nat.le_refl _
    have hf := hret PM' hR
    refine wq_aw (S := fun x => x == 2) (by decide) (f := 200) ?_
    simp (disch := first | exact rfl | decide | omega) only [v_55_2, u_55_0, u_55_1, u_55_2, u_55_3, u_55_5, u_55_8, u_55_9, u_55_10, u_55_11, u_55_14, u_55_15, u_55_18, u_55_19, u_55_20, u_55_21, u_55_22, u_55_23, u_55_26, u_55_29, u_55_32, wp_stop, lget, lput1, lput2, kil, hget, hset, vget, vset, fget, fgetC, fput, fputC, iget, igetC, jget, jgetC, qget, qgetC, alen, lenC, oI, oJ, oF, oA, oV, oH, oInc, oIld, oJld, oQld, oR, oLen, oIst, oBst, oJst, oQst, ciOf, rcv, oCp, cat1, cond_true, cond_false, Bool.and_self, Bool.and_true, Bool.true_and, Bool.or_true, Bool.true_or, Bool.or_false, Bool.false_or, Bool.not_false, Bool.not_true, ↓reduceIte, Nat.reduceBEq, Nat.reduceEqDiff, beq_self_eq_true, true_and, and_true, eq_self_iff_true, Nat.reduceAdd, Nat.blt, Nat.ble, z_le, z_lt, z_eq, z_cl, z_add, z_sub, z_mul, z_in, z_lt0, z_ofN, z_m1, z_ltm1, z_m1lt, z_eqm1, z_m1eq, z_m1le, z_lem1, z_beq, nI_0_1, nI_m1lt0, nI_0lem1, not_false_eq_true, not_true_eq_false, forall_const, false_implies, true_implies, implies_true, false_and, and_false, mrg, renc, tra, trv, sg, List.map_cons, List.map_nil, Option.map_some, Option.map_none, Option.toList_some, Option.toList_none, List.cons_append, List.nil_append, List.length_cons, List.length_nil, fF, t1]
    exact hf
  | succ b ih =>
    intro x PM' hx hR
    have hx9 : x < 9 := by omega
    have t1 : ¬ 9 ≤ x := by omega
    have e1 := aF_k (b := 3) hx9
    have hPx : PM' x = PM x := hR.2 x (Nat.le_refl _)
    have hz0 := h0 x hx9
    have m1 := flS_mono zC α (fwA α pt) (show x + 1 ≤ 9 by omega)
    have m2 := flS_mono zS α (fwA α pt) (show x + 1 ≤ 9 by omega)
    have hb3 : Nat.blt (3 + 18 * x) 165 = true := by rw [Nat.blt_eq]; omega
    by_cases q : (α x).1 = pt x
    · have hs := z_same 0 hz0 (pt x) q
      have hfw : fwA α pt x = α x := if_pos q
      have c1 : flS zC α (fwA α pt) (x + 1) = flS zC α (fwA α pt) x := by
        show _ + (zC (fwA α pt x) - zC (α x)) = _
        rw [hfw]
        omega
      have c2 : flS zS α (fwA α pt) (x + 1) = flS zS α (fwA α pt) x := by
        show _ + (zS (fwA α pt x) - zS (α x)) = _
        rw [hfw]
        omega
      have hn := ih (x + 1) PM' (by omega) ⟨fun y hy => by
        rcases Nat.lt_or_ge y x with z | z
        · exact hR.1 y z
        · have : y = x := by omega
          subst this
          exact ⟨fun _ => hPx, fun z2 => absurd q z2⟩, fun y hy => hR.2 y (by omega)⟩
      rw [c1, c2] at hn
      rw [← hPx] at hs
      refine wq_aw (S := fun x => x == 2) (by decide) (f := 200) ?_
      simp (disch := first | exact rfl | decide | omega) only [v_55_2, u_55_0, u_55_1, u_55_2, u_55_3, u_55_5, u_55_8, u_55_9, u_55_10, u_55_11, u_55_14, u_55_15, u_55_18, u_55_19, u_55_20, u_55_21, u_55_22, u_55_23, u_55_26, u_55_29, u_55_32, wp_stop, lget, lput1, lput2, kil, hget, hset, vget, vset, fget, fgetC, fput, fputC, iget, igetC, jget, jgetC, qget, qgetC, alen, lenC, oI, oJ, oF, oA, oV, oH, oInc, oIld, oJld, oQld, oR, oLen, oIst, oBst, oJst, oQst, ciOf, rcv, oCp, cat1, cond_true, cond_false, Bool.and_self, Bool.and_true, Bool.true_and, Bool.or_true, Bool.true_or, Bool.or_false, Bool.false_or, Bool.not_false, Bool.not_true, ↓reduceIte, Nat.reduceBEq, Nat.reduceEqDiff, beq_self_eq_true, true_and, and_true, eq_self_iff_true, Nat.reduceAdd, Nat.blt, Nat.ble, z_le, z_lt, z_eq, z_cl, z_add, z_sub, z_mul, z_in, z_lt0, z_ofN, z_m1, z_ltm1, z_m1lt, z_eqm1, z_m1eq, z_m1le, z_lem1, z_beq, nI_0_1, nI_m1lt0, nI_0lem1, not_false_eq_true, not_true_eq_false, forall_const, false_implies, true_implies, implies_true, false_and, and_false, mrg, renc, tra, trv, sg, List.map_cons, List.map_nil, Option.map_some, Option.map_none, Option.toList_some, Option.toList_none, List.cons_append, List.nil_append, List.length_cons, List.length_nil, fF, t1, e1, hg3, mO]
      show CAL _ _ _ (.ref ((fF pt).length + 18 * x) :: _) _ _ _ (fF pt ++ blks (fF pt).length PM' 9) _ _
      refine CAL.blkN hs hx9 (okF_fF pt) (fun _ => rfl) (fun r hc' q => by obtain ⟨rfl, rfl⟩ := q; exact ⟨⟨PM' x, rfl⟩, fun _ => rfl⟩) (by show _ ≤ gD G; omega) (by show _ ≤ gC G; rw [ggc]; omega) (by show _ ≤ gS G; rw [ggs]; omega) (Nat.le_of_ble_eq_true rfl) (by rw [ggn]; exact Nat.le_of_ble_eq_true rfl) rfl rfl ?_
      rintro r Z ⟨rfl, hZ⟩
      have e : blks (fF pt).length (updZ PM' x Z) 9 = blks 3 PM' 9 := blks_congr 9 (fun y _ => by
        unfold updZ
        by_cases q : y = x
        · subst q
          rw [if_pos rfl, hZ]
        · rw [if_neg q])
      rw [e]
      simp (disch := first | exact rfl | decide | omega) only [u_55_0, u_55_1, u_55_2, u_55_3, u_55_5, u_55_8, u_55_9, u_55_10, u_55_11, u_55_14, u_55_15, u_55_18, u_55_19, u_55_20, u_55_21, u_55_22, u_55_23, u_55_26, u_55_29, u_55_32, wp_stop, lget, lput1, lput2, kil, hget, hset, vget, vset, fget, fgetC, fput, fputC, iget, igetC, jget, jgetC, qget, qgetC, alen, lenC, oI, oJ, oF, oA, oV, oH, oInc, oIld, oJld, oQld, oR, oLen, oIst, oBst, oJst, oQst, ciOf, rcv, oCp, cat1, cond_true, cond_false, Bool.and_self, Bool.and_true, Bool.true_and, Bool.or_true, Bool.true_or, Bool.or_false, Bool.false_or, Bool.not_false, Bool.not_true, ↓reduceIte, Nat.reduceBEq, Nat.reduceEqDiff, beq_self_eq_true, true_and, and_true, eq_self_iff_true, Nat.reduceAdd, Nat.blt, Nat.ble, z_le, z_lt, z_eq, z_cl, z_add, z_sub, z_mul, z_in, z_lt0, z_ofN, z_m1, z_ltm1, z_m1lt, z_eqm1, z_m1eq, z_m1le, z_lem1, z_beq, nI_0_1, nI_m1lt0, nI_0lem1, not_false_eq_true, not_true_eq_false, forall_const, false_implies, true_implies, implies_true, false_and, and_false, mrg, renc, tra, trv, sg, List.map_cons, List.map_nil, Option.map_some, Option.map_none, Option.toList_some, Option.toList_none, List.cons_append, List.nil_append, List.length_cons, List.length_nil, fF]
      exact hn
    · have hs := z_load 0 hz0 (pt x) (hp x hx9) q
      have hfw : fwA α pt x = ldA (α x) (pt x) := if_neg q
      have c1 : flS zC α (fwA α pt) (x + 1) = flS zC α (fwA α pt) x + (zC (ldA (α x) (pt x)) - zC (α x)) := by
        show _ + (zC (fwA α pt x) - zC (α x)) = _
        rw [hfw]
      have c2 : flS zS α (fwA α pt) (x + 1) = flS zS α (fwA α pt) x + (zS (ldA (α x) (pt x)) - zS (α x)) := by
        show _ + (zS (fwA α pt x) - zS (α x)) = _
        rw [hfw]
      have hn : ∀ Z, zR Z (ldA (α x) (pt x)) → _ := fun Z hZ => ih (x + 1) (updZ PM' x Z) (by omega) ⟨fun y hy => by
        unfold updZ
        rcases Nat.lt_or_ge y x with z | z
        · rw [if_neg (by omega)]
          exact hR.1 y z
        · have : y = x := by omega
          subst this
          rw [if_pos rfl]
          exact ⟨fun z2 => absurd z2 q, fun _ => hZ⟩, fun y hy => by
        unfold updZ
        rw [if_neg (by omega)]
        exact hR.2 y (by omega)⟩
      rw [c1, c2] at hn
      rw [← hPx] at hs
      refine wq_aw (S := fun x => x == 2) (by decide) (f := 200) ?_
      simp (disch := first | exact rfl | decide | omega) only [v_55_2, u_55_0, u_55_1, u_55_2, u_55_3, u_55_5, u_55_8, u_55_9, u_55_10, u_55_11, u_55_14, u_55_15, u_55_18, u_55_19, u_55_20, u_55_21, u_55_22, u_55_23, u_55_26, u_55_29, u_55_32, wp_stop, lget, lput1, lput2, kil, hget, hset, vget, vset, fget, fgetC, fput, fputC, iget, igetC, jget, jgetC, qget, qgetC, alen, lenC, oI, oJ, oF, oA, oV, oH, oInc, oIld, oJld, oQld, oR, oLen, oIst, oBst, oJst, oQst, ciOf, rcv, oCp, cat1, cond_true, cond_false, Bool.and_self, Bool.and_true, Bool.true_and, Bool.or_true, Bool.true_or, Bool.or_false, Bool.false_or, Bool.not_false, Bool.not_true, ↓reduceIte, Nat.reduceBEq, Nat.reduceEqDiff, beq_self_eq_true, true_and, and_true, eq_self_iff_true, Nat.reduceAdd, Nat.blt, Nat.ble, z_le, z_lt, z_eq, z_cl, z_add, z_sub, z_mul, z_in, z_lt0, z_ofN, z_m1, z_ltm1, z_m1lt, z_eqm1, z_m1eq, z_m1le, z_lem1, z_beq, nI_0_1, nI_m1lt0, nI_0lem1, not_false_eq_true, not_true_eq_false, forall_const, false_implies, true_implies, implies_true, false_and, and_false, mrg, renc, tra, trv, sg, List.map_cons, List.map_nil, Option.map_some, Option.map_none, Option.toList_some, Option.toList_none, List.cons_append, List.nil_append, List.length_cons, List.length_nil, fF, t1, e1, hg3, mO]
      show CAL _ _ _ (.ref ((fF pt).length + 18 * x) :: _) _ _ _ (fF pt ++ blks (fF pt).length PM' 9) _ _
      refine CAL.blk hs hx9 (okF_fF pt) (fun _ => rfl) mvM_1 (fun r hc' q => by obtain ⟨rfl, Z, rfl, -⟩ := q; exact ⟨⟨Z, rfl⟩, fun _ => rfl⟩) (by show _ ≤ gD G; omega) (by show _ ≤ gC G; rw [ggc]; omega) (by show _ ≤ gS G; rw [ggs]; omega) (Nat.le_of_ble_eq_true rfl) (by rw [ggn]; exact Nat.le_of_ble_eq_true rfl) (fun j _ z => by show mvI 3 j = false; rw [← ggm]; exact z) rfl rfl ?_
      rintro r Z1 ⟨rfl, Z, hZ, hz⟩
      have e : blks (fF pt).length (updZ PM' x Z1) 9 = blks 3 (updZ PM' x Z) 9 := blks_congr 9 (fun y _ => by
        unfold updZ
        by_cases qy : y = x
        · rw [if_pos qy, if_pos qy]
          exact hZ
        · rw [if_neg qy, if_neg qy])
      rw [e]
      have hn2 := hn Z hz
      simp (disch := first | exact rfl | decide | omega) only [u_55_0, u_55_1, u_55_2, u_55_3, u_55_5, u_55_8, u_55_9, u_55_10, u_55_11, u_55_14, u_55_15, u_55_18, u_55_19, u_55_20, u_55_21, u_55_22, u_55_23, u_55_26, u_55_29, u_55_32, wp_stop, lget, lput1, lput2, kil, hget, hset, vget, vset, fget, fgetC, fput, fputC, iget, igetC, jget, jgetC, qget, qgetC, alen, lenC, oI, oJ, oF, oA, oV, oH, oInc, oIld, oJld, oQld, oR, oLen, oIst, oBst, oJst, oQst, ciOf, rcv, oCp, cat1, cond_true, cond_false, Bool.and_self, Bool.and_true, Bool.true_and, Bool.or_true, Bool.true_or, Bool.or_false, Bool.false_or, Bool.not_false, Bool.not_true, ↓reduceIte, Nat.reduceBEq, Nat.reduceEqDiff, beq_self_eq_true, true_and, and_true, eq_self_iff_true, Nat.reduceAdd, Nat.blt, Nat.ble, z_le, z_lt, z_eq, z_cl, z_add, z_sub, z_mul, z_in, z_lt0, z_ofN, z_m1, z_ltm1, z_m1lt, z_eqm1, z_m1eq, z_m1le, z_lem1, z_beq, nI_0_1, nI_m1lt0, nI_0lem1, not_false_eq_true, not_true_eq_false, forall_const, false_implies, true_implies, implies_true, false_and, and_false, mrg, renc, tra, trv, sg, List.map_cons, List.map_nil, Option.map_some, Option.map_none, Option.toList_some, Option.toList_none, List.cons_append, List.nil_append, List.length_cons, List.length_nil, fF]
      exact hn2
set_option maxRecDepth 100000 in
theorem c_follow (d : Nat) (h0 : ∀ x, x < 9 → zR0 (PM x) (α x)) (hp : ∀ x, x < 9 → okP (pt x)) : aSp (d + 50) 55 [.ref 0, .ref 2] (fF pt ++ blks 3 PM 9) (mvI 3) (flS zC α (fwA α pt) 9) (flS zS α (fwA α pt) 9) (fun r h' => r = none ∧ ∃ PM', h' = fF pt ++ blks 3 PM' 9 ∧ fwR PM PM' α pt 9) := by
  refine sp_of (by decide) (Nat.le_of_ble_eq_true rfl) ?_
  generalize hG : ((d + 50, _, mvI 3, _, _, _) : aG) = G
  have ggd : gD G = d + 50 := by subst hG; rfl
  have ggn : gN G = 165 := by subst hG; exact fb_len (fF pt) PM (nb := 9)
  have ggm : gM G = mvI 3 := by subst hG; rfl
  have ggc : gC G = flS zC α (fwA α pt) 9 := by subst hG; rfl
  have ggs : gS G = flS zS α (fwA α pt) 9 := by subst hG; rfl
  have hret : ∀ PM', fwR PM PM' α pt 9 → RET G none (fF pt ++ blks 3 PM' 9) (flS zC α (fwA α pt) 9) (flS zS α (fwA α pt) 9) := by
    subst hG
    exact fun PM' q => RET.id ⟨rfl, PM', rfl, q⟩ (Nat.le_refl _) (Nat.le_refl _)
  clear hG
  have hf := l_follow pt PM α h0 hp (by rw [ggd]; omega) ggn ggm ggc ggs hret 9 0 PM (by omega) ⟨fun y hy => absurd hy (Nat.not_lt_zero y), fun y _ => rfl⟩
  refine wp_aw (S := fun x => x == 2) (by decide) 200 _ _ _ _ _ _ ?_
  simp (disch := first | exact rfl | decide | omega) only [u_55_0, u_55_1, u_55_2, u_55_3, u_55_5, u_55_8, u_55_9, u_55_10, u_55_11, u_55_14, u_55_15, u_55_18, u_55_19, u_55_20, u_55_21, u_55_22, u_55_23, u_55_26, u_55_29, u_55_32, wp_stop, lget, lput1, lput2, kil, hget, hset, vget, vset, fget, fgetC, fput, fputC, iget, igetC, jget, jgetC, qget, qgetC, alen, lenC, oI, oJ, oF, oA, oV, oH, oInc, oIld, oJld, oQld, oR, oLen, oIst, oBst, oJst, oQst, ciOf, rcv, oCp, cat1, cond_true, cond_false, Bool.and_self, Bool.and_true, Bool.true_and, Bool.or_true, Bool.true_or, Bool.or_false, Bool.false_or, Bool.not_false, Bool.not_true, ↓reduceIte, Nat.reduceBEq, Nat.reduceEqDiff, beq_self_eq_true, true_and, and_true, eq_self_iff_true, Nat.reduceAdd, Nat.blt, Nat.ble, z_le, z_lt, z_eq, z_cl, z_add, z_sub, z_mul, z_in, z_lt0, z_ofN, z_m1, z_ltm1, z_m1lt, z_eqm1, z_m1eq, z_m1le, z_lem1, z_beq, nI_0_1, nI_m1lt0, nI_0lem1, not_false_eq_true, not_true_eq_false, forall_const, false_implies, true_implies, implies_true, false_and, and_false, mrg, renc, tra, trv, sg, List.map_cons, List.map_nil, Option.map_some, Option.map_none, Option.toList_some, Option.toList_none, List.cons_append, List.nil_append, List.length_cons, List.length_nil, eL, mL_55, fF]
  exact hf
end FW
