/-! ResidualJudge: judge -/
abbrev sgU : Nat → Nat := sg (jsE [28, 29, 30, 23, 24, 1, 2] 31) 193
theorem aF_renU : (fun i => (aF 7 i).map sgU) = aF 31 := aF_ren rfl
theorem gF_renU (dp br fl du en le ah de : Int32) (ow st : Nat → Int32) (tl : Int32) (tb : Nat → Int32) : (gF dp br fl du en le ah de ow st tl tb).map (renc sgU) = [.inr (0, [.ref 29, .ref 30, .int dp, .int br, .int fl, .int du, .int en, .int le, .int ah, .int de]), .inl (1, 9, .inl ow), .inl (1, 9, .inl st), .inr (3, [.ref 24]), .inl (3, 9, .inr (.inr (.inr (.inr (aF 31))))), .inr (8, [.ref 2, .int tl]), .inl (0, 150, .inl tb)] := by
  show _ :: _ :: _ :: _ :: Sum.inl (3, 9, Sum.inr (Sum.inr (Sum.inr (Sum.inr (fun i => (aF 7 i).map sgU))))) :: _ = _
  rw [aF_renU]
  rfl
/-- another book -/
abbrev bkJ (J : jS) (bk : jB) : jS := (J.1, J.2.1, J.2.2.1, J.2.2.2.1, J.2.2.2.2.1, J.2.2.2.2.2.1, bk)
theorem mrg_U (J : jS) (dp br fl du en le ah de : Int32) (ow st : Nat → Int32) : mrg sgU (jF J) [28, 29, 30, 23, 24, 1, 2] (gF dp br fl du en le ah de ow st J.2.1.1 J.2.1.2) = jF (bkJ J (dp, br, fl, du, en, le, ah, de, ow, st)) := by
  have h := gF_renU dp br fl du en le ah de ow st J.2.1.1 J.2.1.2
  simp only [gF, List.map_cons, List.map_nil, List.cons.injEq, and_true] at h
  obtain ⟨h0, h1, h2, h3, h4, h5, h6⟩ := h
  simp only [gF, mrg, h0, h1, h2, h3, h4, h5, h6, List.map_nil, List.append_nil]
  rfl
/-- what a pass ends with -/
noncomputable def goJ (f : Option Nat) (κF : kB) (len : Nat) (J : jS) (r : Option Value) (h' : aH) : Prop :=
  (∀ i, f = some i → r = some (.int (nI i)) ∧ ∃ bk PM, h' = jH (bkJ J bk) PM ∧ jY PM κF.2.2.2.2.2) ∧
  (f = none → r = some (.int (-1)) ∧ ∃ ow st PM, h' = jH (bkJ J (nI 0, bv none, (fv (kbE κF len)).1, (fv (kbE κF len)).2.1, (fv (kbE κF len)).2.2.1, nI κF.2.2.2.1, (fv (kbE κF len)).2.2.2, nI κF.2.2.2.2.1, ow, st)) PM ∧ jY PM κF.2.2.2.2.2)
theorem blks_up {b b2 : Nat} {PM PM2 : Nat → PS × MS} (h : blks b PM 9 = blks b PM2 9) (h2 : b ≤ b2) : blks b2 PM 9 = blks b2 PM2 9 := by
  rw [← blks_ren (σ := fun i => i + (b2 - b)) (b := b) (b2 := b2) (PM := PM) 9 (fun i _ => by omega), ← blks_ren (σ := fun i => i + (b2 - b)) (b := b) (b2 := b2) (PM := PM2) 9 (fun i _ => by omega), h]
abbrev kb0 (ν : Nat → aN) : kB := ([(8, 1)], none, none, 0, 0, ν)
theorem J_go (d len : Nat) (J : jS) (PM : Nat → PS × MS) (ν : Nat → aN) (T : List Nat) (e : J.2.1.1 = nI len) (hT : txR J.2.1.2 T) (hl : T.length = len) (hl2 : len ≤ 150) (hy : jY PM ν) (h9 : ∀ x, 9 ≤ x → okN (ν x)) (h14 : ∀ x, x < 9 → ((kbF (kb0 ν) T 0).2.2.2.2.2.2 x).2.1.1.length ≤ 2 ^ 14) :
    ∃ mv : Nat → Bool, (∀ j, mv j = true → mvI 31 j = true) ∧ aSp (d + 9) 76 [.ref 28, .ref 1, .ref 23] (jH J PM) mv (fY yC (kbF (kb0 ν) T 0).2.2.2.2.2.2 - fY yC ν) (fY yS (kbF (kb0 ν) T 0).2.2.2.2.2.2 - fY yS ν) (goJ (kbW (kb0 ν) T) (kbF (kb0 ν) T 0).2 len J) := by
  have hk := c_goThrough len J.2.1.2 T d hT hl hl2 J.2.2.2.2.2.2.1 J.2.2.2.2.2.2.2.1 J.2.2.2.2.2.2.2.2.1 J.2.2.2.2.2.2.2.2.2.1 J.2.2.2.2.2.2.2.2.2.2.1 J.2.2.2.2.2.2.2.2.2.2.2.1 J.2.2.2.2.2.2.2.2.2.2.2.2.1 J.2.2.2.2.2.2.2.2.2.2.2.2.2.1 J.2.2.2.2.2.2.2.2.2.2.2.2.2.2.1 J.2.2.2.2.2.2.2.2.2.2.2.2.2.2.2 PM ν hy h9 h14
  generalize kbW (kb0 ν) T = f at *
  generalize kbF (kb0 ν) T 0 = FF at *
  rw [← e] at hk
  obtain ⟨h1, h2⟩ := sp_emb (F := gF J.2.2.2.2.2.2.1 J.2.2.2.2.2.2.2.1 J.2.2.2.2.2.2.2.2.1 J.2.2.2.2.2.2.2.2.2.1 J.2.2.2.2.2.2.2.2.2.2.1 J.2.2.2.2.2.2.2.2.2.2.2.1 J.2.2.2.2.2.2.2.2.2.2.2.2.1 J.2.2.2.2.2.2.2.2.2.2.2.2.2.1 J.2.2.2.2.2.2.2.2.2.2.2.2.2.2.1 J.2.2.2.2.2.2.2.2.2.2.2.2.2.2.2 J.2.1.1 J.2.1.2) (F2 := jF J) hk [28, 29, 30, 23, 24, 1, 2] rfl (by decide) (show ∀ j ∈ [28, 29, 30, 23, 24, 1, 2], j < 31 by decide) (by
    have e : (gF J.2.2.2.2.2.2.1 J.2.2.2.2.2.2.2.1 J.2.2.2.2.2.2.2.2.1 J.2.2.2.2.2.2.2.2.2.1 J.2.2.2.2.2.2.2.2.2.2.1 J.2.2.2.2.2.2.2.2.2.2.2.1 J.2.2.2.2.2.2.2.2.2.2.2.2.1 J.2.2.2.2.2.2.2.2.2.2.2.2.2.1 J.2.2.2.2.2.2.2.2.2.2.2.2.2.2.1 J.2.2.2.2.2.2.2.2.2.2.2.2.2.2.2 J.2.1.1 J.2.1.2).map (fun c => some (renc sgU c)) = ((gF J.2.2.2.2.2.2.1 J.2.2.2.2.2.2.2.1 J.2.2.2.2.2.2.2.2.1 J.2.2.2.2.2.2.2.2.2.1 J.2.2.2.2.2.2.2.2.2.2.1 J.2.2.2.2.2.2.2.2.2.2.2.1 J.2.2.2.2.2.2.2.2.2.2.2.2.1 J.2.2.2.2.2.2.2.2.2.2.2.2.2.1 J.2.2.2.2.2.2.2.2.2.2.2.2.2.2.1 J.2.2.2.2.2.2.2.2.2.2.2.2.2.2.2 J.2.1.1 J.2.1.2).map (renc sgU)).map some := by
      rw [List.map_map]
      rfl
    show _ = (gF _ _ _ _ _ _ _ _ _ _ _ _).map (fun c => some (renc sgU c))
    rw [e, gF_renU]
    rfl) (okF_jF J) (fun j h => h) (fun r hc' q => by
    cases f with
    | some i =>
      obtain ⟨-, dp, br, fl, du, en, le, ah, de, ow, st, PM', rfl, -⟩ := q.1 i rfl
      exact ⟨_, PM', rfl, rfl⟩
    | none =>
      obtain ⟨-, ow, st, PM', rfl, -⟩ := q.2 rfl
      exact ⟨_, PM', rfl, rfl⟩)
  refine ⟨_, h1, sp_weaken h2 ?_⟩
  rintro r h' ⟨r0, F', PM', hq, hF', rfl, rfl⟩
  have hfin : ∀ dp br fl du en le ah de ow st PM2, F' ++ blks 7 PM' 9 = gF dp br fl du en le ah de ow st (nI len) J.2.1.2 ++ blks 7 PM2 9 → mrg sgU (jF J) [28, 29, 30, 23, 24, 1, 2] F' ++ blks 31 PM' 9 = jH (bkJ J (dp, br, fl, du, en, le, ah, de, ow, st)) PM2 := by
    intro dp br fl du en le ah de ow st PM2 e3
    have e1 := (List.append_inj e3 hF').1
    have e2 := (List.append_inj e3 hF').2
    rw [← e] at e1
    rw [e1, mrg_U, blks_up e2 (by decide)]
  cases f with
  | some i =>
    obtain ⟨rfl, dp, br, fl, du, en, le, ah, de, ow, st, PM2, e3, hz⟩ := hq.1 i rfl
    exact ⟨fun j hj => by rw [← Option.some.inj hj]; exact ⟨rfl, _, PM2, hfin _ _ _ _ _ _ _ _ _ _ _ e3, hz⟩, fun hj => absurd hj (by simp)⟩
  | none =>
    obtain ⟨rfl, ow, st, PM2, e3, hz⟩ := hq.2 rfl
    exact ⟨fun j hj => absurd hj (by simp), fun _ => ⟨rfl, ow, st, PM2, hfin _ _ _ _ _ _ _ _ _ _ _ e3, hz⟩⟩
/-- what is told of a book -/
def jbA (q : aQ) (le de w : Nat) : Int32 := if w = 0 then bN q.isNone else if w = 1 then (fv q).1 else if w = 2 then (fv q).2.1 else if w = 3 then (fv q).2.2.1 else if w = 4 then nI le else nI de
set_option maxRecDepth 100000 in
theorem c_ofBook (d w le de : Nat) (hw : w < 6) (q : aQ) (hq : qOK q) (J : jS) (PM : Nat → PS × MS) (dp br ah : Int32) (ow st : Nat → Int32) : aSp d 85 [.ref 0, .int (nI w)] (jH (bkJ J (dp, br, (fv q).1, (fv q).2.1, (fv q).2.2.1, nI le, ah, nI de, ow, st)) PM) nomv 0 0 (fun r h' => r = some (.int (jbA q le de w)) ∧ h' = jH (bkJ J (dp, br, (fv q).1, (fv q).2.1, (fv q).2.2.1, nI le, ah, nI de, ow, st)) PM) := by
  refine sp_of (by decide) (Nat.le_of_ble_eq_true rfl) ?_
  generalize hG : ((d, _, nomv, _, _, _) : aG) = G
  have ggd : gD G = d := by subst hG; rfl
  have ggn : gN G = 193 := by subst hG; exact jH_len _ _
  have ggm : gM G = nomv := by subst hG; rfl
  have ggc : gC G = 0 := by subst hG; rfl
  have ggs : gS G = 0 := by subst hG; rfl
  have hret : RET G (some (.int (jbA q le de w))) (jH (bkJ J (dp, br, (fv q).1, (fv q).2.1, (fv q).2.2.1, nI le, ah, nI de, ow, st)) PM) 0 0 := by
    subst hG
    exact RET.id ⟨rfl, rfl⟩ (Nat.le_refl _) (Nat.le_refl _)
  clear hG
  have h6 : w = 0 ∨ w = 1 ∨ w = 2 ∨ w = 3 ∨ w = 4 ∨ w = 5 := by omega
  rcases h6 with rfl | rfl | rfl | rfl | rfl | rfl
  · cases q with
    | none =>
      have e : jbA none le de 0 = nI 1 := rfl
      rw [e] at hret
      have e2 : (fv none).1 = -1 := rfl
      rw [e2] at hret ⊢
      generalize (fv none).2 = z at *
      refine wp_aw (S := fun _ => false) (by decide) 200 _ _ _ _ _ _ ?_
      simp (disch := first | exact rfl | decide | omega) only [u_85_0, u_85_1, u_85_36, u_85_37, u_85_40, u_85_43, u_85_44, u_85_47, u_85_48, u_85_51, u_85_52, u_85_53, u_85_54, u_85_57, u_85_60, u_85_61, u_85_62, u_85_65, u_85_68, u_85_69, u_85_70, u_85_73, u_85_76, u_85_79, u_85_80, u_85_83, u_85_84, u_85_85, u_85_86, u_85_89, u_85_92, u_85_93, u_85_94, u_85_97, u_85_100, wp_stop, lget, lput1, lput2, kil, hget, hset, vget, vset, fget, fgetC, fput, fputC, iget, igetC, jget, jgetC, qget, qgetC, alen, lenC, oI, oJ, oF, oA, oV, oH, oInc, oIld, oJld, oQld, oR, oLen, oIst, oBst, oJst, oQst, ciOf, rcv, oCp, cat1, cond_true, cond_false, Bool.and_self, Bool.and_true, Bool.true_and, Bool.or_true, Bool.true_or, Bool.or_false, Bool.false_or, Bool.not_false, Bool.not_true, ↓reduceIte, Nat.reduceBEq, Nat.reduceEqDiff, beq_self_eq_true, true_and, and_true, eq_self_iff_true, Nat.reduceAdd, Nat.blt, Nat.ble, z_le, z_lt, z_eq, z_cl, z_add, z_sub, z_mul, z_in, z_lt0, z_ofN, z_m1, z_ltm1, z_m1lt, z_eqm1, z_m1eq, z_m1le, z_lem1, z_beq, nI_0_1, nI_m1lt0, nI_0lem1, not_false_eq_true, not_true_eq_false, forall_const, false_implies, true_implies, implies_true, false_and, and_false, mrg, renc, tra, trv, sg, List.map_cons, List.map_nil, Option.map_some, Option.map_none, Option.toList_some, Option.toList_none, List.cons_append, List.nil_append, List.length_cons, List.length_nil, eL, mL_85, jH, jF]
      exact hret
    | some t =>
      have e : jbA (some t) le de 0 = nI 0 := rfl
      rw [e] at hret
      have ht := hq t rfl
      obtain ⟨t1, t2⟩ := t
      have e2 : (fv (some (t1, t2))).1 = nI t1 := rfl
      rw [e2] at hret ⊢
      generalize (fv (some (t1, t2))).2 = z at *
      have ht1 : t1 < 2 ^ 20 := ht
      refine wp_aw (S := fun _ => false) (by decide) 200 _ _ _ _ _ _ ?_
      simp (disch := first | exact rfl | decide | omega) only [u_85_0, u_85_1, u_85_36, u_85_37, u_85_40, u_85_43, u_85_44, u_85_47, u_85_48, u_85_51, u_85_52, u_85_53, u_85_54, u_85_57, u_85_60, u_85_61, u_85_62, u_85_65, u_85_68, u_85_69, u_85_70, u_85_73, u_85_76, u_85_79, u_85_80, u_85_83, u_85_84, u_85_85, u_85_86, u_85_89, u_85_92, u_85_93, u_85_94, u_85_97, u_85_100, wp_stop, lget, lput1, lput2, kil, hget, hset, vget, vset, fget, fgetC, fput, fputC, iget, igetC, jget, jgetC, qget, qgetC, alen, lenC, oI, oJ, oF, oA, oV, oH, oInc, oIld, oJld, oQld, oR, oLen, oIst, oBst, oJst, oQst, ciOf, rcv, oCp, cat1, cond_true, cond_false, Bool.and_self, Bool.and_true, Bool.true_and, Bool.or_true, Bool.true_or, Bool.or_false, Bool.false_or, Bool.not_false, Bool.not_true, ↓reduceIte, Nat.reduceBEq, Nat.reduceEqDiff, beq_self_eq_true, true_and, and_true, eq_self_iff_true, Nat.reduceAdd, Nat.blt, Nat.ble, z_le, z_lt, z_eq, z_cl, z_add, z_sub, z_mul, z_in, z_lt0, z_ofN, z_m1, z_ltm1, z_m1lt, z_eqm1, z_m1eq, z_m1le, z_lem1, z_beq, nI_0_1, nI_m1lt0, nI_0lem1, not_false_eq_true, not_true_eq_false, forall_const, false_implies, true_implies, implies_true, false_and, and_false, mrg, renc, tra, trv, sg, List.map_cons, List.map_nil, Option.map_some, Option.map_none, Option.toList_some, Option.toList_none, List.cons_append, List.nil_append, List.length_cons, List.length_nil, eL, mL_85, jH, jF]
      exact hret
  · have e : jbA q le de 1 = (fv q).1 := rfl
    rw [e] at hret
    generalize fv q = z at *
    refine wp_aw (S := fun _ => false) (by decide) 200 _ _ _ _ _ _ ?_
    simp (disch := first | exact rfl | decide | omega) only [u_85_0, u_85_1, u_85_36, u_85_37, u_85_40, u_85_43, u_85_44, u_85_47, u_85_48, u_85_51, u_85_52, u_85_53, u_85_54, u_85_57, u_85_60, u_85_61, u_85_62, u_85_65, u_85_68, u_85_69, u_85_70, u_85_73, u_85_76, u_85_79, u_85_80, u_85_83, u_85_84, u_85_85, u_85_86, u_85_89, u_85_92, u_85_93, u_85_94, u_85_97, u_85_100, wp_stop, lget, lput1, lput2, kil, hget, hset, vget, vset, fget, fgetC, fput, fputC, iget, igetC, jget, jgetC, qget, qgetC, alen, lenC, oI, oJ, oF, oA, oV, oH, oInc, oIld, oJld, oQld, oR, oLen, oIst, oBst, oJst, oQst, ciOf, rcv, oCp, cat1, cond_true, cond_false, Bool.and_self, Bool.and_true, Bool.true_and, Bool.or_true, Bool.true_or, Bool.or_false, Bool.false_or, Bool.not_false, Bool.not_true, ↓reduceIte, Nat.reduceBEq, Nat.reduceEqDiff, beq_self_eq_true, true_and, and_true, eq_self_iff_true, Nat.reduceAdd, Nat.blt, Nat.ble, z_le, z_lt, z_eq, z_cl, z_add, z_sub, z_mul, z_in, z_lt0, z_ofN, z_m1, z_ltm1, z_m1lt, z_eqm1, z_m1eq, z_m1le, z_lem1, z_beq, nI_0_1, nI_m1lt0, nI_0lem1, not_false_eq_true, not_true_eq_false, forall_const, false_implies, true_implies, implies_true, false_and, and_false, mrg, renc, tra, trv, sg, List.map_cons, List.map_nil, Option.map_some, Option.map_none, Option.toList_some, Option.toList_none, List.cons_append, List.nil_append, List.length_cons, List.length_nil, eL, mL_85, jH, jF, n10]
    exact hret
  · have e : jbA q le de 2 = (fv q).2.1 := rfl
    rw [e] at hret
    generalize fv q = z at *
    refine wp_aw (S := fun _ => false) (by decide) 200 _ _ _ _ _ _ ?_
    simp (disch := first | exact rfl | decide | omega) only [u_85_0, u_85_1, u_85_36, u_85_37, u_85_40, u_85_43, u_85_44, u_85_47, u_85_48, u_85_51, u_85_52, u_85_53, u_85_54, u_85_57, u_85_60, u_85_61, u_85_62, u_85_65, u_85_68, u_85_69, u_85_70, u_85_73, u_85_76, u_85_79, u_85_80, u_85_83, u_85_84, u_85_85, u_85_86, u_85_89, u_85_92, u_85_93, u_85_94, u_85_97, u_85_100, wp_stop, lget, lput1, lput2, kil, hget, hset, vget, vset, fget, fgetC, fput, fputC, iget, igetC, jget, jgetC, qget, qgetC, alen, lenC, oI, oJ, oF, oA, oV, oH, oInc, oIld, oJld, oQld, oR, oLen, oIst, oBst, oJst, oQst, ciOf, rcv, oCp, cat1, cond_true, cond_false, Bool.and_self, Bool.and_true, Bool.true_and, Bool.or_true, Bool.true_or, Bool.or_false, Bool.false_or, Bool.not_false, Bool.not_true, ↓reduceIte, Nat.reduceBEq, Nat.reduceEqDiff, beq_self_eq_true, true_and, and_true, eq_self_iff_true, Nat.reduceAdd, Nat.blt, Nat.ble, z_le, z_lt, z_eq, z_cl, z_add, z_sub, z_mul, z_in, z_lt0, z_ofN, z_m1, z_ltm1, z_m1lt, z_eqm1, z_m1eq, z_m1le, z_lem1, z_beq, nI_0_1, nI_m1lt0, nI_0lem1, not_false_eq_true, not_true_eq_false, forall_const, false_implies, true_implies, implies_true, false_and, and_false, mrg, renc, tra, trv, sg, List.map_cons, List.map_nil, Option.map_some, Option.map_none, Option.toList_some, Option.toList_none, List.cons_append, List.nil_append, List.length_cons, List.length_nil, eL, mL_85, jH, jF, show ¬ (2 : Nat) = 0 by decide, show ¬ (2 : Nat) = 1 by decide]
    exact hret
  · have e : jbA q le de 3 = (fv q).2.2.1 := rfl
    rw [e] at hret
    have hb : (fv q).2.2.1 = nI 1 ∨ (fv q).2.2.1 = nI 0 := by
      rcases q with - | ⟨p, u, en, a⟩
      · exact Or.inl rfl
      · cases en
        · exact Or.inr rfl
        · exact Or.inl rfl
    generalize fv q = z at *
    obtain ⟨z1, z2, z3, z4⟩ := z
    dsimp only at *
    rcases hb with rfl | rfl
    · refine wp_aw (S := fun _ => false) (by decide) 200 _ _ _ _ _ _ ?_
      simp (disch := first | exact rfl | decide | omega) only [u_85_0, u_85_1, u_85_36, u_85_37, u_85_40, u_85_43, u_85_44, u_85_47, u_85_48, u_85_51, u_85_52, u_85_53, u_85_54, u_85_57, u_85_60, u_85_61, u_85_62, u_85_65, u_85_68, u_85_69, u_85_70, u_85_73, u_85_76, u_85_79, u_85_80, u_85_83, u_85_84, u_85_85, u_85_86, u_85_89, u_85_92, u_85_93, u_85_94, u_85_97, u_85_100, wp_stop, lget, lput1, lput2, kil, hget, hset, vget, vset, fget, fgetC, fput, fputC, iget, igetC, jget, jgetC, qget, qgetC, alen, lenC, oI, oJ, oF, oA, oV, oH, oInc, oIld, oJld, oQld, oR, oLen, oIst, oBst, oJst, oQst, ciOf, rcv, oCp, cat1, cond_true, cond_false, Bool.and_self, Bool.and_true, Bool.true_and, Bool.or_true, Bool.true_or, Bool.or_false, Bool.false_or, Bool.not_false, Bool.not_true, ↓reduceIte, Nat.reduceBEq, Nat.reduceEqDiff, beq_self_eq_true, true_and, and_true, eq_self_iff_true, Nat.reduceAdd, Nat.blt, Nat.ble, z_le, z_lt, z_eq, z_cl, z_add, z_sub, z_mul, z_in, z_lt0, z_ofN, z_m1, z_ltm1, z_m1lt, z_eqm1, z_m1eq, z_m1le, z_lem1, z_beq, nI_0_1, nI_m1lt0, nI_0lem1, not_false_eq_true, not_true_eq_false, forall_const, false_implies, true_implies, implies_true, false_and, and_false, mrg, renc, tra, trv, sg, List.map_cons, List.map_nil, Option.map_some, Option.map_none, Option.toList_some, Option.toList_none, List.cons_append, List.nil_append, List.length_cons, List.length_nil, eL, mL_85, jH, jF, n10, show ¬ (3 : Nat) = 0 by decide, show ¬ (3 : Nat) = 1 by decide, show ¬ (3 : Nat) = 2 by decide]
      exact hret
    · refine wp_aw (S := fun _ => false) (by decide) 200 _ _ _ _ _ _ ?_
      simp (disch := first | exact rfl | decide | omega) only [u_85_0, u_85_1, u_85_36, u_85_37, u_85_40, u_85_43, u_85_44, u_85_47, u_85_48, u_85_51, u_85_52, u_85_53, u_85_54, u_85_57, u_85_60, u_85_61, u_85_62, u_85_65, u_85_68, u_85_69, u_85_70, u_85_73, u_85_76, u_85_79, u_85_80, u_85_83, u_85_84, u_85_85, u_85_86, u_85_89, u_85_92, u_85_93, u_85_94, u_85_97, u_85_100, wp_stop, lget, lput1, lput2, kil, hget, hset, vget, vset, fget, fgetC, fput, fputC, iget, igetC, jget, jgetC, qget, qgetC, alen, lenC, oI, oJ, oF, oA, oV, oH, oInc, oIld, oJld, oQld, oR, oLen, oIst, oBst, oJst, oQst, ciOf, rcv, oCp, cat1, cond_true, cond_false, Bool.and_self, Bool.and_true, Bool.true_and, Bool.or_true, Bool.true_or, Bool.or_false, Bool.false_or, Bool.not_false, Bool.not_true, ↓reduceIte, Nat.reduceBEq, Nat.reduceEqDiff, beq_self_eq_true, true_and, and_true, eq_self_iff_true, Nat.reduceAdd, Nat.blt, Nat.ble, z_le, z_lt, z_eq, z_cl, z_add, z_sub, z_mul, z_in, z_lt0, z_ofN, z_m1, z_ltm1, z_m1lt, z_eqm1, z_m1eq, z_m1le, z_lem1, z_beq, nI_0_1, nI_m1lt0, nI_0lem1, not_false_eq_true, not_true_eq_false, forall_const, false_implies, true_implies, implies_true, false_and, and_false, mrg, renc, tra, trv, sg, List.map_cons, List.map_nil, Option.map_some, Option.map_none, Option.toList_some, Option.toList_none, List.cons_append, List.nil_append, List.length_cons, List.length_nil, eL, mL_85, jH, jF, show ¬ (3 : Nat) = 0 by decide, show ¬ (3 : Nat) = 1 by decide, show ¬ (3 : Nat) = 2 by decide]
      exact hret
  · have e : jbA q le de 4 = nI le := rfl
    rw [e] at hret
    generalize fv q = z at *
    refine wp_aw (S := fun _ => false) (by decide) 200 _ _ _ _ _ _ ?_
    simp (disch := first | exact rfl | decide | omega) only [u_85_0, u_85_1, u_85_36, u_85_37, u_85_40, u_85_43, u_85_44, u_85_47, u_85_48, u_85_51, u_85_52, u_85_53, u_85_54, u_85_57, u_85_60, u_85_61, u_85_62, u_85_65, u_85_68, u_85_69, u_85_70, u_85_73, u_85_76, u_85_79, u_85_80, u_85_83, u_85_84, u_85_85, u_85_86, u_85_89, u_85_92, u_85_93, u_85_94, u_85_97, u_85_100, wp_stop, lget, lput1, lput2, kil, hget, hset, vget, vset, fget, fgetC, fput, fputC, iget, igetC, jget, jgetC, qget, qgetC, alen, lenC, oI, oJ, oF, oA, oV, oH, oInc, oIld, oJld, oQld, oR, oLen, oIst, oBst, oJst, oQst, ciOf, rcv, oCp, cat1, cond_true, cond_false, Bool.and_self, Bool.and_true, Bool.true_and, Bool.or_true, Bool.true_or, Bool.or_false, Bool.false_or, Bool.not_false, Bool.not_true, ↓reduceIte, Nat.reduceBEq, Nat.reduceEqDiff, beq_self_eq_true, true_and, and_true, eq_self_iff_true, Nat.reduceAdd, Nat.blt, Nat.ble, z_le, z_lt, z_eq, z_cl, z_add, z_sub, z_mul, z_in, z_lt0, z_ofN, z_m1, z_ltm1, z_m1lt, z_eqm1, z_m1eq, z_m1le, z_lem1, z_beq, nI_0_1, nI_m1lt0, nI_0lem1, not_false_eq_true, not_true_eq_false, forall_const, false_implies, true_implies, implies_true, false_and, and_false, mrg, renc, tra, trv, sg, List.map_cons, List.map_nil, Option.map_some, Option.map_none, Option.toList_some, Option.toList_none, List.cons_append, List.nil_append, List.length_cons, List.length_nil, eL, mL_85, jH, jF, show ¬ (4 : Nat) = 0 by decide, show ¬ (4 : Nat) = 1 by decide, show ¬ (4 : Nat) = 2 by decide, show ¬ (4 : Nat) = 3 by decide]
    exact hret
  · have e : jbA q le de 5 = nI de := rfl
    rw [e] at hret
    generalize fv q = z at *
    refine wp_aw (S := fun _ => false) (by decide) 200 _ _ _ _ _ _ ?_
    simp (disch := first | exact rfl | decide | omega) only [u_85_0, u_85_1, u_85_36, u_85_37, u_85_40, u_85_43, u_85_44, u_85_47, u_85_48, u_85_51, u_85_52, u_85_53, u_85_54, u_85_57, u_85_60, u_85_61, u_85_62, u_85_65, u_85_68, u_85_69, u_85_70, u_85_73, u_85_76, u_85_79, u_85_80, u_85_83, u_85_84, u_85_85, u_85_86, u_85_89, u_85_92, u_85_93, u_85_94, u_85_97, u_85_100, wp_stop, lget, lput1, lput2, kil, hget, hset, vget, vset, fget, fgetC, fput, fputC, iget, igetC, jget, jgetC, qget, qgetC, alen, lenC, oI, oJ, oF, oA, oV, oH, oInc, oIld, oJld, oQld, oR, oLen, oIst, oBst, oJst, oQst, ciOf, rcv, oCp, cat1, cond_true, cond_false, Bool.and_self, Bool.and_true, Bool.true_and, Bool.or_true, Bool.true_or, Bool.or_false, Bool.false_or, Bool.not_false, Bool.not_true, ↓reduceIte, Nat.reduceBEq, Nat.reduceEqDiff, beq_self_eq_true, true_and, and_true, eq_self_iff_true, Nat.reduceAdd, Nat.blt, Nat.ble, z_le, z_lt, z_eq, z_cl, z_add, z_sub, z_mul, z_in, z_lt0, z_ofN, z_m1, z_ltm1, z_m1lt, z_eqm1, z_m1eq, z_m1le, z_lem1, z_beq, nI_0_1, nI_m1lt0, nI_0lem1, not_false_eq_true, not_true_eq_false, forall_const, false_implies, true_implies, implies_true, false_and, and_false, mrg, renc, tra, trv, sg, List.map_cons, List.map_nil, Option.map_some, Option.map_none, Option.toList_some, Option.toList_none, List.cons_append, List.nil_append, List.length_cons, List.length_nil, eL, mL_85, jH, jF, show ¬ (5 : Nat) = 0 by decide, show ¬ (5 : Nat) = 1 by decide, show ¬ (5 : Nat) = 2 by decide, show ¬ (5 : Nat) = 3 by decide, show ¬ (5 : Nat) = 4 by decide]
    exact hret
