/-! Plan.keepMove -/
def mcode (m : Nat × Nat) : Nat := m.1 * 256 + m.2
theorem mcode_inj {a b : Nat × Nat} (ha : a.2 < 256) (hb : b.2 < 256) (h : mcode a = mcode b) : a = b := by
  obtain ⟨a1, a2⟩ := a
  obtain ⟨b1, b2⟩ := b
  simp only [mcode] at h ha hb ⊢
  have h1 : a2 = b2 := by omega
  have h2 : a1 = b1 := by omega
  rw [h1, h2]
theorem kcode : ∀ s, s < 8 → ∀ t, t < 256 → nI s <<< (nI 8 &&& 31) ||| nI t = nI (s * 256 + t) := by decide +kernel
/-- the traits behind a new move -/
def kT (tr : Nat → Int32) (l s t : Nat) : Nat → Int32 :=
  if upd tr l (tr l ||| nI 1 <<< (nI s &&& 31)) t &&& nI 256 = nI 0 then upd tr l (tr l ||| nI 1 <<< (nI s &&& 31)) else upd (upd tr l (tr l ||| nI 1 <<< (nI s &&& 31))) l (upd tr l (tr l ||| nI 1 <<< (nI s &&& 31)) l ||| nI 1 <<< (nI (9 + s) &&& 31))
/-- the room for moves behind it -/
def kN (L : List (Nat × Nat)) (c nm : Nat) (m : Nat × Nat) : Nat := if m ∈ L then nm else if c < nm then nm else 2 * nm
/-- the moves of the place that is left: they stand from a on -/
def mvOk (mo : Nat → Int32) (a : Nat) (L : List (Nat × Nat)) : Prop := ∀ j (hj : j < L.length), mo (a + j) = nI (mcode L[j]) ∧ L[j].1 < 8 ∧ L[j].2 < 256
def tau7 : Nat → Nat := fun j => if j = 7 then 10 else j
set_option maxRecDepth 100000 in
theorem l_keep {G : aG} (S l s t a c nm N : Nat) (root sorts : Int32) (kd sa la sp sh tr mo ms me : Nat → Int32) (L : List (Nat × Nat)) (hs : s < 8) (ht : t < S) (hS : S ≤ 256) (hl : l < S) (hN : S ≤ N) (hN2 : N < 2 ^ 20) (hms : ms l = nI a) (hc : c = a + L.length) (hcn : c ≤ nm) (hnm : nm < 2 ^ 22) (hmo : mvOk mo a L)
    (h1 : (s, t) ∈ L → RET G none (pH root (nI S) sorts (nI c) (nI l) kd sa la sp sh N tr nm mo N ms N me) 0 0)
    (h2 : (s, t) ∉ L → AW 17 G 76 [some (.ref 0), some (.int (nI s)), some (.int (nI t)), some (.int (nI (s * 256 + t))), none] [] (pH root (nI S) sorts (nI c) (nI l) kd sa la sp sh N tr nm mo N ms N me) 0 0) : ∀ (m j : Nat), j + m = L.length → (∀ x (hx : x < L.length), x < j → L[x] ≠ (s, t)) →
    AW 17 G 49 [some (.ref 0), some (.int (nI s)), some (.int (nI t)), some (.int (nI (s * 256 + t))), some (.int (nI (a + j)))] [] (pH root (nI S) sorts (nI c) (nI l) kd sa la sp sh N tr nm mo N ms N me) 0 0 := by
  intro m
  induction m with
  | zero =>
    intro j hj hno
    have t1 : c ≤ a + j := by omega
    have hnot : (s, t) ∉ L := by
      intro q
      obtain ⟨x, hx, e⟩ := List.getElem_of_mem q
      exact hno x hx (by omega) e
    refine wq_aw (S := fun x => x == 49 || x == 76) (by decide) (f := 200) ?_
    simp (disch := first | exact rfl | decide | omega) only [v_17_49, u_17_0, u_17_1, u_17_4, u_17_5, u_17_6, u_17_9, u_17_12, u_17_13, u_17_16, u_17_19, u_17_20, u_17_23, u_17_24, u_17_27, u_17_30, u_17_31, u_17_32, u_17_34, u_17_35, u_17_36, u_17_37, u_17_38, u_17_39, u_17_42, u_17_43, u_17_46, u_17_47, u_17_49, u_17_51, u_17_52, u_17_55, u_17_58, u_17_59, u_17_62, u_17_64, u_17_65, u_17_66, u_17_69, u_17_70, u_17_73, u_17_76, u_17_77, u_17_80, u_17_81, u_17_84, u_17_85, u_17_88, u_17_89, u_17_90, u_17_93, u_17_94, u_17_95, u_17_98, u_17_99, u_17_102, u_17_105, u_17_106, u_17_109, u_17_110, u_17_113, u_17_114, u_17_115, u_17_116, u_17_117, u_17_120, u_17_121, u_17_122, u_17_125, u_17_126, u_17_129, u_17_130, u_17_133, u_17_134, u_17_135, u_17_136, u_17_137, u_17_138, u_17_139, u_17_140, u_17_141, u_17_144, u_17_145, u_17_146, u_17_149, u_17_150, u_17_153, u_17_154, u_17_157, u_17_158, u_17_161, u_17_162, u_17_163, u_17_164, u_17_166, u_17_167, u_17_168, u_17_169, u_17_170, u_17_171, wp_stop, lget, lput1, lput2, kil, hget, hset, vget, vset, fget, fgetC, fput, fputC, iget, igetC, jget, jgetC, qget, qgetC, alen, lenC, oI, oJ, oF, oA, oV, oH, oInc, oIld, oJld, oQld, oR, oLen, oIst, oBst, oJst, oQst, ciOf, rcv, oCp, cat1, cond_true, cond_false, Bool.and_self, Bool.and_true, Bool.true_and, Bool.or_true, Bool.true_or, Bool.or_false, Bool.false_or, Bool.not_false, Bool.not_true, ↓reduceIte, Nat.reduceBEq, Nat.reduceEqDiff, beq_self_eq_true, true_and, and_true, eq_self_iff_true, Nat.reduceAdd, Nat.blt, Nat.ble, z_le, z_lt, z_eq, z_cl, z_add, z_sub, z_mul, z_in, z_lt0, z_ofN, z_m1, z_ltm1, z_m1lt, z_eqm1, z_m1eq, z_m1le, z_lem1, z_beq, nI_0_1, nI_m1lt0, nI_0lem1, not_false_eq_true, not_true_eq_false, forall_const, false_implies, true_implies, implies_true, false_and, and_false, mrg, renc, tra, trv, sg, List.map_cons, List.map_nil, Option.map_some, Option.map_none, Option.toList_some, Option.toList_none, List.cons_append, List.nil_append, List.length_cons, List.length_nil, pH, pO, t1]
    exact aw_lle [some (.ref 0), some (.int (nI s)), some (.int (nI t)), some (.int (nI (s * 256 + t))), none] ⟨rfl, rfl, rfl, rfl, trivial⟩ (h2 hnot)
  | succ m ih =>
    intro j hj hno
    have t1 : ¬ c ≤ a + j := by omega
    have hjl : j < L.length := by omega
    obtain ⟨e1, e2, e3⟩ := hmo j hjl
    have hb : mcode L[j] < 2 ^ 31 := by simp only [mcode]; omega
    by_cases hq : L[j] = (s, t)
    · have t2 : mcode L[j] = s * 256 + t := by rw [hq]; rfl
      refine wq_aw (S := fun x => x == 49 || x == 76) (by decide) (f := 200) ?_
      simp (disch := first | exact rfl | decide | omega) only [v_17_49, u_17_0, u_17_1, u_17_4, u_17_5, u_17_6, u_17_9, u_17_12, u_17_13, u_17_16, u_17_19, u_17_20, u_17_23, u_17_24, u_17_27, u_17_30, u_17_31, u_17_32, u_17_34, u_17_35, u_17_36, u_17_37, u_17_38, u_17_39, u_17_42, u_17_43, u_17_46, u_17_47, u_17_49, u_17_51, u_17_52, u_17_55, u_17_58, u_17_59, u_17_62, u_17_64, u_17_65, u_17_66, u_17_69, u_17_70, u_17_73, u_17_76, u_17_77, u_17_80, u_17_81, u_17_84, u_17_85, u_17_88, u_17_89, u_17_90, u_17_93, u_17_94, u_17_95, u_17_98, u_17_99, u_17_102, u_17_105, u_17_106, u_17_109, u_17_110, u_17_113, u_17_114, u_17_115, u_17_116, u_17_117, u_17_120, u_17_121, u_17_122, u_17_125, u_17_126, u_17_129, u_17_130, u_17_133, u_17_134, u_17_135, u_17_136, u_17_137, u_17_138, u_17_139, u_17_140, u_17_141, u_17_144, u_17_145, u_17_146, u_17_149, u_17_150, u_17_153, u_17_154, u_17_157, u_17_158, u_17_161, u_17_162, u_17_163, u_17_164, u_17_166, u_17_167, u_17_168, u_17_169, u_17_170, u_17_171, wp_stop, lget, lput1, lput2, kil, hget, hset, vget, vset, fget, fgetC, fput, fputC, iget, igetC, jget, jgetC, qget, qgetC, alen, lenC, oI, oJ, oF, oA, oV, oH, oInc, oIld, oJld, oQld, oR, oLen, oIst, oBst, oJst, oQst, ciOf, rcv, oCp, cat1, cond_true, cond_false, Bool.and_self, Bool.and_true, Bool.true_and, Bool.or_true, Bool.true_or, Bool.or_false, Bool.false_or, Bool.not_false, Bool.not_true, ↓reduceIte, Nat.reduceBEq, Nat.reduceEqDiff, beq_self_eq_true, true_and, and_true, eq_self_iff_true, Nat.reduceAdd, Nat.blt, Nat.ble, z_le, z_lt, z_eq, z_cl, z_add, z_sub, z_mul, z_in, z_lt0, z_ofN, z_m1, z_ltm1, z_m1lt, z_eqm1, z_m1eq, z_m1le, z_lem1, z_beq, nI_0_1, nI_m1lt0, nI_0lem1, not_false_eq_true, not_true_eq_false, forall_const, false_implies, true_implies, implies_true, false_and, and_false, mrg, renc, tra, trv, sg, List.map_cons, List.map_nil, Option.map_some, Option.map_none, Option.toList_some, Option.toList_none, List.cons_append, List.nil_append, List.length_cons, List.length_nil, pH, pO, t1, e1, t2]
      exact h1 (by rw [← hq]; exact List.getElem_mem hjl)
    · have t2 : ¬ mcode L[j] = s * 256 + t := fun z => hq (mcode_inj e3 (show t < 256 by omega) z)
      refine wq_aw (S := fun x => x == 49 || x == 76) (by decide) (f := 200) ?_
      simp (disch := first | exact rfl | decide | omega) only [v_17_49, u_17_0, u_17_1, u_17_4, u_17_5, u_17_6, u_17_9, u_17_12, u_17_13, u_17_16, u_17_19, u_17_20, u_17_23, u_17_24, u_17_27, u_17_30, u_17_31, u_17_32, u_17_34, u_17_35, u_17_36, u_17_37, u_17_38, u_17_39, u_17_42, u_17_43, u_17_46, u_17_47, u_17_49, u_17_51, u_17_52, u_17_55, u_17_58, u_17_59, u_17_62, u_17_64, u_17_65, u_17_66, u_17_69, u_17_70, u_17_73, u_17_76, u_17_77, u_17_80, u_17_81, u_17_84, u_17_85, u_17_88, u_17_89, u_17_90, u_17_93, u_17_94, u_17_95, u_17_98, u_17_99, u_17_102, u_17_105, u_17_106, u_17_109, u_17_110, u_17_113, u_17_114, u_17_115, u_17_116, u_17_117, u_17_120, u_17_121, u_17_122, u_17_125, u_17_126, u_17_129, u_17_130, u_17_133, u_17_134, u_17_135, u_17_136, u_17_137, u_17_138, u_17_139, u_17_140, u_17_141, u_17_144, u_17_145, u_17_146, u_17_149, u_17_150, u_17_153, u_17_154, u_17_157, u_17_158, u_17_161, u_17_162, u_17_163, u_17_164, u_17_166, u_17_167, u_17_168, u_17_169, u_17_170, u_17_171, wp_stop, lget, lput1, lput2, kil, hget, hset, vget, vset, fget, fgetC, fput, fputC, iget, igetC, jget, jgetC, qget, qgetC, alen, lenC, oI, oJ, oF, oA, oV, oH, oInc, oIld, oJld, oQld, oR, oLen, oIst, oBst, oJst, oQst, ciOf, rcv, oCp, cat1, cond_true, cond_false, Bool.and_self, Bool.and_true, Bool.true_and, Bool.or_true, Bool.true_or, Bool.or_false, Bool.false_or, Bool.not_false, Bool.not_true, ↓reduceIte, Nat.reduceBEq, Nat.reduceEqDiff, beq_self_eq_true, true_and, and_true, eq_self_iff_true, Nat.reduceAdd, Nat.blt, Nat.ble, z_le, z_lt, z_eq, z_cl, z_add, z_sub, z_mul, z_in, z_lt0, z_ofN, z_m1, z_ltm1, z_m1lt, z_eqm1, z_m1eq, z_m1le, z_lem1, z_beq, nI_0_1, nI_m1lt0, nI_0lem1, not_false_eq_true, not_true_eq_false, forall_const, false_implies, true_implies, implies_true, false_and, and_false, mrg, renc, tra, trv, sg, List.map_cons, List.map_nil, Option.map_some, Option.map_none, Option.toList_some, Option.toList_none, List.cons_append, List.nil_append, List.length_cons, List.length_nil, pH, pO, t1, e1, t2]
      refine ih (j + 1) (by omega) (fun x hx hx2 => ?_)
      rcases Nat.lt_or_ge x j with z | z
      · exact hno x hx z
      · have : x = j := by omega
        subst this; exact hq
set_option maxRecDepth 100000 in
theorem c_keepMove (d : Nat) (S l s t a c nm N : Nat) (root sorts : Int32) (kd sa la sp sh tr mo ms me : Nat → Int32) (L : List (Nat × Nat)) (hs : s < 8) (ht : t < S) (hS : S ≤ 256) (hl : l < S) (hN : S ≤ N) (hN2 : N < 2 ^ 20) (hms : ms l = nI a) (hc : c = a + L.length) (hcn : c ≤ nm) (hnm : nm < 2 ^ 22) (hnm0 : 0 < nm) (hmo : mvOk mo a L) :
    aSp (d + 2) 17 [.ref 0, .int (nI s), .int (nI t)] (pH root (nI S) sorts (nI c) (nI l) kd sa la sp sh N tr nm mo N ms N me) mvP (kN L c nm (s, t) - nm) (2 * (kN L c nm (s, t) - nm))
      (fun r h' => r = none ∧ (((s, t) ∈ L ∧ h' = pH root (nI S) sorts (nI c) (nI l) kd sa la sp sh N tr nm mo N ms N me) ∨ ((s, t) ∉ L ∧ ∃ mo', h' = pH root (nI S) sorts (nI (c + 1)) (nI l) kd sa la sp sh N (kT tr l s t) (kN L c nm (s, t)) mo' N ms N me ∧ (∀ j, j < c → mo' j = mo j) ∧ mo' c = nI (s * 256 + t)))) := by
  refine sp_of (by decide) (Nat.le_of_ble_eq_true rfl) ?_
  generalize hG : ((d + 2, _, mvP, _, _, _) : aG) = G
  have hgd : gD G = d + 2 := by subst hG; rfl
  have hgn : gN G = 10 := by subst hG; rfl
  have hgm : gM G = mvP := by subst hG; rfl
  have hgc : gC G = kN L c nm (s, t) - nm := by subst hG; rfl
  have hgs : gS G = 2 * (kN L c nm (s, t) - nm) := by subst hG; rfl
  have hgp : gP G = (fun r h' => r = none ∧ (((s, t) ∈ L ∧ h' = pH root (nI S) sorts (nI c) (nI l) kd sa la sp sh N tr nm mo N ms N me) ∨ ((s, t) ∉ L ∧ ∃ mo', h' = pH root (nI S) sorts (nI (c + 1)) (nI l) kd sa la sp sh N (kT tr l s t) (kN L c nm (s, t)) mo' N ms N me ∧ (∀ j, j < c → mo' j = mo j) ∧ mo' c = nI (s * 256 + t)))) := by subst hG; rfl
  clear hG
  have t1 : ¬ t < 0 := by omega
  have t2 : ¬ S ≤ t := by omega
  have t3 : ¬ l < 0 := by omega
  have t4 : l < S := hl
  have hcode := kcode s hs t (by omega)
  refine wp_aw (S := fun x => x == 49 || x == 76) (by decide) 200 _ _ _ _ _ _ ?_
  simp (disch := first | exact rfl | decide | omega) only [u_17_0, u_17_1, u_17_4, u_17_5, u_17_6, u_17_9, u_17_12, u_17_13, u_17_16, u_17_19, u_17_20, u_17_23, u_17_24, u_17_27, u_17_30, u_17_31, u_17_32, u_17_34, u_17_35, u_17_36, u_17_37, u_17_38, u_17_39, u_17_42, u_17_43, u_17_46, u_17_47, u_17_49, u_17_51, u_17_52, u_17_55, u_17_58, u_17_59, u_17_62, u_17_64, u_17_65, u_17_66, u_17_69, u_17_70, u_17_73, u_17_76, u_17_77, u_17_80, u_17_81, u_17_84, u_17_85, u_17_88, u_17_89, u_17_90, u_17_93, u_17_94, u_17_95, u_17_98, u_17_99, u_17_102, u_17_105, u_17_106, u_17_109, u_17_110, u_17_113, u_17_114, u_17_115, u_17_116, u_17_117, u_17_120, u_17_121, u_17_122, u_17_125, u_17_126, u_17_129, u_17_130, u_17_133, u_17_134, u_17_135, u_17_136, u_17_137, u_17_138, u_17_139, u_17_140, u_17_141, u_17_144, u_17_145, u_17_146, u_17_149, u_17_150, u_17_153, u_17_154, u_17_157, u_17_158, u_17_161, u_17_162, u_17_163, u_17_164, u_17_166, u_17_167, u_17_168, u_17_169, u_17_170, u_17_171, wp_stop, lget, lput1, lput2, kil, hget, hset, vget, vset, fget, fgetC, fput, fputC, iget, igetC, jget, jgetC, qget, qgetC, alen, lenC, oI, oJ, oF, oA, oV, oH, oInc, oIld, oJld, oQld, oR, oLen, oIst, oBst, oJst, oQst, ciOf, rcv, oCp, cat1, cond_true, cond_false, Bool.and_self, Bool.and_true, Bool.true_and, Bool.or_true, Bool.true_or, Bool.or_false, Bool.false_or, Bool.not_false, Bool.not_true, ↓reduceIte, Nat.reduceBEq, Nat.reduceEqDiff, beq_self_eq_true, true_and, and_true, eq_self_iff_true, Nat.reduceAdd, Nat.blt, Nat.ble, z_le, z_lt, z_eq, z_cl, z_add, z_sub, z_mul, z_in, z_lt0, z_ofN, z_m1, z_ltm1, z_m1lt, z_eqm1, z_m1eq, z_m1le, z_lem1, z_beq, nI_0_1, nI_m1lt0, nI_0lem1, not_false_eq_true, not_true_eq_false, forall_const, false_implies, true_implies, implies_true, false_and, and_false, mrg, renc, tra, trv, sg, List.map_cons, List.map_nil, Option.map_some, Option.map_none, Option.toList_some, Option.toList_none, List.cons_append, List.nil_append, List.length_cons, List.length_nil, eL, mL_17, pH, pO, t1, t2, t3, t4, hcode, hms]
  refine l_keep S l s t a c nm N root sorts kd sa la sp sh tr mo ms me L hs ht hS hl hN hN2 hms hc hcn hnm hmo (fun q => RET.id (by rw [hgp]; exact ⟨rfl, Or.inl ⟨q, rfl⟩⟩) (Nat.zero_le _) (Nat.zero_le _)) (fun q => ?_) L.length 0 (by omega) (fun x hx z => absurd z (by omega))
  -- a new move
  have hlt : l < N := by omega
  have htN : t < N := by omega
  by_cases hgr : c < nm
  · have hk : kN L c nm (s, t) = nm := by simp only [kN, if_neg q, if_pos hgr]
    refine wp_aw (S := fun x => x == 49) (by decide) 200 _ _ _ _ _ _ ?_
    simp (disch := first | exact rfl | decide | omega) only [u_17_0, u_17_1, u_17_4, u_17_5, u_17_6, u_17_9, u_17_12, u_17_13, u_17_16, u_17_19, u_17_20, u_17_23, u_17_24, u_17_27, u_17_30, u_17_31, u_17_32, u_17_34, u_17_35, u_17_36, u_17_37, u_17_38, u_17_39, u_17_42, u_17_43, u_17_46, u_17_47, u_17_49, u_17_51, u_17_52, u_17_55, u_17_58, u_17_59, u_17_62, u_17_64, u_17_65, u_17_66, u_17_69, u_17_70, u_17_73, u_17_76, u_17_77, u_17_80, u_17_81, u_17_84, u_17_85, u_17_88, u_17_89, u_17_90, u_17_93, u_17_94, u_17_95, u_17_98, u_17_99, u_17_102, u_17_105, u_17_106, u_17_109, u_17_110, u_17_113, u_17_114, u_17_115, u_17_116, u_17_117, u_17_120, u_17_121, u_17_122, u_17_125, u_17_126, u_17_129, u_17_130, u_17_133, u_17_134, u_17_135, u_17_136, u_17_137, u_17_138, u_17_139, u_17_140, u_17_141, u_17_144, u_17_145, u_17_146, u_17_149, u_17_150, u_17_153, u_17_154, u_17_157, u_17_158, u_17_161, u_17_162, u_17_163, u_17_164, u_17_166, u_17_167, u_17_168, u_17_169, u_17_170, u_17_171, wp_stop, lget, lput1, lput2, kil, hget, hset, vget, vset, fget, fgetC, fput, fputC, iget, igetC, jget, jgetC, qget, qgetC, alen, lenC, oI, oJ, oF, oA, oV, oH, oInc, oIld, oJld, oQld, oR, oLen, oIst, oBst, oJst, oQst, ciOf, rcv, oCp, cat1, cond_true, cond_false, Bool.and_self, Bool.and_true, Bool.true_and, Bool.or_true, Bool.true_or, Bool.or_false, Bool.false_or, Bool.not_false, Bool.not_true, ↓reduceIte, Nat.reduceBEq, Nat.reduceEqDiff, beq_self_eq_true, true_and, and_true, eq_self_iff_true, Nat.reduceAdd, Nat.blt, Nat.ble, z_le, z_lt, z_eq, z_cl, z_add, z_sub, z_mul, z_in, z_lt0, z_ofN, z_m1, z_ltm1, z_m1lt, z_eqm1, z_m1eq, z_m1le, z_lem1, z_beq, nI_0_1, nI_m1lt0, nI_0lem1, not_false_eq_true, not_true_eq_false, forall_const, false_implies, true_implies, implies_true, false_and, and_false, mrg, renc, tra, trv, sg, List.map_cons, List.map_nil, Option.map_some, Option.map_none, Option.toList_some, Option.toList_none, List.cons_append, List.nil_append, List.length_cons, List.length_nil, pH, pO, hgr]
    rw [hk] at hgp
    by_cases hz : upd tr l (tr l ||| nI 1 <<< (nI s &&& 31)) t &&& nI 256 = nI 0
    · rw [if_pos hz]
      have hkt := show kT tr l s t = _ from if_pos hz
      refine RET.id ?_ (Nat.zero_le _) (Nat.zero_le _)
      rw [hgp]
      exact ⟨rfl, Or.inr ⟨q, upd mo c (nI (s * 256 + t)), by rw [hkt], fun j hj => upd_n (by omega), upd_s⟩⟩
    · rw [if_neg hz]
      have hkt := show kT tr l s t = _ from if_neg hz
      refine RET.id ?_ (Nat.zero_le _) (Nat.zero_le _)
      rw [hgp]
      exact ⟨rfl, Or.inr ⟨q, upd mo c (nI (s * 256 + t)), by rw [hkt], fun j hj => upd_n (by omega), upd_s⟩⟩
  · have hk : kN L c nm (s, t) = 2 * nm := by simp only [kN, if_neg q, if_neg hgr]
    rw [hk] at hgc hgs hgp
    have hcnm : c = nm := by omega
    refine wp_aw (S := fun x => x == 49) (by decide) 200 _ _ _ _ _ _ ?_
    simp (disch := first | exact rfl | decide | omega) only [u_17_0, u_17_1, u_17_4, u_17_5, u_17_6, u_17_9, u_17_12, u_17_13, u_17_16, u_17_19, u_17_20, u_17_23, u_17_24, u_17_27, u_17_30, u_17_31, u_17_32, u_17_34, u_17_35, u_17_36, u_17_37, u_17_38, u_17_39, u_17_42, u_17_43, u_17_46, u_17_47, u_17_49, u_17_51, u_17_52, u_17_55, u_17_58, u_17_59, u_17_62, u_17_64, u_17_65, u_17_66, u_17_69, u_17_70, u_17_73, u_17_76, u_17_77, u_17_80, u_17_81, u_17_84, u_17_85, u_17_88, u_17_89, u_17_90, u_17_93, u_17_94, u_17_95, u_17_98, u_17_99, u_17_102, u_17_105, u_17_106, u_17_109, u_17_110, u_17_113, u_17_114, u_17_115, u_17_116, u_17_117, u_17_120, u_17_121, u_17_122, u_17_125, u_17_126, u_17_129, u_17_130, u_17_133, u_17_134, u_17_135, u_17_136, u_17_137, u_17_138, u_17_139, u_17_140, u_17_141, u_17_144, u_17_145, u_17_146, u_17_149, u_17_150, u_17_153, u_17_154, u_17_157, u_17_158, u_17_161, u_17_162, u_17_163, u_17_164, u_17_166, u_17_167, u_17_168, u_17_169, u_17_170, u_17_171, wp_stop, lget, lput1, lput2, kil, hget, hset, vget, vset, fget, fgetC, fput, fputC, iget, igetC, jget, jgetC, qget, qgetC, alen, lenC, oI, oJ, oF, oA, oV, oH, oInc, oIld, oJld, oQld, oR, oLen, oIst, oBst, oJst, oQst, ciOf, rcv, oCp, cat1, cond_true, cond_false, Bool.and_self, Bool.and_true, Bool.true_and, Bool.or_true, Bool.true_or, Bool.or_false, Bool.false_or, Bool.not_false, Bool.not_true, ↓reduceIte, Nat.reduceBEq, Nat.reduceEqDiff, beq_self_eq_true, true_and, and_true, eq_self_iff_true, Nat.reduceAdd, Nat.blt, Nat.ble, z_le, z_lt, z_eq, z_cl, z_add, z_sub, z_mul, z_in, z_lt0, z_ofN, z_m1, z_ltm1, z_m1lt, z_eqm1, z_m1eq, z_m1le, z_lem1, z_beq, nI_0_1, nI_m1lt0, nI_0lem1, not_false_eq_true, not_true_eq_false, forall_const, false_implies, true_implies, implies_true, false_and, and_false, mrg, renc, tra, trv, sg, List.map_cons, List.map_nil, Option.map_some, Option.map_none, Option.toList_some, Option.toList_none, List.cons_append, List.nil_append, List.length_cons, List.length_nil, pH, pO, hgr]
    refine CAL.nm (c_copyOfI d nm (2 * c) mo (by omega) (by omega) (by omega)) [7] rfl rfl rfl (by decide) rfl ?_ (by rw [hgd]; omega) (by rw [hgc]; omega) (by rw [hgs]; omega) (Nat.le_of_ble_eq_true rfl) (by rw [hgn]; exact Nat.le_refl _) rfl rfl ?_
    · rintro r hc' ⟨-, g, rfl, -⟩
      exact Nat.le_of_ble_eq_true rfl
    rintro _ _ ⟨rfl, g, rfl, hg⟩
    have hcm : c < 2 * c := by omega
    simp (disch := first | exact rfl | decide | omega) only [u_17_0, u_17_1, u_17_4, u_17_5, u_17_6, u_17_9, u_17_12, u_17_13, u_17_16, u_17_19, u_17_20, u_17_23, u_17_24, u_17_27, u_17_30, u_17_31, u_17_32, u_17_34, u_17_35, u_17_36, u_17_37, u_17_38, u_17_39, u_17_42, u_17_43, u_17_46, u_17_47, u_17_49, u_17_51, u_17_52, u_17_55, u_17_58, u_17_59, u_17_62, u_17_64, u_17_65, u_17_66, u_17_69, u_17_70, u_17_73, u_17_76, u_17_77, u_17_80, u_17_81, u_17_84, u_17_85, u_17_88, u_17_89, u_17_90, u_17_93, u_17_94, u_17_95, u_17_98, u_17_99, u_17_102, u_17_105, u_17_106, u_17_109, u_17_110, u_17_113, u_17_114, u_17_115, u_17_116, u_17_117, u_17_120, u_17_121, u_17_122, u_17_125, u_17_126, u_17_129, u_17_130, u_17_133, u_17_134, u_17_135, u_17_136, u_17_137, u_17_138, u_17_139, u_17_140, u_17_141, u_17_144, u_17_145, u_17_146, u_17_149, u_17_150, u_17_153, u_17_154, u_17_157, u_17_158, u_17_161, u_17_162, u_17_163, u_17_164, u_17_166, u_17_167, u_17_168, u_17_169, u_17_170, u_17_171, wp_stop, lget, lput1, lput2, kil, hget, hset, vget, vset, fget, fgetC, fput, fputC, iget, igetC, jget, jgetC, qget, qgetC, alen, lenC, oI, oJ, oF, oA, oV, oH, oInc, oIld, oJld, oQld, oR, oLen, oIst, oBst, oJst, oQst, ciOf, rcv, oCp, cat1, cond_true, cond_false, Bool.and_self, Bool.and_true, Bool.true_and, Bool.or_true, Bool.true_or, Bool.or_false, Bool.false_or, Bool.not_false, Bool.not_true, ↓reduceIte, Nat.reduceBEq, Nat.reduceEqDiff, beq_self_eq_true, true_and, and_true, eq_self_iff_true, Nat.reduceAdd, Nat.blt, Nat.ble, z_le, z_lt, z_eq, z_cl, z_add, z_sub, z_mul, z_in, z_lt0, z_ofN, z_m1, z_ltm1, z_m1lt, z_eqm1, z_m1eq, z_m1le, z_lem1, z_beq, nI_0_1, nI_m1lt0, nI_0lem1, not_false_eq_true, not_true_eq_false, forall_const, false_implies, true_implies, implies_true, false_and, and_false, mrg, renc, tra, trv, sg, List.map_cons, List.map_nil, Option.map_some, Option.map_none, Option.toList_some, Option.toList_none, List.cons_append, List.nil_append, List.length_cons, List.length_nil, pH, pO]
    have hold : ∀ j, j < c → g j = mo j := fun j hj => by rw [hg j (by omega), if_pos (by omega)]
    have hfx : ∀ j, j < gN G → gM G j = false → tau7 j = j := fun j _ h2 => by
      rw [hgm] at h2
      simp only [tau7, if_neg (mvP_no h2).2.1]
    by_cases hz : upd tr l (tr l ||| nI 1 <<< (nI s &&& 31)) t &&& nI 256 = nI 0
    · rw [if_pos hz]
      refine RET.ren tau7 (pH root (nI S) sorts (nI (c + 1)) (nI l) kd sa la sp sh N (kT tr l s t) (2 * c) (upd g c (nI (s * 256 + t))) N ms N me) none ?_ (show ((List.range 10).map tau7).Nodup by decide) hfx rfl (by rw [hgp, ← hcnm]; exact ⟨rfl, Or.inr ⟨q, _, rfl, fun j hj => by rw [upd_n (by omega)]; exact hold j hj, upd_s⟩⟩) (by rw [hgc]; omega) (by rw [hgs]; omega)
      simp only [kT, if_pos hz]
      rfl
    · rw [if_neg hz]
      refine RET.ren tau7 (pH root (nI S) sorts (nI (c + 1)) (nI l) kd sa la sp sh N (kT tr l s t) (2 * c) (upd g c (nI (s * 256 + t))) N ms N me) none ?_ (show ((List.range 10).map tau7).Nodup by decide) hfx rfl (by rw [hgp, ← hcnm]; exact ⟨rfl, Or.inr ⟨q, _, rfl, fun j hj => by rw [upd_n (by omega)]; exact hold j hj, upd_s⟩⟩) (by rw [hgc]; omega) (by rw [hgs]; omega)
      simp only [kT, if_neg hz]
      rfl
