/-! ResidualJudgeModel.takesOrder -/
theorem rdT_keep {σ σ' : rS} {c : Nat} (h1 : 1 ≤ σ.ph) (h3 : σ.ph ≤ 3) (h : rdT σ c = some σ') : (¬ σ'.ph = 0 → σ'.own = σ.own ∧ σ'.Gr = σ.Gr ∧ σ'.ord = σ.ord ∧ 1 ≤ σ'.ph) ∧ (σ'.ph = 0 → σ'.Gr = updG σ.Gr σ.own σ'.L ∧ σ'.ord = σ.ord + 1) := by
  unfold rdT at h
  rw [if_neg (by omega)] at h
  by_cases q1 : σ.ph = 1
  · rw [if_pos q1] at h
    split at h
    · rw [← Option.some.inj h]
      exact ⟨fun _ => ⟨rfl, rfl, rfl, Nat.succ_le_succ (Nat.zero_le _)⟩, fun w => absurd w (Nat.succ_ne_zero _)⟩
    · simp at h
  · rw [if_neg q1] at h
    have hN : ∀ k, rdN σ k = some σ' → σ'.own = σ.own ∧ σ'.Gr = σ.Gr ∧ σ'.ord = σ.ord ∧ σ'.ph = 3 := fun k hk => by
      unfold rdN at hk
      split at hk
      · rw [← Option.some.inj hk]
        exact ⟨rfl, rfl, rfl, rfl⟩
      · simp at hk
    have hB : ∀ k, rdB σ k = some σ' → σ'.own = σ.own ∧ σ'.Gr = σ.Gr ∧ σ'.ord = σ.ord ∧ σ'.ph = 2 := fun k hk => by
      unfold rdB at hk
      split at hk
      · rw [← Option.some.inj hk]
        exact ⟨rfl, rfl, rfl, rfl⟩
      · simp at hk
    have key : ∀ v, v ≠ 0 → (σ'.own = σ.own ∧ σ'.Gr = σ.Gr ∧ σ'.ord = σ.ord ∧ σ'.ph = v) → (¬ σ'.ph = 0 → σ'.own = σ.own ∧ σ'.Gr = σ.Gr ∧ σ'.ord = σ.ord ∧ 1 ≤ σ'.ph) ∧ (σ'.ph = 0 → σ'.Gr = updG σ.Gr σ.own σ'.L ∧ σ'.ord = σ.ord + 1) := fun v hv hk => ⟨fun _ => ⟨hk.1, hk.2.1, hk.2.2.1, by have := hk.2.2.2; omega⟩, fun w => by have := hk.2.2.2; omega⟩
    by_cases q2 : σ.ph = 2
    · rw [if_pos q2] at h
      unfold rdU at h
      split at h
      · split at h
        · rw [← Option.some.inj h]
          exact ⟨fun _ => ⟨rfl, rfl, rfl, Nat.succ_le_succ (Nat.zero_le _)⟩, fun w => absurd w (Nat.succ_ne_zero _)⟩
        · simp at h
      · split at h
        · exact key 3 (by decide) (hN _ h)
        · split at h
          · exact key 3 (by decide) (hN _ h)
          · simp at h
    · rw [if_neg q2] at h
      cases hob : opB c with
      | some k =>
        rw [(rdH_op (σ := σ) hob).1] at h
        split at h
        · exact key 3 (by decide) (hN _ h)
        · exact key 2 (by decide) (hB _ h)
      | none =>
        rw [rdH_no (σ := σ) hob] at h
        split at h
        · unfold rdC at h
          split at h
          · rw [← Option.some.inj h]
            exact ⟨fun _ => ⟨rfl, rfl, rfl, Nat.succ_le_succ (Nat.zero_le _)⟩, fun w => absurd w (Nat.succ_ne_zero _)⟩
          · simp at h
        · split at h
          · unfold rdE at h
            split at h
            · rw [← Option.some.inj h]
              exact ⟨fun w => absurd rfl w, fun _ => ⟨rfl, rfl⟩⟩
            · simp at h
          · simp at h
theorem ordF_gr : ∀ (cs : List Nat) (i : Nat) {σ σ' : rS} {cs' : List Nat} {k : Nat}, 1 ≤ σ.ph → rdI σ → σ.ord + cs.length + 1 < 2 ^ 20 → ordF σ cs i = .inr (σ', cs', k) → σ'.Gr = updG σ.Gr σ.own σ'.L ∧ σ'.ord = σ.ord + 1
  | [], _, _, _, _, _, _, _, _, h => by simp [ordF] at h
  | c :: cs, i, σ, σ', cs', k, h1, hI, ho, h => by
    rw [List.length_cons] at ho
    by_cases q : c = 32
    · have : ordF σ (c :: cs) i = ordF σ cs (i + 1) := if_pos q
      rw [this] at h
      exact ordF_gr cs (i + 1) h1 hI (by omega) h
    · rw [ordF_c _ _ _ _ q] at h
      cases e : rdT σ c with
      | none => rw [e] at h; simp at h
      | some τ =>
        rw [e] at h
        obtain ⟨k1, k2⟩ := rdT_keep h1 hI.1 e
        have hs := rdI_s hI (by omega) e
        have h2 : (if τ.ph = 0 then Sum.inr (τ, cs, i + 1) else ordF τ cs (i + 1)) = .inr (σ', cs', k) := h
        by_cases z : τ.ph = 0
        · rw [if_pos z] at h2
          have := Sum.inr.inj h2
          rw [← (Prod.mk.inj this).1]
          exact k2 z
        · rw [if_neg z] at h2
          obtain ⟨a1, a2, a3, a4⟩ := k1 z
          have := ordF_gr cs (i + 1) a4 hs.1 (by omega) h2
          rw [a1, a2, a3] at this
          exact this
/-- behind one order -/
theorem ordF_st {T : List Nat} : ∀ (cs : List Nat) (i : Nat) {σ σ' : rS} {cs' : List Nat} {k : Nat}, T.drop i = cs → i ≤ T.length → rdI σ → σ.ord + cs.length + 1 < 2 ^ 20 → ordF σ cs i = .inr (σ', cs', k) → T.drop k = cs' ∧ k ≤ T.length ∧ i < k ∧ rdI σ' ∧ σ'.ph = 0 ∧ rdL σ cs i = rdL σ' cs' k ∧ σ'.ord + cs'.length ≤ σ.ord + cs.length ∧ cs'.length < cs.length
  | [], _, _, _, _, _, _, _, _, _, h => by simp [ordF] at h
  | c :: cs, i, σ, σ', cs', k, hd, hi, hI, ho, h => by
    obtain ⟨d1, d2, d3⟩ := drop_get hd
    rw [List.length_cons] at ho ⊢
    by_cases q : c = 32
    · have e1 : ordF σ (c :: cs) i = ordF σ cs (i + 1) := if_pos q
      have e2 : rdL σ (c :: cs) i = rdL σ cs (i + 1) := if_pos q
      rw [e1] at h
      rw [e2]
      obtain ⟨a1, a2, a3, a4, a5, a6, a7, a8⟩ := ordF_st cs (i + 1) d2 (by omega) hI (by omega) h
      exact ⟨a1, a2, by omega, a4, a5, a6, by omega, by omega⟩
    · rw [ordF_c _ _ _ _ q] at h
      have e2 : rdL σ (c :: cs) i = match rdT σ c with | none => .inl i | some σ' => rdL σ' cs (i + 1) := if_neg q
      rw [e2]
      cases e : rdT σ c with
      | none => rw [e] at h; simp at h
      | some τ =>
        rw [e] at h
        have hs := rdI_s hI (by omega) e
        have h2 : (if τ.ph = 0 then Sum.inr (τ, cs, i + 1) else ordF τ cs (i + 1)) = .inr (σ', cs', k) := h
        show _ ∧ _ ∧ _ ∧ _ ∧ _ ∧ rdL τ cs (i + 1) = _ ∧ _ ∧ _
        by_cases z : τ.ph = 0
        · rw [if_pos z] at h2
          obtain ⟨b1, b2⟩ := Prod.mk.inj (Sum.inr.inj h2)
          obtain ⟨b3, b4⟩ := Prod.mk.inj b2
          subst b1 b3 b4
          exact ⟨d2, by omega, by omega, hs.1, z, rfl, by omega, by omega⟩
        · rw [if_neg z] at h2
          obtain ⟨a1, a2, a3, a4, a5, a6, a7, a8⟩ := ordF_st cs (i + 1) d2 (by omega) hs.1 (by omega) h2
          exact ⟨a1, a2, by omega, a4, a5, a6, by omega, by omega⟩
theorem ordF_bad : ∀ (cs : List Nat) (i : Nat) {σ : rS} {j len : Nat}, i + cs.length = len → (¬ σ.ph = 0 ∨ σ.ord = 0 ∨ ¬ (skF cs i).1 = []) → ordF σ cs i = .inl j → rdW (rdL σ cs i) len = some j
  | [], i, σ, j, len, hl, hc, h => by
    have e : i = j := Sum.inl.inj h
    show (if σ.ph = 0 ∧ 0 < σ.ord then none else some len) = _
    have : ¬ (σ.ph = 0 ∧ 0 < σ.ord) := by
      rintro ⟨w1, w2⟩
      rcases hc with c | c | c
      · exact c w1
      · omega
      · exact c rfl
    rw [if_neg this, ← e, ← hl]
    rfl
  | c :: cs, i, σ, j, len, hl, hc, h => by
    rw [List.length_cons] at hl
    by_cases q : c = 32
    · have e1 : ordF σ (c :: cs) i = ordF σ cs (i + 1) := if_pos q
      have e2 : rdL σ (c :: cs) i = rdL σ cs (i + 1) := if_pos q
      have e3 : skF (c :: cs) i = skF cs (i + 1) := if_pos q
      rw [e1] at h
      rw [e3] at hc
      rw [e2]
      exact ordF_bad cs (i + 1) (by omega) hc h
    · rw [ordF_c _ _ _ _ q] at h
      have e2 : rdL σ (c :: cs) i = match rdT σ c with | none => .inl i | some σ' => rdL σ' cs (i + 1) := if_neg q
      rw [e2]
      cases e : rdT σ c with
      | none =>
        rw [e] at h
        have : i = j := Sum.inl.inj h
        rw [← this]
        rfl
      | some τ =>
        rw [e] at h
        have h2 : (if τ.ph = 0 then Sum.inr (τ, cs, i + 1) else ordF τ cs (i + 1)) = .inl j := h
        show rdW (rdL τ cs (i + 1)) len = _
        by_cases z : τ.ph = 0
        · rw [if_pos z] at h2
          simp at h2
        · rw [if_neg z] at h2
          exact ordF_bad cs (i + 1) (by omega) (Or.inl z) h2
/-- a pattern's nodes as they stand among the model's patterns -/
def paL (g : Nat → Int32) (x : Nat) (L : List Nat) : Prop := ∃ lf, paR g x (kL L) lf L.length ∧ wfP (kL L) lf L.length
def cpG (gal gal' gmd : Nat → Int32) (x : Nat) : Prop := (∀ k, k < 49 → gal' (49 * x + k) = gmd k) ∧ ∀ k, (k < 49 * x ∨ 49 * x + 49 ≤ k) → gal' k = gal k
theorem paL_cp {gal gal' gmd : Nat → Int32} {x : Nat} {L : List Nat} (hc : cpG gal gal' gmd x) (h : mdO gmd L) : paL gal' x L := by
  obtain ⟨lf, m1, m2, m3⟩ := h
  have h16 := m3.2.1
  refine ⟨lf, ⟨?_, fun i hi => ?_⟩, m3⟩
  · have := hc.1 0 (by decide)
    rw [Nat.add_zero] at this
    rw [this]; exact m1
  · obtain ⟨a, b, c⟩ := m2 i hi
    have e1 := hc.1 (1 + 3 * i) (by omega)
    have e2 := hc.1 (2 + 3 * i) (by omega)
    have e3 := hc.1 (3 + 3 * i) (by omega)
    rw [← Nat.add_assoc] at e1 e2 e3
    exact ⟨e1.trans a, e2.trans b, e3.trans c⟩
theorem paL_ot {gal gal' gmd : Nat → Int32} {x y : Nat} {L : List Nat} (hc : cpG gal gal' gmd x) (hy : y ≠ x) (h : paL gal y L) : paL gal' y L := by
  obtain ⟨lf, ⟨p1, p2⟩, p3⟩ := h
  have h16 := p3.2.1
  have hr : ∀ k, k < 49 → gal' (49 * y + k) = gal (49 * y + k) := fun k hk => hc.2 _ (by omega)
  refine ⟨lf, ⟨?_, fun i hi => ?_⟩, p3⟩
  · have := hr 0 (by decide)
    rw [Nat.add_zero] at this
    rw [this]; exact p1
  · obtain ⟨a, b, c⟩ := p2 i hi
    have e1 := hr (1 + 3 * i) (by omega)
    have e2 := hr (2 + 3 * i) (by omega)
    have e3 := hr (3 + 3 * i) (by omega)
    rw [← Nat.add_assoc] at e1 e2 e3
    exact ⟨e1.trans a, e2.trans b, e3.trans c⟩
section GM
variable (gal : Nat → Int32) (gps : Nat → Int32) (gst : Int32) (grf : Nat → Int32) (gmy : Int32) (gkd : Nat → Int32) (glf : Nat → Int32) (grt : Nat → Int32) (gpr : Nat → Int32) (gun : Nat → Int32) (gow : Nat → Int32) (gem : Nat → Int32) (ged : Nat → Int32) (gse : Nat → Int32) (gsz : Nat → Int32) (gtx : Nat → Int32) (gtl : Int32) (gsp : Int32) (gmd : Nat → Int32) (gop : Nat → Int32) (gom : Int32) (gwt : Nat → Int32) (gwm : Int32) (gtn : Int32) (gon : Int32) (gsh : Nat → Int32) (gtr : Nat → Int32) (gbl : Int32) (gbd : Int32) (gwh : Nat → Int32) (gfl : Int32) (gfd : Int32) (gfe : Int32)
/-- what a reading of one pattern ends with -/
def tpP (T : List Nat) (q : Nat ⊕ (rS × List Nat × Nat)) (r : Option Value) (h' : aH) : Prop := ∃ gsp gmd gop gom gwt gwm gtn gon, h' = (gH gal gps gst grf gmy gkd glf grt gpr gun gow gem ged gse gsz gtx (nI T.length) gsp gmd gop gom gwt gwm gtn gon gsh gtr gbl gbd gwh gfl gfd gfe) ∧ (∀ j, q = .inl j → r = some (.int (nI 0)) ∧ gsp = nI j) ∧ (∀ σ' cs' k, q = .inr (σ', cs', k + 1) → r = some (.int (nI 1)) ∧ gsp = nI k ∧ mdO gmd σ'.L)
set_option maxRecDepth 100000 in
theorem g_takesPattern (d i : Nat) (T cs : List Nat) (hT : txR gtx T) (hl : T.length ≤ 150) (hcs : T.drop i = cs) (hi : i ≤ T.length) (ow od : Nat) (Gr : Nat → List Nat) (how : ow < 9) (hod : od + cs.length + 1 < 2 ^ 20) :
    aSp (d + 3) 110 [.ref 0] (gH gal gps gst grf gmy gkd glf grt gpr gun gow gem ged gse gsz gtx (nI T.length) (nI i) gmd gop gom gwt gwm gtn gon gsh gtr gbl gbd gwh gfl gfd gfe) nomv 0 0 (tpP gal gps gst grf gmy gkd glf grt gpr gun gow gem ged gse gsz gtx gsh gtr gbl gbd gwh gfl gfd gfe T (ordF (2, ow, [], 0, 0, [], Gr, od) cs i)) := by
  refine sp_of (by decide) (Nat.le_of_ble_eq_true rfl) ?_
  generalize hG : ((d + 3, _, nomv, _, _, _) : aG) = G
  have ggd : gD G = d + 3 := by subst hG; rfl
  have ggn : gN G = 21 := by subst hG; rfl
  have ggm : gM G = nomv := by subst hG; rfl
  have ggc : gC G = 0 := by subst hG; rfl
  have ggs : gS G = 0 := by subst hG; rfl
  have hgp : gP G = tpP gal gps gst grf gmy gkd glf grt gpr gun gow gem ged gse gsz gtx gsh gtr gbl gbd gwh gfl gfd gfe T (ordF (2, ow, [], 0, 0, [], Gr, od) cs i) := by subst hG; rfl
  clear hG
  have hI : rdI (2, ow, [], 0, 0, [], Gr, od) := ⟨by show 2 ≤ 3; decide, by show od < 2 ^ 20; omega, fun _ => ⟨how, Nat.zero_le _, Nat.zero_le _, rfl, rfl, fun y hy => absurd hy List.not_mem_nil, fun y hy => absurd hy List.not_mem_nil, fun w => absurd w (show ¬ 2 = 3 by decide)⟩⟩
  have hp : ppI (2, ow, [], 0, 0, [], Gr, od) (upd gmd 0 (nI 0)) gop (nI 0) gwt (nI 0) (nI 0) (nI 0) := ⟨⟨fun _ => 0, [], upd_s, fun j hj => absurd hj (Nat.not_lt_zero j), trivial, rfl, trivial, rfl, fun j hj => absurd hj (Nat.not_lt_zero j), rfl, rfl⟩, rfl, rfl, fun y hy => absurd hy List.not_mem_nil⟩
  have hgo := l_pattern gal gps gst grf gmy gkd glf grt gpr gun gow gem ged gse gsz gtx gsh gtr gbl gbd gwh gfl gfd gfe (G := G) T hT hl (by rw [ggd]; omega) ggn (ordF (2, ow, [], 0, 0, [], Gr, od) cs i) (fun j gmd gop gom gwt gwm gtn gon e => by
    refine RET.id ?_ (Nat.zero_le _) (Nat.zero_le _)
    rw [hgp]
    exact ⟨nI j, gmd, gop, gom, gwt, gwm, gtn, gon, rfl, fun j' w => by rw [e] at w; rw [Sum.inl.inj w]; exact ⟨rfl, rfl⟩, fun σ' cs' k w => by rw [e] at w; simp at w⟩) (fun σ' cs' k gmd gop gom gwt gwm gtn gon e e2 => by
    refine RET.id ?_ (Nat.zero_le _) (Nat.zero_le _)
    rw [hgp]
    refine ⟨nI k, gmd, gop, gom, gwt, gwm, gtn, gon, rfl, fun j' w => by rw [e] at w; simp at w, fun τ cs2 k2 w => ?_⟩
    rw [e] at w
    obtain ⟨b1, b2⟩ := Prod.mk.inj (Sum.inr.inj w)
    obtain ⟨b3, b4⟩ := Prod.mk.inj b2
    rw [← b1, show k2 = k by omega]
    exact ⟨rfl, rfl, e2⟩) cs.length i cs (2, ow, [], 0, 0, [], Gr, od) none none (upd gmd 0 (nI 0)) gop (nI 0) gwt (nI 0) (nI 0) (nI 0) (Nat.le_refl _) hcs hi (Or.inl rfl) hI hod hp rfl rfl
  have e0 : bN (rS.ph (2, ow, [], 0, 0, [], Gr, od) == 2) = nI 1 := rfl
  rw [e0] at hgo
  clear hgp
  generalize T.length = len at *
  refine wp_aw (S := fun x => x == 29) (by decide) 200 _ _ _ _ _ _ ?_
  simp (disch := first | exact rfl | decide | omega) only [u_110_0, u_110_1, u_110_4, u_110_5, u_110_6, u_110_7, u_110_8, u_110_9, u_110_12, u_110_13, u_110_14, u_110_17, u_110_18, u_110_19, u_110_22, u_110_23, u_110_24, u_110_27, u_110_28, u_110_29, u_110_30, u_110_33, u_110_34, u_110_35, u_110_38, u_110_39, u_110_40, u_110_43, u_110_46, u_110_47, u_110_48, u_110_49, u_110_51, u_110_54, u_110_55, u_110_58, u_110_59, u_110_60, u_110_63, u_110_64, u_110_66, u_110_69, u_110_70, u_110_73, u_110_76, u_110_77, u_110_78, u_110_81, u_110_82, u_110_83, u_110_86, u_110_87, u_110_88, u_110_91, u_110_92, u_110_93, u_110_96, u_110_97, u_110_98, u_110_101, u_110_104, u_110_105, u_110_107, u_110_110, u_110_111, u_110_114, u_110_117, u_110_118, u_110_119, u_110_122, u_110_123, u_110_124, u_110_125, u_110_128, u_110_129, u_110_130, u_110_131, u_110_134, u_110_135, u_110_136, u_110_139, u_110_142, u_110_143, u_110_144, u_110_145, u_110_147, u_110_150, u_110_151, u_110_154, u_110_155, u_110_156, u_110_157, u_110_158, u_110_161, u_110_162, u_110_163, u_110_166, wp_stop, lget, lput1, lput2, kil, hget, hset, vget, vset, fget, fgetC, fput, fputC, iget, igetC, jget, jgetC, qget, qgetC, alen, lenC, oI, oJ, oF, oA, oV, oH, oInc, oIld, oJld, oQld, oR, oLen, oIst, oBst, oJst, oQst, ciOf, rcv, oCp, cat1, cond_true, cond_false, Bool.and_self, Bool.and_true, Bool.true_and, Bool.or_true, Bool.true_or, Bool.or_false, Bool.false_or, Bool.not_false, Bool.not_true, ↓reduceIte, Nat.reduceBEq, Nat.reduceEqDiff, beq_self_eq_true, true_and, and_true, eq_self_iff_true, Nat.reduceAdd, Nat.blt, Nat.ble, z_le, z_lt, z_eq, z_cl, z_add, z_sub, z_mul, z_in, z_lt0, z_ofN, z_m1, z_ltm1, z_m1lt, z_eqm1, z_m1eq, z_m1le, z_lem1, z_beq, nI_0_1, nI_m1lt0, nI_0lem1, not_false_eq_true, not_true_eq_false, forall_const, false_implies, true_implies, implies_true, false_and, and_false, mrg, renc, tra, trv, sg, List.map_cons, List.map_nil, Option.map_some, Option.map_none, Option.toList_some, Option.toList_none, List.cons_append, List.nil_append, List.length_cons, List.length_nil, eL, mL_110, gH, gO]
  exact hgo
set_option maxRecDepth 100000 in
set_option maxHeartbeats 8000000 in
theorem l_ordCp {G : aG} (x : Nat) (hx : x < 9) (b2 : Int32) (gal0 : Nat → Int32)
    (hret : ∀ gal, cpG gal0 gal gmd x → RET G (some (.int (nI 1))) (gH gal gps gst grf gmy gkd glf grt gpr gun gow gem ged gse gsz gtx gtl gsp gmd gop gom gwt gwm gtn gon gsh gtr gbl gbd gwh gfl gfd gfe) 0 0) :
    ∀ (m k : Nat) (gal : Nat → Int32), k + m = 49 → (∀ j, j < k → gal (49 * x + j) = gmd j) → (∀ j, (j < 49 * x ∨ 49 * x + 49 ≤ j) → gal j = gal0 j) →
    AW 108 G 96 [some (.ref 0), some (.int (nI 1)), some (.int b2), some (.int (nI x)), some (.int (nI k))] [] (gH gal gps gst grf gmy gkd glf grt gpr gun gow gem ged gse gsz gtx gtl gsp gmd gop gom gwt gwm gtn gon gsh gtr gbl gbd gwh gfl gfd gfe) 0 0 := by
  intro m
  induction m with
  | zero =>
    intro k gal hm h1 h2
    have e : k = 49 := by omega
    subst e
    have hf := hret gal ⟨h1, h2⟩
    clear hret
    refine wq_aw (S := fun x => x == 96) (by decide) (f := 200) ?_
    simp (disch := first | exact rfl | decide | omega) only [v_108_96, u_108_0, u_108_1, u_108_4, u_108_5, u_108_6, u_108_8, u_108_11, u_108_12, u_108_13, u_108_16, u_108_19, u_108_22, u_108_25, u_108_26, u_108_27, u_108_28, u_108_29, u_108_32, u_108_33, u_108_34, u_108_37, u_108_38, u_108_41, u_108_43, u_108_46, u_108_47, u_108_48, u_108_49, u_108_50, u_108_53, u_108_54, u_108_55, u_108_58, u_108_59, u_108_62, u_108_65, u_108_66, u_108_67, u_108_68, u_108_69, u_108_72, u_108_73, u_108_74, u_108_77, u_108_78, u_108_80, u_108_83, u_108_85, u_108_88, u_108_89, u_108_91, u_108_92, u_108_93, u_108_94, u_108_96, u_108_98, u_108_100, u_108_103, u_108_104, u_108_107, u_108_108, u_108_111, u_108_113, u_108_114, u_108_115, u_108_117, u_108_118, u_108_119, u_108_122, u_108_124, u_108_125, u_108_126, u_108_129, u_108_132, u_108_133, wp_stop, lget, lput1, lput2, kil, hget, hset, vget, vset, fget, fgetC, fput, fputC, iget, igetC, jget, jgetC, qget, qgetC, alen, lenC, oI, oJ, oF, oA, oV, oH, oInc, oIld, oJld, oQld, oR, oLen, oIst, oBst, oJst, oQst, ciOf, rcv, oCp, cat1, cond_true, cond_false, Bool.and_self, Bool.and_true, Bool.true_and, Bool.or_true, Bool.true_or, Bool.or_false, Bool.false_or, Bool.not_false, Bool.not_true, ↓reduceIte, Nat.reduceBEq, Nat.reduceEqDiff, beq_self_eq_true, true_and, and_true, eq_self_iff_true, Nat.reduceAdd, Nat.blt, Nat.ble, z_le, z_lt, z_eq, z_cl, z_add, z_sub, z_mul, z_in, z_lt0, z_ofN, z_m1, z_ltm1, z_m1lt, z_eqm1, z_m1eq, z_m1le, z_lem1, z_beq, nI_0_1, nI_m1lt0, nI_0lem1, not_false_eq_true, not_true_eq_false, forall_const, false_implies, true_implies, implies_true, false_and, and_false, mrg, renc, tra, trv, sg, List.map_cons, List.map_nil, Option.map_some, Option.map_none, Option.toList_some, Option.toList_none, List.cons_append, List.nil_append, List.length_cons, List.length_nil, gH, gO, show (49 : Nat) ≤ 49 by decide]
    exact hf
  | succ m ih =>
    intro k gal hm h1 h2
    have hgo := ih (k + 1) (upd gal (49 * x + k) (gmd k)) (by omega) (fun j hj => by
      by_cases q : j = k
      · rw [q, upd_s]
      · rw [upd_n (by omega)]
        exact h1 j (by omega)) (fun j hj => by
      rw [upd_n (by omega)]
      exact h2 j hj)
    clear ih hret
    have t1 : ¬ 49 ≤ k := by omega
    refine wq_aw (S := fun x => x == 96) (by decide) (f := 200) ?_
    simp (disch := first | exact rfl | decide | omega) only [v_108_96, u_108_0, u_108_1, u_108_4, u_108_5, u_108_6, u_108_8, u_108_11, u_108_12, u_108_13, u_108_16, u_108_19, u_108_22, u_108_25, u_108_26, u_108_27, u_108_28, u_108_29, u_108_32, u_108_33, u_108_34, u_108_37, u_108_38, u_108_41, u_108_43, u_108_46, u_108_47, u_108_48, u_108_49, u_108_50, u_108_53, u_108_54, u_108_55, u_108_58, u_108_59, u_108_62, u_108_65, u_108_66, u_108_67, u_108_68, u_108_69, u_108_72, u_108_73, u_108_74, u_108_77, u_108_78, u_108_80, u_108_83, u_108_85, u_108_88, u_108_89, u_108_91, u_108_92, u_108_93, u_108_94, u_108_96, u_108_98, u_108_100, u_108_103, u_108_104, u_108_107, u_108_108, u_108_111, u_108_113, u_108_114, u_108_115, u_108_117, u_108_118, u_108_119, u_108_122, u_108_124, u_108_125, u_108_126, u_108_129, u_108_132, u_108_133, wp_stop, lget, lput1, lput2, kil, hget, hset, vget, vset, fget, fgetC, fput, fputC, iget, igetC, jget, jgetC, qget, qgetC, alen, lenC, oI, oJ, oF, oA, oV, oH, oInc, oIld, oJld, oQld, oR, oLen, oIst, oBst, oJst, oQst, ciOf, rcv, oCp, cat1, cond_true, cond_false, Bool.and_self, Bool.and_true, Bool.true_and, Bool.or_true, Bool.true_or, Bool.or_false, Bool.false_or, Bool.not_false, Bool.not_true, ↓reduceIte, Nat.reduceBEq, Nat.reduceEqDiff, beq_self_eq_true, true_and, and_true, eq_self_iff_true, Nat.reduceAdd, Nat.blt, Nat.ble, z_le, z_lt, z_eq, z_cl, z_add, z_sub, z_mul, z_in, z_lt0, z_ofN, z_m1, z_ltm1, z_m1lt, z_eqm1, z_m1eq, z_m1le, z_lem1, z_beq, nI_0_1, nI_m1lt0, nI_0lem1, not_false_eq_true, not_true_eq_false, forall_const, false_implies, true_implies, implies_true, false_and, and_false, mrg, renc, tra, trv, sg, List.map_cons, List.map_nil, Option.map_some, Option.map_none, Option.toList_some, Option.toList_none, List.cons_append, List.nil_append, List.length_cons, List.length_nil, gH, gO, t1, n10]
    exact hgo
/-- what one order ends with -/
def toP (T : List Nat) (dn : Bool) (σ : rS) (q : Nat ⊕ (rS × List Nat × Nat)) (r : Option Value) (h' : aH) : Prop := ∃ gal' gsp gmd gop gom gwt gwm gtn gon, h' = (gH gal' gps gst grf gmy gkd glf grt gpr gun gow gem ged gse gsz gtx (nI T.length) gsp gmd gop gom gwt gwm gtn gon gsh gtr gbl gbd gwh gfl gfd gfe) ∧ (∀ j, q = .inl j → r = some (.int (nI 0)) ∧ gsp = nI j ∧ gal' = gal) ∧ (∀ σ' cs' k, q = .inr (σ', cs', k) → r = some (.int (nI 1)) ∧ gsp = nI k ∧ (dn = false → gal' = gal) ∧ (dn = true → (∀ j, 441 ≤ j → gal' j = gal j) ∧ ((∀ y, y < 9 → paL gal y (σ.Gr y)) → ∀ y, y < 9 → paL gal' y (σ'.Gr y))))
set_option maxRecDepth 100000 in
set_option maxHeartbeats 16000000 in
theorem g_takesOrder (d i : Nat) (dn : Bool) (T cs : List Nat) (hT : txR gtx T) (hl : T.length ≤ 150) (hcs : T.drop i = cs) (hi : i ≤ T.length) (σ : rS) (h0 : σ.ph = 0) (hod : σ.ord + cs.length + 1 < 2 ^ 20) :
    aSp (d + 4) 108 [.ref 0, .int (bN dn)] (gH gal gps gst grf gmy gkd glf grt gpr gun gow gem ged gse gsz gtx (nI T.length) (nI i) gmd gop gom gwt gwm gtn gon gsh gtr gbl gbd gwh gfl gfd gfe) nomv 0 0 (toP gal gps gst grf gmy gkd glf grt gpr gun gow gem ged gse gsz gtx gsh gtr gbl gbd gwh gfl gfd gfe T dn σ (ordF σ cs i)) := by
  refine sp_of (by decide) (Nat.le_of_ble_eq_true rfl) ?_
  generalize hG : ((d + 4, _, nomv, _, _, _) : aG) = G
  have ggd : gD G = d + 4 := by subst hG; rfl
  have ggn : gN G = 21 := by subst hG; rfl
  have ggm : gM G = nomv := by subst hG; rfl
  have ggc : gC G = 0 := by subst hG; rfl
  have ggs : gS G = 0 := by subst hG; rfl
  have hgp : gP G = toP gal gps gst grf gmy gkd glf grt gpr gun gow gem ged gse gsz gtx gsh gtr gbl gbd gwh gfl gfd gfe T dn σ (ordF σ cs i) := by subst hG; rfl
  clear hG
  have hd4 : 4 ≤ gD G := by rw [ggd]; omega
  have hbad : ∀ j gsp gmd gop gom gwt gwm gtn gon, ordF σ cs i = .inl j → gsp = nI j → RET G (some (.int (nI 0))) (gH gal gps gst grf gmy gkd glf grt gpr gun gow gem ged gse gsz gtx (nI T.length) gsp gmd gop gom gwt gwm gtn gon gsh gtr gbl gbd gwh gfl gfd gfe) 0 0 := fun j gsp gmd gop gom gwt gwm gtn gon e e2 => by
    refine RET.id ?_ (Nat.zero_le _) (Nat.zero_le _)
    rw [hgp]
    refine ⟨gal, gsp, gmd, gop, gom, gwt, gwm, gtn, gon, rfl, fun j' w => ?_, fun σ' cs' k w => by rw [e] at w; simp at w⟩
    rw [e] at w
    rw [← Sum.inl.inj w]
    exact ⟨rfl, e2, rfl⟩
  have hok : ∀ σ' cs' k gal' gsp gmd gop gom gwt gwm gtn gon, ordF σ cs i = .inr (σ', cs', k) → gsp = nI k → (dn = false → gal' = gal) → (dn = true → (∀ j, 441 ≤ j → gal' j = gal j) ∧ ((∀ y, y < 9 → paL gal y (σ.Gr y)) → ∀ y, y < 9 → paL gal' y (σ'.Gr y))) → RET G (some (.int (nI 1))) (gH gal' gps gst grf gmy gkd glf grt gpr gun gow gem ged gse gsz gtx (nI T.length) gsp gmd gop gom gwt gwm gtn gon gsh gtr gbl gbd gwh gfl gfd gfe) 0 0 := fun σ' cs' k gal' gsp gmd gop gom gwt gwm gtn gon e e2 e3 e4 => by
    refine RET.id ?_ (Nat.zero_le _) (Nat.zero_le _)
    rw [hgp]
    refine ⟨gal', gsp, gmd, gop, gom, gwt, gwm, gtn, gon, rfl, fun j' w => by rw [e] at w; simp at w, fun τ cs2 k2 w => ?_⟩
    rw [e] at w
    obtain ⟨b1, b2⟩ := Prod.mk.inj (Sum.inr.inj w)
    obtain ⟨b3, b4⟩ := Prod.mk.inj b2
    rw [← b1, ← b4]
    exact ⟨rfl, e2, e3, e4⟩
  clear hgp
  have hh := g_here gal gps gst grf gmy gkd glf grt gpr gun gow gem ged gse gsz gtx gmd gop gom gwt gwm gtn gon gsh gtr gbl gbd gwh gfl gfd gfe 0 i T cs hT hl hcs hi
  obtain ⟨k1, k2, k3, -⟩ := skF_ok cs i
  have kd := skF_drop hcs
  rw [ordF_sk] at hbad hok
  cases hc : (skF cs i).1 with
  | nil =>
    rw [hc] at hh hbad
    have hhd : hdV [] = -1 := rfl
    rw [hhd] at hh
    have hf := hbad (skF cs i).2 (nI (skF cs i).2) gmd gop gom gwt gwm gtn gon rfl rfl
    have hin := g_in 0 (-1) 97 104 (by decide) (by decide) (gH gal gps gst grf gmy gkd glf grt gpr gun gow gem ged gse gsz gtx (nI T.length) (nI (skF cs i).2) gmd gop gom gwt gwm gtn gon gsh gtr gbl gbd gwh gfl gfd gfe)
    have e : inB (-1) 97 104 = false := by decide
    rw [e] at hin
    clear hbad hok hcs kd
    generalize (skF cs i).2 = i2 at *
    generalize T.length = len at *
    refine wp_aw (S := fun _ => false) (by decide) 200 _ _ _ _ _ _ ?_
    simp (disch := first | exact rfl | decide | omega) only [u_108_0, u_108_1, u_108_4, u_108_5, u_108_6, u_108_8, u_108_11, u_108_12, u_108_13, u_108_16, u_108_19, u_108_22, u_108_25, u_108_26, u_108_27, u_108_28, u_108_29, u_108_32, u_108_33, u_108_34, u_108_37, u_108_38, u_108_41, u_108_43, u_108_46, u_108_47, u_108_48, u_108_49, u_108_50, u_108_53, u_108_54, u_108_55, u_108_58, u_108_59, u_108_62, u_108_65, u_108_66, u_108_67, u_108_68, u_108_69, u_108_72, u_108_73, u_108_74, u_108_77, u_108_78, u_108_80, u_108_83, u_108_85, u_108_88, u_108_89, u_108_91, u_108_92, u_108_93, u_108_94, u_108_96, u_108_98, u_108_100, u_108_103, u_108_104, u_108_107, u_108_108, u_108_111, u_108_113, u_108_114, u_108_115, u_108_117, u_108_118, u_108_119, u_108_122, u_108_124, u_108_125, u_108_126, u_108_129, u_108_132, u_108_133, wp_stop, lget, lput1, lput2, kil, hget, hset, vget, vset, fget, fgetC, fput, fputC, iget, igetC, jget, jgetC, qget, qgetC, alen, lenC, oI, oJ, oF, oA, oV, oH, oInc, oIld, oJld, oQld, oR, oLen, oIst, oBst, oJst, oQst, ciOf, rcv, oCp, cat1, cond_true, cond_false, Bool.and_self, Bool.and_true, Bool.true_and, Bool.or_true, Bool.true_or, Bool.or_false, Bool.false_or, Bool.not_false, Bool.not_true, ↓reduceIte, Nat.reduceBEq, Nat.reduceEqDiff, beq_self_eq_true, true_and, and_true, eq_self_iff_true, Nat.reduceAdd, Nat.blt, Nat.ble, z_le, z_lt, z_eq, z_cl, z_add, z_sub, z_mul, z_in, z_lt0, z_ofN, z_m1, z_ltm1, z_m1lt, z_eqm1, z_m1eq, z_m1le, z_lem1, z_beq, nI_0_1, nI_m1lt0, nI_0lem1, not_false_eq_true, not_true_eq_false, forall_const, false_implies, true_implies, implies_true, false_and, and_false, mrg, renc, tra, trv, sg, List.map_cons, List.map_nil, Option.map_some, Option.map_none, Option.toList_some, Option.toList_none, List.cons_append, List.nil_append, List.length_cons, List.length_nil, eL, mL_108, gH, gO]
    refine CAL.dir (hh) (by rw [ggd]; omega) (by rw [ggc]; omega) (by rw [ggs]; omega) (Nat.le_of_ble_eq_true rfl) (by rw [ggn]; exact Nat.le_of_ble_eq_true rfl) rfl rfl ?_
    rintro _ _ ⟨rfl, rfl⟩
    simp (disch := first | exact rfl | decide | omega) only [u_108_0, u_108_1, u_108_4, u_108_5, u_108_6, u_108_8, u_108_11, u_108_12, u_108_13, u_108_16, u_108_19, u_108_22, u_108_25, u_108_26, u_108_27, u_108_28, u_108_29, u_108_32, u_108_33, u_108_34, u_108_37, u_108_38, u_108_41, u_108_43, u_108_46, u_108_47, u_108_48, u_108_49, u_108_50, u_108_53, u_108_54, u_108_55, u_108_58, u_108_59, u_108_62, u_108_65, u_108_66, u_108_67, u_108_68, u_108_69, u_108_72, u_108_73, u_108_74, u_108_77, u_108_78, u_108_80, u_108_83, u_108_85, u_108_88, u_108_89, u_108_91, u_108_92, u_108_93, u_108_94, u_108_96, u_108_98, u_108_100, u_108_103, u_108_104, u_108_107, u_108_108, u_108_111, u_108_113, u_108_114, u_108_115, u_108_117, u_108_118, u_108_119, u_108_122, u_108_124, u_108_125, u_108_126, u_108_129, u_108_132, u_108_133, wp_stop, lget, lput1, lput2, kil, hget, hset, vget, vset, fget, fgetC, fput, fputC, iget, igetC, jget, jgetC, qget, qgetC, alen, lenC, oI, oJ, oF, oA, oV, oH, oInc, oIld, oJld, oQld, oR, oLen, oIst, oBst, oJst, oQst, ciOf, rcv, oCp, cat1, cond_true, cond_false, Bool.and_self, Bool.and_true, Bool.true_and, Bool.or_true, Bool.true_or, Bool.or_false, Bool.false_or, Bool.not_false, Bool.not_true, ↓reduceIte, Nat.reduceBEq, Nat.reduceEqDiff, beq_self_eq_true, true_and, and_true, eq_self_iff_true, Nat.reduceAdd, Nat.blt, Nat.ble, z_le, z_lt, z_eq, z_cl, z_add, z_sub, z_mul, z_in, z_lt0, z_ofN, z_m1, z_ltm1, z_m1lt, z_eqm1, z_m1eq, z_m1le, z_lem1, z_beq, nI_0_1, nI_m1lt0, nI_0lem1, not_false_eq_true, not_true_eq_false, forall_const, false_implies, true_implies, implies_true, false_and, and_false, mrg, renc, tra, trv, sg, List.map_cons, List.map_nil, Option.map_some, Option.map_none, Option.toList_some, Option.toList_none, List.cons_append, List.nil_append, List.length_cons, List.length_nil, gH, gO]
    refine CAL.dir (hin) (by rw [ggd]; omega) (by rw [ggc]; omega) (by rw [ggs]; omega) (Nat.le_of_ble_eq_true rfl) (by rw [ggn]; exact Nat.le_of_ble_eq_true rfl) rfl rfl ?_
    rintro _ _ ⟨rfl, rfl⟩
    simp (disch := first | exact rfl | decide | omega) only [u_108_0, u_108_1, u_108_4, u_108_5, u_108_6, u_108_8, u_108_11, u_108_12, u_108_13, u_108_16, u_108_19, u_108_22, u_108_25, u_108_26, u_108_27, u_108_28, u_108_29, u_108_32, u_108_33, u_108_34, u_108_37, u_108_38, u_108_41, u_108_43, u_108_46, u_108_47, u_108_48, u_108_49, u_108_50, u_108_53, u_108_54, u_108_55, u_108_58, u_108_59, u_108_62, u_108_65, u_108_66, u_108_67, u_108_68, u_108_69, u_108_72, u_108_73, u_108_74, u_108_77, u_108_78, u_108_80, u_108_83, u_108_85, u_108_88, u_108_89, u_108_91, u_108_92, u_108_93, u_108_94, u_108_96, u_108_98, u_108_100, u_108_103, u_108_104, u_108_107, u_108_108, u_108_111, u_108_113, u_108_114, u_108_115, u_108_117, u_108_118, u_108_119, u_108_122, u_108_124, u_108_125, u_108_126, u_108_129, u_108_132, u_108_133, wp_stop, lget, lput1, lput2, kil, hget, hset, vget, vset, fget, fgetC, fput, fputC, iget, igetC, jget, jgetC, qget, qgetC, alen, lenC, oI, oJ, oF, oA, oV, oH, oInc, oIld, oJld, oQld, oR, oLen, oIst, oBst, oJst, oQst, ciOf, rcv, oCp, cat1, cond_true, cond_false, Bool.and_self, Bool.and_true, Bool.true_and, Bool.or_true, Bool.true_or, Bool.or_false, Bool.false_or, Bool.not_false, Bool.not_true, ↓reduceIte, Nat.reduceBEq, Nat.reduceEqDiff, beq_self_eq_true, true_and, and_true, eq_self_iff_true, Nat.reduceAdd, Nat.blt, Nat.ble, z_le, z_lt, z_eq, z_cl, z_add, z_sub, z_mul, z_in, z_lt0, z_ofN, z_m1, z_ltm1, z_m1lt, z_eqm1, z_m1eq, z_m1le, z_lem1, z_beq, nI_0_1, nI_m1lt0, nI_0lem1, not_false_eq_true, not_true_eq_false, forall_const, false_implies, true_implies, implies_true, false_and, and_false, mrg, renc, tra, trv, sg, List.map_cons, List.map_nil, Option.map_some, Option.map_none, Option.toList_some, Option.toList_none, List.cons_append, List.nil_append, List.length_cons, List.length_nil, gH, gO, bNf]
    exact hf
  | cons c cs3 =>
    have hc32 := k3 c cs3 hc
    rw [hc] at kd hh hbad hok
    rw [ordF_c _ _ _ _ hc32] at hbad hok
    obtain ⟨d1, d2, d3⟩ := drop_get kd
    obtain ⟨x1, x2⟩ := hT _ c d1
    have hhd : hdV (c :: cs3) = nI c := rfl
    rw [hhd] at hh
    have hlc : cs3.length + 1 ≤ cs.length := by
      rw [hc, List.length_cons] at k2
      omega
    generalize (skF cs i).2 = i2 at *
    have hT0 : rdT σ c = rdO σ c := by unfold rdT; rw [if_pos h0]
    rw [hT0] at hbad hok
    have hin := g_in 0 (nI c) 97 104 (by decide) (by decide) (gH gal gps gst grf gmy gkd glf grt gpr gun gow gem ged gse gsz gtx (nI T.length) (nI i2) gmd gop gom gwt gwm gtn gon gsh gtr gbl gbd gwh gfl gfd gfe)
    rw [inB_n (by omega) (by decide) (by decide)] at hin
    have hi150 : i2 < 150 := by omega
    by_cases hown : c = 94 ∨ (97 ≤ c ∧ c ≤ 104)
    · obtain ⟨x, hx9, hxo, hxv⟩ : ∃ x, x < 9 ∧ rdO σ c = some (1, x, [], 0, 0, [], σ.Gr, σ.ord) ∧ ((c = 94 ∧ x = 8) ∨ (97 ≤ c ∧ c ≤ 104 ∧ x = c - 97)) := by
        unfold rdO
        rcases hown with w | w
        · exact ⟨8, by decide, if_pos w, Or.inl ⟨w, rfl⟩⟩
        · exact ⟨c - 97, by omega, by rw [if_neg (by omega), if_pos w], Or.inr ⟨w.1, w.2, rfl⟩⟩
      rw [hxo] at hbad hok
      have hph1 : ¬ rS.ph (1, x, [], 0, 0, [], σ.Gr, σ.ord) = 0 := by show ¬ 1 = 0; decide
      simp only [if_neg hph1] at hbad hok
      have hh2 := g_here gal gps gst grf gmy gkd glf grt gpr gun gow gem ged gse gsz gtx gmd gop gom gwt gwm gtn gon gsh gtr gbl gbd gwh gfl gfd gfe 0 (i2 + 1) T cs3 hT hl d2 (by omega)
      obtain ⟨m1, m2, m3, -⟩ := skF_ok cs3 (i2 + 1)
      have md := skF_drop d2
      rw [ordF_sk] at hbad hok
      have hpre : AW 108 G 41 [some (.ref 0), some (.int (bN dn)), some (.int (nI c)), none, none] [.int (hdV (skF cs3 (i2 + 1)).1)] (gH gal gps gst grf gmy gkd glf grt gpr gun gow gem ged gse gsz gtx (nI T.length) (nI (skF cs3 (i2 + 1)).2) gmd gop gom gwt gwm gtn gon gsh gtr gbl gbd gwh gfl gfd gfe) 0 0 → AW 108 G 0 [some (.ref 0), some (.int (bN dn)), none, none, none] [] (gH gal gps gst grf gmy gkd glf grt gpr gun gow gem ged gse gsz gtx (nI T.length) (nI i) gmd gop gom gwt gwm gtn gon gsh gtr gbl gbd gwh gfl gfd gfe) 0 0 := by
        intro hpp
        clear hbad hok hcs kd d1 d2 md
        generalize (skF cs3 (i2 + 1)).2 = i3 at *
        generalize hdV (skF cs3 (i2 + 1)).1 = hv at *
        generalize T.length = len at *
        refine wp_aw (S := fun x => x == 41) (by decide) 200 _ _ _ _ _ _ ?_
        simp (disch := first | exact rfl | decide | omega) only [u_108_0, u_108_1, u_108_4, u_108_5, u_108_6, u_108_8, u_108_11, u_108_12, u_108_13, u_108_16, u_108_19, u_108_22, u_108_25, u_108_26, u_108_27, u_108_28, u_108_29, u_108_32, u_108_33, u_108_34, u_108_37, u_108_38, u_108_41, u_108_43, u_108_46, u_108_47, u_108_48, u_108_49, u_108_50, u_108_53, u_108_54, u_108_55, u_108_58, u_108_59, u_108_62, u_108_65, u_108_66, u_108_67, u_108_68, u_108_69, u_108_72, u_108_73, u_108_74, u_108_77, u_108_78, u_108_80, u_108_83, u_108_85, u_108_88, u_108_89, u_108_91, u_108_92, u_108_93, u_108_94, u_108_96, u_108_98, u_108_100, u_108_103, u_108_104, u_108_107, u_108_108, u_108_111, u_108_113, u_108_114, u_108_115, u_108_117, u_108_118, u_108_119, u_108_122, u_108_124, u_108_125, u_108_126, u_108_129, u_108_132, u_108_133, wp_stop, lget, lput1, lput2, kil, hget, hset, vget, vset, fget, fgetC, fput, fputC, iget, igetC, jget, jgetC, qget, qgetC, alen, lenC, oI, oJ, oF, oA, oV, oH, oInc, oIld, oJld, oQld, oR, oLen, oIst, oBst, oJst, oQst, ciOf, rcv, oCp, cat1, cond_true, cond_false, Bool.and_self, Bool.and_true, Bool.true_and, Bool.or_true, Bool.true_or, Bool.or_false, Bool.false_or, Bool.not_false, Bool.not_true, ↓reduceIte, Nat.reduceBEq, Nat.reduceEqDiff, beq_self_eq_true, true_and, and_true, eq_self_iff_true, Nat.reduceAdd, Nat.blt, Nat.ble, z_le, z_lt, z_eq, z_cl, z_add, z_sub, z_mul, z_in, z_lt0, z_ofN, z_m1, z_ltm1, z_m1lt, z_eqm1, z_m1eq, z_m1le, z_lem1, z_beq, nI_0_1, nI_m1lt0, nI_0lem1, not_false_eq_true, not_true_eq_false, forall_const, false_implies, true_implies, implies_true, false_and, and_false, mrg, renc, tra, trv, sg, List.map_cons, List.map_nil, Option.map_some, Option.map_none, Option.toList_some, Option.toList_none, List.cons_append, List.nil_append, List.length_cons, List.length_nil, gH, gO]
        refine CAL.dir hh (by omega) (Nat.zero_le _) (Nat.zero_le _) (Nat.le_of_ble_eq_true rfl) (by rw [ggn]; exact Nat.le_of_ble_eq_true rfl) rfl rfl ?_
        rintro _ _ ⟨rfl, rfl⟩
        by_cases q94 : c = 94
        · subst q94
          simp (disch := first | exact rfl | decide | omega) only [u_108_0, u_108_1, u_108_4, u_108_5, u_108_6, u_108_8, u_108_11, u_108_12, u_108_13, u_108_16, u_108_19, u_108_22, u_108_25, u_108_26, u_108_27, u_108_28, u_108_29, u_108_32, u_108_33, u_108_34, u_108_37, u_108_38, u_108_41, u_108_43, u_108_46, u_108_47, u_108_48, u_108_49, u_108_50, u_108_53, u_108_54, u_108_55, u_108_58, u_108_59, u_108_62, u_108_65, u_108_66, u_108_67, u_108_68, u_108_69, u_108_72, u_108_73, u_108_74, u_108_77, u_108_78, u_108_80, u_108_83, u_108_85, u_108_88, u_108_89, u_108_91, u_108_92, u_108_93, u_108_94, u_108_96, u_108_98, u_108_100, u_108_103, u_108_104, u_108_107, u_108_108, u_108_111, u_108_113, u_108_114, u_108_115, u_108_117, u_108_118, u_108_119, u_108_122, u_108_124, u_108_125, u_108_126, u_108_129, u_108_132, u_108_133, wp_stop, lget, lput1, lput2, kil, hget, hset, vget, vset, fget, fgetC, fput, fputC, iget, igetC, jget, jgetC, qget, qgetC, alen, lenC, oI, oJ, oF, oA, oV, oH, oInc, oIld, oJld, oQld, oR, oLen, oIst, oBst, oJst, oQst, ciOf, rcv, oCp, cat1, cond_true, cond_false, Bool.and_self, Bool.and_true, Bool.true_and, Bool.or_true, Bool.true_or, Bool.or_false, Bool.false_or, Bool.not_false, Bool.not_true, ↓reduceIte, Nat.reduceBEq, Nat.reduceEqDiff, beq_self_eq_true, true_and, and_true, eq_self_iff_true, Nat.reduceAdd, Nat.blt, Nat.ble, z_le, z_lt, z_eq, z_cl, z_add, z_sub, z_mul, z_in, z_lt0, z_ofN, z_m1, z_ltm1, z_m1lt, z_eqm1, z_m1eq, z_m1le, z_lem1, z_beq, nI_0_1, nI_m1lt0, nI_0lem1, not_false_eq_true, not_true_eq_false, forall_const, false_implies, true_implies, implies_true, false_and, and_false, mrg, renc, tra, trv, sg, List.map_cons, List.map_nil, Option.map_some, Option.map_none, Option.toList_some, Option.toList_none, List.cons_append, List.nil_append, List.length_cons, List.length_nil, gH, gO]
          refine CAL.dir hh2 (by omega) (Nat.zero_le _) (Nat.zero_le _) (Nat.le_of_ble_eq_true rfl) (by rw [ggn]; exact Nat.le_of_ble_eq_true rfl) rfl rfl ?_
          rintro _ _ ⟨rfl, rfl⟩
          simp (disch := first | exact rfl | decide | omega) only [u_108_0, u_108_1, u_108_4, u_108_5, u_108_6, u_108_8, u_108_11, u_108_12, u_108_13, u_108_16, u_108_19, u_108_22, u_108_25, u_108_26, u_108_27, u_108_28, u_108_29, u_108_32, u_108_33, u_108_34, u_108_37, u_108_38, u_108_41, u_108_43, u_108_46, u_108_47, u_108_48, u_108_49, u_108_50, u_108_53, u_108_54, u_108_55, u_108_58, u_108_59, u_108_62, u_108_65, u_108_66, u_108_67, u_108_68, u_108_69, u_108_72, u_108_73, u_108_74, u_108_77, u_108_78, u_108_80, u_108_83, u_108_85, u_108_88, u_108_89, u_108_91, u_108_92, u_108_93, u_108_94, u_108_96, u_108_98, u_108_100, u_108_103, u_108_104, u_108_107, u_108_108, u_108_111, u_108_113, u_108_114, u_108_115, u_108_117, u_108_118, u_108_119, u_108_122, u_108_124, u_108_125, u_108_126, u_108_129, u_108_132, u_108_133, wp_stop, lget, lput1, lput2, kil, hget, hset, vget, vset, fget, fgetC, fput, fputC, iget, igetC, jget, jgetC, qget, qgetC, alen, lenC, oI, oJ, oF, oA, oV, oH, oInc, oIld, oJld, oQld, oR, oLen, oIst, oBst, oJst, oQst, ciOf, rcv, oCp, cat1, cond_true, cond_false, Bool.and_self, Bool.and_true, Bool.true_and, Bool.or_true, Bool.true_or, Bool.or_false, Bool.false_or, Bool.not_false, Bool.not_true, ↓reduceIte, Nat.reduceBEq, Nat.reduceEqDiff, beq_self_eq_true, true_and, and_true, eq_self_iff_true, Nat.reduceAdd, Nat.blt, Nat.ble, z_le, z_lt, z_eq, z_cl, z_add, z_sub, z_mul, z_in, z_lt0, z_ofN, z_m1, z_ltm1, z_m1lt, z_eqm1, z_m1eq, z_m1le, z_lem1, z_beq, nI_0_1, nI_m1lt0, nI_0lem1, not_false_eq_true, not_true_eq_false, forall_const, false_implies, true_implies, implies_true, false_and, and_false, mrg, renc, tra, trv, sg, List.map_cons, List.map_nil, Option.map_some, Option.map_none, Option.toList_some, Option.toList_none, List.cons_append, List.nil_append, List.length_cons, List.length_nil, gH, gO]
          exact hpp
        · have w := hown.resolve_left q94
          rw [Nat.ble_eq_true_of_le w.1, Nat.ble_eq_true_of_le w.2] at hin
          have hb : bN (true && true) = nI 1 := rfl
          simp (disch := first | exact rfl | decide | omega) only [u_108_0, u_108_1, u_108_4, u_108_5, u_108_6, u_108_8, u_108_11, u_108_12, u_108_13, u_108_16, u_108_19, u_108_22, u_108_25, u_108_26, u_108_27, u_108_28, u_108_29, u_108_32, u_108_33, u_108_34, u_108_37, u_108_38, u_108_41, u_108_43, u_108_46, u_108_47, u_108_48, u_108_49, u_108_50, u_108_53, u_108_54, u_108_55, u_108_58, u_108_59, u_108_62, u_108_65, u_108_66, u_108_67, u_108_68, u_108_69, u_108_72, u_108_73, u_108_74, u_108_77, u_108_78, u_108_80, u_108_83, u_108_85, u_108_88, u_108_89, u_108_91, u_108_92, u_108_93, u_108_94, u_108_96, u_108_98, u_108_100, u_108_103, u_108_104, u_108_107, u_108_108, u_108_111, u_108_113, u_108_114, u_108_115, u_108_117, u_108_118, u_108_119, u_108_122, u_108_124, u_108_125, u_108_126, u_108_129, u_108_132, u_108_133, wp_stop, lget, lput1, lput2, kil, hget, hset, vget, vset, fget, fgetC, fput, fputC, iget, igetC, jget, jgetC, qget, qgetC, alen, lenC, oI, oJ, oF, oA, oV, oH, oInc, oIld, oJld, oQld, oR, oLen, oIst, oBst, oJst, oQst, ciOf, rcv, oCp, cat1, cond_true, cond_false, Bool.and_self, Bool.and_true, Bool.true_and, Bool.or_true, Bool.true_or, Bool.or_false, Bool.false_or, Bool.not_false, Bool.not_true, ↓reduceIte, Nat.reduceBEq, Nat.reduceEqDiff, beq_self_eq_true, true_and, and_true, eq_self_iff_true, Nat.reduceAdd, Nat.blt, Nat.ble, z_le, z_lt, z_eq, z_cl, z_add, z_sub, z_mul, z_in, z_lt0, z_ofN, z_m1, z_ltm1, z_m1lt, z_eqm1, z_m1eq, z_m1le, z_lem1, z_beq, nI_0_1, nI_m1lt0, nI_0lem1, not_false_eq_true, not_true_eq_false, forall_const, false_implies, true_implies, implies_true, false_and, and_false, mrg, renc, tra, trv, sg, List.map_cons, List.map_nil, Option.map_some, Option.map_none, Option.toList_some, Option.toList_none, List.cons_append, List.nil_append, List.length_cons, List.length_nil, gH, gO, q94]
          refine CAL.dir hin (by omega) (Nat.zero_le _) (Nat.zero_le _) (Nat.le_of_ble_eq_true rfl) (by rw [ggn]; exact Nat.le_of_ble_eq_true rfl) rfl rfl ?_
          rintro _ _ ⟨rfl, rfl⟩
          simp (disch := first | exact rfl | decide | omega) only [u_108_0, u_108_1, u_108_4, u_108_5, u_108_6, u_108_8, u_108_11, u_108_12, u_108_13, u_108_16, u_108_19, u_108_22, u_108_25, u_108_26, u_108_27, u_108_28, u_108_29, u_108_32, u_108_33, u_108_34, u_108_37, u_108_38, u_108_41, u_108_43, u_108_46, u_108_47, u_108_48, u_108_49, u_108_50, u_108_53, u_108_54, u_108_55, u_108_58, u_108_59, u_108_62, u_108_65, u_108_66, u_108_67, u_108_68, u_108_69, u_108_72, u_108_73, u_108_74, u_108_77, u_108_78, u_108_80, u_108_83, u_108_85, u_108_88, u_108_89, u_108_91, u_108_92, u_108_93, u_108_94, u_108_96, u_108_98, u_108_100, u_108_103, u_108_104, u_108_107, u_108_108, u_108_111, u_108_113, u_108_114, u_108_115, u_108_117, u_108_118, u_108_119, u_108_122, u_108_124, u_108_125, u_108_126, u_108_129, u_108_132, u_108_133, wp_stop, lget, lput1, lput2, kil, hget, hset, vget, vset, fget, fgetC, fput, fputC, iget, igetC, jget, jgetC, qget, qgetC, alen, lenC, oI, oJ, oF, oA, oV, oH, oInc, oIld, oJld, oQld, oR, oLen, oIst, oBst, oJst, oQst, ciOf, rcv, oCp, cat1, cond_true, cond_false, Bool.and_self, Bool.and_true, Bool.true_and, Bool.or_true, Bool.true_or, Bool.or_false, Bool.false_or, Bool.not_false, Bool.not_true, ↓reduceIte, Nat.reduceBEq, Nat.reduceEqDiff, beq_self_eq_true, true_and, and_true, eq_self_iff_true, Nat.reduceAdd, Nat.blt, Nat.ble, z_le, z_lt, z_eq, z_cl, z_add, z_sub, z_mul, z_in, z_lt0, z_ofN, z_m1, z_ltm1, z_m1lt, z_eqm1, z_m1eq, z_m1le, z_lem1, z_beq, nI_0_1, nI_m1lt0, nI_0lem1, not_false_eq_true, not_true_eq_false, forall_const, false_implies, true_implies, implies_true, false_and, and_false, mrg, renc, tra, trv, sg, List.map_cons, List.map_nil, Option.map_some, Option.map_none, Option.toList_some, Option.toList_none, List.cons_append, List.nil_append, List.length_cons, List.length_nil, gH, gO, hb, n10]
          refine CAL.dir hh2 (by omega) (Nat.zero_le _) (Nat.zero_le _) (Nat.le_of_ble_eq_true rfl) (by rw [ggn]; exact Nat.le_of_ble_eq_true rfl) rfl rfl ?_
          rintro _ _ ⟨rfl, rfl⟩
          simp (disch := first | exact rfl | decide | omega) only [u_108_0, u_108_1, u_108_4, u_108_5, u_108_6, u_108_8, u_108_11, u_108_12, u_108_13, u_108_16, u_108_19, u_108_22, u_108_25, u_108_26, u_108_27, u_108_28, u_108_29, u_108_32, u_108_33, u_108_34, u_108_37, u_108_38, u_108_41, u_108_43, u_108_46, u_108_47, u_108_48, u_108_49, u_108_50, u_108_53, u_108_54, u_108_55, u_108_58, u_108_59, u_108_62, u_108_65, u_108_66, u_108_67, u_108_68, u_108_69, u_108_72, u_108_73, u_108_74, u_108_77, u_108_78, u_108_80, u_108_83, u_108_85, u_108_88, u_108_89, u_108_91, u_108_92, u_108_93, u_108_94, u_108_96, u_108_98, u_108_100, u_108_103, u_108_104, u_108_107, u_108_108, u_108_111, u_108_113, u_108_114, u_108_115, u_108_117, u_108_118, u_108_119, u_108_122, u_108_124, u_108_125, u_108_126, u_108_129, u_108_132, u_108_133, wp_stop, lget, lput1, lput2, kil, hget, hset, vget, vset, fget, fgetC, fput, fputC, iget, igetC, jget, jgetC, qget, qgetC, alen, lenC, oI, oJ, oF, oA, oV, oH, oInc, oIld, oJld, oQld, oR, oLen, oIst, oBst, oJst, oQst, ciOf, rcv, oCp, cat1, cond_true, cond_false, Bool.and_self, Bool.and_true, Bool.true_and, Bool.or_true, Bool.true_or, Bool.or_false, Bool.false_or, Bool.not_false, Bool.not_true, ↓reduceIte, Nat.reduceBEq, Nat.reduceEqDiff, beq_self_eq_true, true_and, and_true, eq_self_iff_true, Nat.reduceAdd, Nat.blt, Nat.ble, z_le, z_lt, z_eq, z_cl, z_add, z_sub, z_mul, z_in, z_lt0, z_ofN, z_m1, z_ltm1, z_m1lt, z_eqm1, z_m1eq, z_m1le, z_lem1, z_beq, nI_0_1, nI_m1lt0, nI_0lem1, not_false_eq_true, not_true_eq_false, forall_const, false_implies, true_implies, implies_true, false_and, and_false, mrg, renc, tra, trv, sg, List.map_cons, List.map_nil, Option.map_some, Option.map_none, Option.toList_some, Option.toList_none, List.cons_append, List.nil_append, List.length_cons, List.length_nil, gH, gO]
          exact hpp
      refine hpre ?_
      clear hpre hh hh2 hin
      cases hc2 : (skF cs3 (i2 + 1)).1 with
      | nil =>
        rw [hc2] at hbad
        have hf := hbad (skF cs3 (i2 + 1)).2 (nI (skF cs3 (i2 + 1)).2) gmd gop gom gwt gwm gtn gon rfl rfl
        have hhd : hdV [] = -1 := rfl
        rw [hhd]
        clear hbad hok hcs kd d1 d2 md
        generalize (skF cs3 (i2 + 1)).2 = i3 at *
        generalize T.length = len at *
        refine wp_aw (S := fun x => x == 96) (by decide) 200 _ _ _ _ _ _ ?_
        simp (disch := first | exact rfl | decide | omega) only [u_108_0, u_108_1, u_108_4, u_108_5, u_108_6, u_108_8, u_108_11, u_108_12, u_108_13, u_108_16, u_108_19, u_108_22, u_108_25, u_108_26, u_108_27, u_108_28, u_108_29, u_108_32, u_108_33, u_108_34, u_108_37, u_108_38, u_108_41, u_108_43, u_108_46, u_108_47, u_108_48, u_108_49, u_108_50, u_108_53, u_108_54, u_108_55, u_108_58, u_108_59, u_108_62, u_108_65, u_108_66, u_108_67, u_108_68, u_108_69, u_108_72, u_108_73, u_108_74, u_108_77, u_108_78, u_108_80, u_108_83, u_108_85, u_108_88, u_108_89, u_108_91, u_108_92, u_108_93, u_108_94, u_108_96, u_108_98, u_108_100, u_108_103, u_108_104, u_108_107, u_108_108, u_108_111, u_108_113, u_108_114, u_108_115, u_108_117, u_108_118, u_108_119, u_108_122, u_108_124, u_108_125, u_108_126, u_108_129, u_108_132, u_108_133, wp_stop, lget, lput1, lput2, kil, hget, hset, vget, vset, fget, fgetC, fput, fputC, iget, igetC, jget, jgetC, qget, qgetC, alen, lenC, oI, oJ, oF, oA, oV, oH, oInc, oIld, oJld, oQld, oR, oLen, oIst, oBst, oJst, oQst, ciOf, rcv, oCp, cat1, cond_true, cond_false, Bool.and_self, Bool.and_true, Bool.true_and, Bool.or_true, Bool.true_or, Bool.or_false, Bool.false_or, Bool.not_false, Bool.not_true, ↓reduceIte, Nat.reduceBEq, Nat.reduceEqDiff, beq_self_eq_true, true_and, and_true, eq_self_iff_true, Nat.reduceAdd, Nat.blt, Nat.ble, z_le, z_lt, z_eq, z_cl, z_add, z_sub, z_mul, z_in, z_lt0, z_ofN, z_m1, z_ltm1, z_m1lt, z_eqm1, z_m1eq, z_m1le, z_lem1, z_beq, nI_0_1, nI_m1lt0, nI_0lem1, not_false_eq_true, not_true_eq_false, forall_const, false_implies, true_implies, implies_true, false_and, and_false, mrg, renc, tra, trv, sg, List.map_cons, List.map_nil, Option.map_some, Option.map_none, Option.toList_some, Option.toList_none, List.cons_append, List.nil_append, List.length_cons, List.length_nil, gH, gO]
        exact hf
      | cons c2 cs4 =>
        have hc232 := m3 c2 cs4 hc2
        rw [hc2] at md hbad hok
        rw [ordF_c _ _ _ _ hc232] at hbad hok
        obtain ⟨e1, e2, e3⟩ := drop_get md
        obtain ⟨y1, y2⟩ := hT _ c2 e1
        have hhd : hdV (c2 :: cs4) = nI c2 := rfl
        rw [hhd]
        have hlc2 : cs4.length + 1 ≤ cs3.length := by
          rw [hc2, List.length_cons] at m2
          omega
        generalize (skF cs3 (i2 + 1)).2 = i3 at *
        have hi3 : i3 < 150 := by omega
        have hT1 : rdT (1, x, [], 0, 0, [], σ.Gr, σ.ord) c2 = if c2 = 61 then some (2, x, [], 0, 0, [], σ.Gr, σ.ord) else none := by
          unfold rdT
          rw [if_neg hph1, if_pos rfl]
        rw [hT1] at hbad hok
        by_cases q61 : c2 = 61
        · rw [if_pos q61] at hbad hok
          have hph2 : ¬ rS.ph (2, x, [], 0, 0, [], σ.Gr, σ.ord) = 0 := by show ¬ 2 = 0; decide
          simp only [if_neg hph2] at hbad hok
          have htp := g_takesPattern gal gps gst grf gmy gkd glf grt gpr gun gow gem ged gse gsz gtx gmd gop gom gwt gwm gtn gon gsh gtr gbl gbd gwh gfl gfd gfe 0 (i3 + 1) T cs4 hT hl e2 (by omega) x σ.ord σ.Gr hx9 (by omega)
          have hrdI : rdI (2, x, [], 0, 0, [], σ.Gr, σ.ord) := ⟨by show 2 ≤ 3; decide, by show σ.ord < 2 ^ 20; omega, fun _ => ⟨hx9, Nat.zero_le _, Nat.zero_le _, rfl, rfl, fun y hy => absurd hy List.not_mem_nil, fun y hy => absurd hy List.not_mem_nil, fun w => absurd w (show ¬ 2 = 3 by decide)⟩⟩
          have hgr := fun σ' cs' k => ordF_gr (σ := (2, x, [], 0, 0, [], σ.Gr, σ.ord)) (σ' := σ') (cs' := cs') (k := k) cs4 (i3 + 1) (by show 1 ≤ 2; decide) hrdI (by show σ.ord + cs4.length + 1 < 2 ^ 20; omega)
          have hst := fun σ' cs' k => ordF_st (T := T) (σ := (2, x, [], 0, 0, [], σ.Gr, σ.ord)) (σ' := σ') (cs' := cs') (k := k) cs4 (i3 + 1) e2 (by omega) hrdI (by show σ.ord + cs4.length + 1 < 2 ^ 20; omega)
          subst q61
          refine wp_aw (S := fun x => x == 96) (by decide) 200 _ _ _ _ _ _ ?_
          simp (disch := first | exact rfl | decide | omega) only [u_108_0, u_108_1, u_108_4, u_108_5, u_108_6, u_108_8, u_108_11, u_108_12, u_108_13, u_108_16, u_108_19, u_108_22, u_108_25, u_108_26, u_108_27, u_108_28, u_108_29, u_108_32, u_108_33, u_108_34, u_108_37, u_108_38, u_108_41, u_108_43, u_108_46, u_108_47, u_108_48, u_108_49, u_108_50, u_108_53, u_108_54, u_108_55, u_108_58, u_108_59, u_108_62, u_108_65, u_108_66, u_108_67, u_108_68, u_108_69, u_108_72, u_108_73, u_108_74, u_108_77, u_108_78, u_108_80, u_108_83, u_108_85, u_108_88, u_108_89, u_108_91, u_108_92, u_108_93, u_108_94, u_108_96, u_108_98, u_108_100, u_108_103, u_108_104, u_108_107, u_108_108, u_108_111, u_108_113, u_108_114, u_108_115, u_108_117, u_108_118, u_108_119, u_108_122, u_108_124, u_108_125, u_108_126, u_108_129, u_108_132, u_108_133, wp_stop, lget, lput1, lput2, kil, hget, hset, vget, vset, fget, fgetC, fput, fputC, iget, igetC, jget, jgetC, qget, qgetC, alen, lenC, oI, oJ, oF, oA, oV, oH, oInc, oIld, oJld, oQld, oR, oLen, oIst, oBst, oJst, oQst, ciOf, rcv, oCp, cat1, cond_true, cond_false, Bool.and_self, Bool.and_true, Bool.true_and, Bool.or_true, Bool.true_or, Bool.or_false, Bool.false_or, Bool.not_false, Bool.not_true, ↓reduceIte, Nat.reduceBEq, Nat.reduceEqDiff, beq_self_eq_true, true_and, and_true, eq_self_iff_true, Nat.reduceAdd, Nat.blt, Nat.ble, z_le, z_lt, z_eq, z_cl, z_add, z_sub, z_mul, z_in, z_lt0, z_ofN, z_m1, z_ltm1, z_m1lt, z_eqm1, z_m1eq, z_m1le, z_lem1, z_beq, nI_0_1, nI_m1lt0, nI_0lem1, not_false_eq_true, not_true_eq_false, forall_const, false_implies, true_implies, implies_true, false_and, and_false, mrg, renc, tra, trv, sg, List.map_cons, List.map_nil, Option.map_some, Option.map_none, Option.toList_some, Option.toList_none, List.cons_append, List.nil_append, List.length_cons, List.length_nil, gH, gO]
          refine CAL.dir htp (by omega) (Nat.zero_le _) (Nat.zero_le _) (Nat.le_of_ble_eq_true rfl) (by rw [ggn]; exact Nat.le_of_ble_eq_true rfl) rfl rfl ?_
          rintro r _ ⟨gsp, gmd, gop, gom, gwt, gwm, gtn, gon, rfl, hA, hB⟩
          cases hres : ordF (2, x, [], 0, 0, [], σ.Gr, σ.ord) cs4 (i3 + 1) with
          | inl j =>
            obtain ⟨rfl, hsp⟩ := hA j hres
            have hf := hbad j gsp gmd gop gom gwt gwm gtn gon hres hsp
            clear hbad hok hA hB hgr hst
            simp (disch := first | exact rfl | decide | omega) only [u_108_0, u_108_1, u_108_4, u_108_5, u_108_6, u_108_8, u_108_11, u_108_12, u_108_13, u_108_16, u_108_19, u_108_22, u_108_25, u_108_26, u_108_27, u_108_28, u_108_29, u_108_32, u_108_33, u_108_34, u_108_37, u_108_38, u_108_41, u_108_43, u_108_46, u_108_47, u_108_48, u_108_49, u_108_50, u_108_53, u_108_54, u_108_55, u_108_58, u_108_59, u_108_62, u_108_65, u_108_66, u_108_67, u_108_68, u_108_69, u_108_72, u_108_73, u_108_74, u_108_77, u_108_78, u_108_80, u_108_83, u_108_85, u_108_88, u_108_89, u_108_91, u_108_92, u_108_93, u_108_94, u_108_96, u_108_98, u_108_100, u_108_103, u_108_104, u_108_107, u_108_108, u_108_111, u_108_113, u_108_114, u_108_115, u_108_117, u_108_118, u_108_119, u_108_122, u_108_124, u_108_125, u_108_126, u_108_129, u_108_132, u_108_133, wp_stop, lget, lput1, lput2, kil, hget, hset, vget, vset, fget, fgetC, fput, fputC, iget, igetC, jget, jgetC, qget, qgetC, alen, lenC, oI, oJ, oF, oA, oV, oH, oInc, oIld, oJld, oQld, oR, oLen, oIst, oBst, oJst, oQst, ciOf, rcv, oCp, cat1, cond_true, cond_false, Bool.and_self, Bool.and_true, Bool.true_and, Bool.or_true, Bool.true_or, Bool.or_false, Bool.false_or, Bool.not_false, Bool.not_true, ↓reduceIte, Nat.reduceBEq, Nat.reduceEqDiff, beq_self_eq_true, true_and, and_true, eq_self_iff_true, Nat.reduceAdd, Nat.blt, Nat.ble, z_le, z_lt, z_eq, z_cl, z_add, z_sub, z_mul, z_in, z_lt0, z_ofN, z_m1, z_ltm1, z_m1lt, z_eqm1, z_m1eq, z_m1le, z_lem1, z_beq, nI_0_1, nI_m1lt0, nI_0lem1, not_false_eq_true, not_true_eq_false, forall_const, false_implies, true_implies, implies_true, false_and, and_false, mrg, renc, tra, trv, sg, List.map_cons, List.map_nil, Option.map_some, Option.map_none, Option.toList_some, Option.toList_none, List.cons_append, List.nil_append, List.length_cons, List.length_nil, gH, gO]
            exact hf
          | inr t =>
            obtain ⟨σ', cs', k⟩ := t
            obtain ⟨g1, g2⟩ := hgr σ' cs' k hres
            obtain ⟨s1, s2, s3, s4, s5, -, -, -⟩ := hst σ' cs' k hres
            obtain ⟨k', rfl⟩ : ∃ k', k = k' + 1 := ⟨k - 1, by omega⟩
            obtain ⟨rfl, hsp, hmd⟩ := hB σ' cs' k' hres
            subst hsp
            have hk' : k' < 150 := by omega
            have hGr : ∀ gal', cpG gal gal' gmd x → (∀ j, 441 ≤ j → gal' j = gal j) ∧ ((∀ y, y < 9 → paL gal y (σ.Gr y)) → ∀ y, y < 9 → paL gal' y (σ'.Gr y)) := fun gal' hcp => ⟨fun j hj => hcp.2 j (by omega), fun hpl y hy => by
              rw [g1]
              show paL gal' y (if y = x then σ'.L else σ.Gr y)
              by_cases z : y = x
              · rw [if_pos z, z]
                exact paL_cp hcp hmd
              · rw [if_neg z]
                exact paL_ot hcp z (hpl y hy)⟩
            have hfin : ∀ b2, AW 108 G 96 [some (.ref 0), some (.int (bN dn)), some (.int b2), some (.int (nI x)), some (.int (nI 0))] [] (gH gal gps gst grf gmy gkd glf grt gpr gun gow gem ged gse gsz gtx (nI T.length) (nI (k' + 1)) gmd gop gom gwt gwm gtn gon gsh gtr gbl gbd gwh gfl gfd gfe) 0 0 := by
              intro b2
              cases dn
              · have hf := hok σ' cs' (k' + 1) gal (nI (k' + 1)) gmd gop gom gwt gwm gtn gon hres rfl (fun _ => rfl) (fun w => by simp at w)
                clear hbad hok hA hB hgr hst hGr
                generalize T.length = len at *
                refine wq_aw (S := fun x => x == 96) (by decide) (f := 200) ?_
                simp (disch := first | exact rfl | decide | omega) only [v_108_96, u_108_0, u_108_1, u_108_4, u_108_5, u_108_6, u_108_8, u_108_11, u_108_12, u_108_13, u_108_16, u_108_19, u_108_22, u_108_25, u_108_26, u_108_27, u_108_28, u_108_29, u_108_32, u_108_33, u_108_34, u_108_37, u_108_38, u_108_41, u_108_43, u_108_46, u_108_47, u_108_48, u_108_49, u_108_50, u_108_53, u_108_54, u_108_55, u_108_58, u_108_59, u_108_62, u_108_65, u_108_66, u_108_67, u_108_68, u_108_69, u_108_72, u_108_73, u_108_74, u_108_77, u_108_78, u_108_80, u_108_83, u_108_85, u_108_88, u_108_89, u_108_91, u_108_92, u_108_93, u_108_94, u_108_96, u_108_98, u_108_100, u_108_103, u_108_104, u_108_107, u_108_108, u_108_111, u_108_113, u_108_114, u_108_115, u_108_117, u_108_118, u_108_119, u_108_122, u_108_124, u_108_125, u_108_126, u_108_129, u_108_132, u_108_133, wp_stop, lget, lput1, lput2, kil, hget, hset, vget, vset, fget, fgetC, fput, fputC, iget, igetC, jget, jgetC, qget, qgetC, alen, lenC, oI, oJ, oF, oA, oV, oH, oInc, oIld, oJld, oQld, oR, oLen, oIst, oBst, oJst, oQst, ciOf, rcv, oCp, cat1, cond_true, cond_false, Bool.and_self, Bool.and_true, Bool.true_and, Bool.or_true, Bool.true_or, Bool.or_false, Bool.false_or, Bool.not_false, Bool.not_true, ↓reduceIte, Nat.reduceBEq, Nat.reduceEqDiff, beq_self_eq_true, true_and, and_true, eq_self_iff_true, Nat.reduceAdd, Nat.blt, Nat.ble, z_le, z_lt, z_eq, z_cl, z_add, z_sub, z_mul, z_in, z_lt0, z_ofN, z_m1, z_ltm1, z_m1lt, z_eqm1, z_m1eq, z_m1le, z_lem1, z_beq, nI_0_1, nI_m1lt0, nI_0lem1, not_false_eq_true, not_true_eq_false, forall_const, false_implies, true_implies, implies_true, false_and, and_false, mrg, renc, tra, trv, sg, List.map_cons, List.map_nil, Option.map_some, Option.map_none, Option.toList_some, Option.toList_none, List.cons_append, List.nil_append, List.length_cons, List.length_nil, gH, gO, show ¬ (49 : Nat) ≤ 0 by decide, bNf]
                exact hf
              · exact l_ordCp gps gst grf gmy gkd glf grt gpr gun gow gem ged gse gsz gtx (nI T.length) (nI (k' + 1)) gmd gop gom gwt gwm gtn gon gsh gtr gbl gbd gwh gfl gfd gfe (G := G) x hx9 b2 gal (fun gal' hcp => hok σ' cs' (k' + 1) gal' (nI (k' + 1)) gmd gop gom gwt gwm gtn gon hres rfl (fun w => by simp at w) (fun _ => hGr gal' hcp)) 49 0 gal (by omega) (fun j hj => absurd hj (Nat.not_lt_zero j)) (fun j _ => rfl)
            clear hbad hok hA hB hgr hst hGr hmd
            rcases hxv with ⟨w1, w2⟩ | ⟨w1, w2, w3⟩
            · subst w1 w2
              have hg := hfin (nI 94)
              clear hfin
              simp (disch := first | exact rfl | decide | omega) only [u_108_0, u_108_1, u_108_4, u_108_5, u_108_6, u_108_8, u_108_11, u_108_12, u_108_13, u_108_16, u_108_19, u_108_22, u_108_25, u_108_26, u_108_27, u_108_28, u_108_29, u_108_32, u_108_33, u_108_34, u_108_37, u_108_38, u_108_41, u_108_43, u_108_46, u_108_47, u_108_48, u_108_49, u_108_50, u_108_53, u_108_54, u_108_55, u_108_58, u_108_59, u_108_62, u_108_65, u_108_66, u_108_67, u_108_68, u_108_69, u_108_72, u_108_73, u_108_74, u_108_77, u_108_78, u_108_80, u_108_83, u_108_85, u_108_88, u_108_89, u_108_91, u_108_92, u_108_93, u_108_94, u_108_96, u_108_98, u_108_100, u_108_103, u_108_104, u_108_107, u_108_108, u_108_111, u_108_113, u_108_114, u_108_115, u_108_117, u_108_118, u_108_119, u_108_122, u_108_124, u_108_125, u_108_126, u_108_129, u_108_132, u_108_133, wp_stop, lget, lput1, lput2, kil, hget, hset, vget, vset, fget, fgetC, fput, fputC, iget, igetC, jget, jgetC, qget, qgetC, alen, lenC, oI, oJ, oF, oA, oV, oH, oInc, oIld, oJld, oQld, oR, oLen, oIst, oBst, oJst, oQst, ciOf, rcv, oCp, cat1, cond_true, cond_false, Bool.and_self, Bool.and_true, Bool.true_and, Bool.or_true, Bool.true_or, Bool.or_false, Bool.false_or, Bool.not_false, Bool.not_true, ↓reduceIte, Nat.reduceBEq, Nat.reduceEqDiff, beq_self_eq_true, true_and, and_true, eq_self_iff_true, Nat.reduceAdd, Nat.blt, Nat.ble, z_le, z_lt, z_eq, z_cl, z_add, z_sub, z_mul, z_in, z_lt0, z_ofN, z_m1, z_ltm1, z_m1lt, z_eqm1, z_m1eq, z_m1le, z_lem1, z_beq, nI_0_1, nI_m1lt0, nI_0lem1, not_false_eq_true, not_true_eq_false, forall_const, false_implies, true_implies, implies_true, false_and, and_false, mrg, renc, tra, trv, sg, List.map_cons, List.map_nil, Option.map_some, Option.map_none, Option.toList_some, Option.toList_none, List.cons_append, List.nil_append, List.length_cons, List.length_nil, gH, gO, n10]
              exact hg
            · have hg := hfin (nI c)
              have n94 : ¬ c = 94 := by omega
              rw [w3] at hg
              clear hfin
              have esub : nI c - nI 97 = nI (c - 97) := z_sub w1
              simp (disch := first | exact rfl | decide | omega) only [u_108_0, u_108_1, u_108_4, u_108_5, u_108_6, u_108_8, u_108_11, u_108_12, u_108_13, u_108_16, u_108_19, u_108_22, u_108_25, u_108_26, u_108_27, u_108_28, u_108_29, u_108_32, u_108_33, u_108_34, u_108_37, u_108_38, u_108_41, u_108_43, u_108_46, u_108_47, u_108_48, u_108_49, u_108_50, u_108_53, u_108_54, u_108_55, u_108_58, u_108_59, u_108_62, u_108_65, u_108_66, u_108_67, u_108_68, u_108_69, u_108_72, u_108_73, u_108_74, u_108_77, u_108_78, u_108_80, u_108_83, u_108_85, u_108_88, u_108_89, u_108_91, u_108_92, u_108_93, u_108_94, u_108_96, u_108_98, u_108_100, u_108_103, u_108_104, u_108_107, u_108_108, u_108_111, u_108_113, u_108_114, u_108_115, u_108_117, u_108_118, u_108_119, u_108_122, u_108_124, u_108_125, u_108_126, u_108_129, u_108_132, u_108_133, wp_stop, lget, lput1, lput2, kil, hget, hset, vget, vset, fget, fgetC, fput, fputC, iget, igetC, jget, jgetC, qget, qgetC, alen, lenC, oI, oJ, oF, oA, oV, oH, oInc, oIld, oJld, oQld, oR, oLen, oIst, oBst, oJst, oQst, ciOf, rcv, oCp, cat1, cond_true, cond_false, Bool.and_self, Bool.and_true, Bool.true_and, Bool.or_true, Bool.true_or, Bool.or_false, Bool.false_or, Bool.not_false, Bool.not_true, ↓reduceIte, Nat.reduceBEq, Nat.reduceEqDiff, beq_self_eq_true, true_and, and_true, eq_self_iff_true, Nat.reduceAdd, Nat.blt, Nat.ble, z_le, z_lt, z_eq, z_cl, z_add, z_sub, z_mul, z_in, z_lt0, z_ofN, z_m1, z_ltm1, z_m1lt, z_eqm1, z_m1eq, z_m1le, z_lem1, z_beq, nI_0_1, nI_m1lt0, nI_0lem1, not_false_eq_true, not_true_eq_false, forall_const, false_implies, true_implies, implies_true, false_and, and_false, mrg, renc, tra, trv, sg, List.map_cons, List.map_nil, Option.map_some, Option.map_none, Option.toList_some, Option.toList_none, List.cons_append, List.nil_append, List.length_cons, List.length_nil, gH, gO, n10, n94]
              exact hg
        · rw [if_neg q61] at hbad
          have hf := hbad i3 (nI i3) gmd gop gom gwt gwm gtn gon rfl rfl
          clear hbad hok hcs kd d1 d2 md e1 e2
          generalize T.length = len at *
          refine wp_aw (S := fun x => x == 96) (by decide) 200 _ _ _ _ _ _ ?_
          simp (disch := first | exact rfl | decide | omega) only [u_108_0, u_108_1, u_108_4, u_108_5, u_108_6, u_108_8, u_108_11, u_108_12, u_108_13, u_108_16, u_108_19, u_108_22, u_108_25, u_108_26, u_108_27, u_108_28, u_108_29, u_108_32, u_108_33, u_108_34, u_108_37, u_108_38, u_108_41, u_108_43, u_108_46, u_108_47, u_108_48, u_108_49, u_108_50, u_108_53, u_108_54, u_108_55, u_108_58, u_108_59, u_108_62, u_108_65, u_108_66, u_108_67, u_108_68, u_108_69, u_108_72, u_108_73, u_108_74, u_108_77, u_108_78, u_108_80, u_108_83, u_108_85, u_108_88, u_108_89, u_108_91, u_108_92, u_108_93, u_108_94, u_108_96, u_108_98, u_108_100, u_108_103, u_108_104, u_108_107, u_108_108, u_108_111, u_108_113, u_108_114, u_108_115, u_108_117, u_108_118, u_108_119, u_108_122, u_108_124, u_108_125, u_108_126, u_108_129, u_108_132, u_108_133, wp_stop, lget, lput1, lput2, kil, hget, hset, vget, vset, fget, fgetC, fput, fputC, iget, igetC, jget, jgetC, qget, qgetC, alen, lenC, oI, oJ, oF, oA, oV, oH, oInc, oIld, oJld, oQld, oR, oLen, oIst, oBst, oJst, oQst, ciOf, rcv, oCp, cat1, cond_true, cond_false, Bool.and_self, Bool.and_true, Bool.true_and, Bool.or_true, Bool.true_or, Bool.or_false, Bool.false_or, Bool.not_false, Bool.not_true, ↓reduceIte, Nat.reduceBEq, Nat.reduceEqDiff, beq_self_eq_true, true_and, and_true, eq_self_iff_true, Nat.reduceAdd, Nat.blt, Nat.ble, z_le, z_lt, z_eq, z_cl, z_add, z_sub, z_mul, z_in, z_lt0, z_ofN, z_m1, z_ltm1, z_m1lt, z_eqm1, z_m1eq, z_m1le, z_lem1, z_beq, nI_0_1, nI_m1lt0, nI_0lem1, not_false_eq_true, not_true_eq_false, forall_const, false_implies, true_implies, implies_true, false_and, and_false, mrg, renc, tra, trv, sg, List.map_cons, List.map_nil, Option.map_some, Option.map_none, Option.toList_some, Option.toList_none, List.cons_append, List.nil_append, List.length_cons, List.length_nil, gH, gO, q61]
          exact hf
    · have hno : rdO σ c = none := by
        unfold rdO
        rw [if_neg (fun w => hown (Or.inl w)), if_neg (fun w => hown (Or.inr w))]
      rw [hno] at hbad
      have hf := hbad i2 (nI i2) gmd gop gom gwt gwm gtn gon rfl rfl
      have n94 : ¬ c = 94 := fun w => hown (Or.inl w)
      have eLt : (Nat.ble 97 c && Nat.ble c 104) = false := by
        rw [← Bool.not_eq_true, Bool.and_eq_true, Nat.ble_eq, Nat.ble_eq]
        exact fun w => hown (Or.inr w)
      rw [eLt] at hin
      clear hbad hok hcs kd d1 d2
      generalize T.length = len at *
      refine wp_aw (S := fun _ => false) (by decide) 200 _ _ _ _ _ _ ?_
      simp (disch := first | exact rfl | decide | omega) only [u_108_0, u_108_1, u_108_4, u_108_5, u_108_6, u_108_8, u_108_11, u_108_12, u_108_13, u_108_16, u_108_19, u_108_22, u_108_25, u_108_26, u_108_27, u_108_28, u_108_29, u_108_32, u_108_33, u_108_34, u_108_37, u_108_38, u_108_41, u_108_43, u_108_46, u_108_47, u_108_48, u_108_49, u_108_50, u_108_53, u_108_54, u_108_55, u_108_58, u_108_59, u_108_62, u_108_65, u_108_66, u_108_67, u_108_68, u_108_69, u_108_72, u_108_73, u_108_74, u_108_77, u_108_78, u_108_80, u_108_83, u_108_85, u_108_88, u_108_89, u_108_91, u_108_92, u_108_93, u_108_94, u_108_96, u_108_98, u_108_100, u_108_103, u_108_104, u_108_107, u_108_108, u_108_111, u_108_113, u_108_114, u_108_115, u_108_117, u_108_118, u_108_119, u_108_122, u_108_124, u_108_125, u_108_126, u_108_129, u_108_132, u_108_133, wp_stop, lget, lput1, lput2, kil, hget, hset, vget, vset, fget, fgetC, fput, fputC, iget, igetC, jget, jgetC, qget, qgetC, alen, lenC, oI, oJ, oF, oA, oV, oH, oInc, oIld, oJld, oQld, oR, oLen, oIst, oBst, oJst, oQst, ciOf, rcv, oCp, cat1, cond_true, cond_false, Bool.and_self, Bool.and_true, Bool.true_and, Bool.or_true, Bool.true_or, Bool.or_false, Bool.false_or, Bool.not_false, Bool.not_true, ↓reduceIte, Nat.reduceBEq, Nat.reduceEqDiff, beq_self_eq_true, true_and, and_true, eq_self_iff_true, Nat.reduceAdd, Nat.blt, Nat.ble, z_le, z_lt, z_eq, z_cl, z_add, z_sub, z_mul, z_in, z_lt0, z_ofN, z_m1, z_ltm1, z_m1lt, z_eqm1, z_m1eq, z_m1le, z_lem1, z_beq, nI_0_1, nI_m1lt0, nI_0lem1, not_false_eq_true, not_true_eq_false, forall_const, false_implies, true_implies, implies_true, false_and, and_false, mrg, renc, tra, trv, sg, List.map_cons, List.map_nil, Option.map_some, Option.map_none, Option.toList_some, Option.toList_none, List.cons_append, List.nil_append, List.length_cons, List.length_nil, eL, mL_108, gH, gO]
      refine CAL.dir (hh) (by rw [ggd]; omega) (by rw [ggc]; omega) (by rw [ggs]; omega) (Nat.le_of_ble_eq_true rfl) (by rw [ggn]; exact Nat.le_of_ble_eq_true rfl) rfl rfl ?_
      rintro _ _ ⟨rfl, rfl⟩
      simp (disch := first | exact rfl | decide | omega) only [u_108_0, u_108_1, u_108_4, u_108_5, u_108_6, u_108_8, u_108_11, u_108_12, u_108_13, u_108_16, u_108_19, u_108_22, u_108_25, u_108_26, u_108_27, u_108_28, u_108_29, u_108_32, u_108_33, u_108_34, u_108_37, u_108_38, u_108_41, u_108_43, u_108_46, u_108_47, u_108_48, u_108_49, u_108_50, u_108_53, u_108_54, u_108_55, u_108_58, u_108_59, u_108_62, u_108_65, u_108_66, u_108_67, u_108_68, u_108_69, u_108_72, u_108_73, u_108_74, u_108_77, u_108_78, u_108_80, u_108_83, u_108_85, u_108_88, u_108_89, u_108_91, u_108_92, u_108_93, u_108_94, u_108_96, u_108_98, u_108_100, u_108_103, u_108_104, u_108_107, u_108_108, u_108_111, u_108_113, u_108_114, u_108_115, u_108_117, u_108_118, u_108_119, u_108_122, u_108_124, u_108_125, u_108_126, u_108_129, u_108_132, u_108_133, wp_stop, lget, lput1, lput2, kil, hget, hset, vget, vset, fget, fgetC, fput, fputC, iget, igetC, jget, jgetC, qget, qgetC, alen, lenC, oI, oJ, oF, oA, oV, oH, oInc, oIld, oJld, oQld, oR, oLen, oIst, oBst, oJst, oQst, ciOf, rcv, oCp, cat1, cond_true, cond_false, Bool.and_self, Bool.and_true, Bool.true_and, Bool.or_true, Bool.true_or, Bool.or_false, Bool.false_or, Bool.not_false, Bool.not_true, ↓reduceIte, Nat.reduceBEq, Nat.reduceEqDiff, beq_self_eq_true, true_and, and_true, eq_self_iff_true, Nat.reduceAdd, Nat.blt, Nat.ble, z_le, z_lt, z_eq, z_cl, z_add, z_sub, z_mul, z_in, z_lt0, z_ofN, z_m1, z_ltm1, z_m1lt, z_eqm1, z_m1eq, z_m1le, z_lem1, z_beq, nI_0_1, nI_m1lt0, nI_0lem1, not_false_eq_true, not_true_eq_false, forall_const, false_implies, true_implies, implies_true, false_and, and_false, mrg, renc, tra, trv, sg, List.map_cons, List.map_nil, Option.map_some, Option.map_none, Option.toList_some, Option.toList_none, List.cons_append, List.nil_append, List.length_cons, List.length_nil, gH, gO, n94]
      refine CAL.dir (hin) (by rw [ggd]; omega) (by rw [ggc]; omega) (by rw [ggs]; omega) (Nat.le_of_ble_eq_true rfl) (by rw [ggn]; exact Nat.le_of_ble_eq_true rfl) rfl rfl ?_
      rintro _ _ ⟨rfl, rfl⟩
      simp (disch := first | exact rfl | decide | omega) only [u_108_0, u_108_1, u_108_4, u_108_5, u_108_6, u_108_8, u_108_11, u_108_12, u_108_13, u_108_16, u_108_19, u_108_22, u_108_25, u_108_26, u_108_27, u_108_28, u_108_29, u_108_32, u_108_33, u_108_34, u_108_37, u_108_38, u_108_41, u_108_43, u_108_46, u_108_47, u_108_48, u_108_49, u_108_50, u_108_53, u_108_54, u_108_55, u_108_58, u_108_59, u_108_62, u_108_65, u_108_66, u_108_67, u_108_68, u_108_69, u_108_72, u_108_73, u_108_74, u_108_77, u_108_78, u_108_80, u_108_83, u_108_85, u_108_88, u_108_89, u_108_91, u_108_92, u_108_93, u_108_94, u_108_96, u_108_98, u_108_100, u_108_103, u_108_104, u_108_107, u_108_108, u_108_111, u_108_113, u_108_114, u_108_115, u_108_117, u_108_118, u_108_119, u_108_122, u_108_124, u_108_125, u_108_126, u_108_129, u_108_132, u_108_133, wp_stop, lget, lput1, lput2, kil, hget, hset, vget, vset, fget, fgetC, fput, fputC, iget, igetC, jget, jgetC, qget, qgetC, alen, lenC, oI, oJ, oF, oA, oV, oH, oInc, oIld, oJld, oQld, oR, oLen, oIst, oBst, oJst, oQst, ciOf, rcv, oCp, cat1, cond_true, cond_false, Bool.and_self, Bool.and_true, Bool.true_and, Bool.or_true, Bool.true_or, Bool.or_false, Bool.false_or, Bool.not_false, Bool.not_true, ↓reduceIte, Nat.reduceBEq, Nat.reduceEqDiff, beq_self_eq_true, true_and, and_true, eq_self_iff_true, Nat.reduceAdd, Nat.blt, Nat.ble, z_le, z_lt, z_eq, z_cl, z_add, z_sub, z_mul, z_in, z_lt0, z_ofN, z_m1, z_ltm1, z_m1lt, z_eqm1, z_m1eq, z_m1le, z_lem1, z_beq, nI_0_1, nI_m1lt0, nI_0lem1, not_false_eq_true, not_true_eq_false, forall_const, false_implies, true_implies, implies_true, false_and, and_false, mrg, renc, tra, trv, sg, List.map_cons, List.map_nil, Option.map_some, Option.map_none, Option.toList_some, Option.toList_none, List.cons_append, List.nil_append, List.length_cons, List.length_nil, gH, gO, bNf]
      exact hf
end GM
