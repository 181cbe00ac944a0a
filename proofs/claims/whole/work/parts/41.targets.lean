/-! Machine.findTargets -/
/-- a plan's contents, places as a number -/
abbrev pP (root : Int32) (S : Nat) (sorts mc lv : Int32) (kd sa la sp sh : Nat → Int32) (N : Nat) (tr : Nat → Int32) (nm : Nat) (mo ms me : Nat → Int32) : PS := (root, nI S, sorts, mc, lv, kd, sa, la, sp, sh, N, tr, nm, mo, N, ms, N, me)
/-- the moves of each place as they stand in a plan's rows -/
def plG (S N nm : Nat) (mo ms me : Nat → Int32) (gm : Nat → List (Nat × Nat)) : Prop := S ≤ 256 ∧ S ≤ N ∧ N < 2 ^ 20 ∧ nm < 2 ^ 21 ∧ ∀ p, p < S → ∃ a, ms p = nI a ∧ me p = nI (a + (gm p).length) ∧ a + (gm p).length ≤ nm ∧ mvOk mo a (gm p) ∧ ∀ m ∈ gm p, m.2 < S
/-- the places of the first words -/
def plW (f : Nat → Int64) : Nat → List Nat
  | 0 => []
  | w + 1 => plW f w ++ (bitsOf 64 (f w).toBitVec.toNat).map (w * 64 + ·)
/-- what a sort leads to from one place more -/
def tgF (tr : Nat → Int32) (x : Nat) (gm : Nat → List (Nat × Nat)) (z : (Nat → Int64) × Int32) (p : Nat) : (Nat → Int64) × Int32 := (((gm p).foldl (adS tr x) (z.1, nI 0)).1, z.2 ||| ((gm p).foldl (adS tr x) (z.1, nI 0)).2)
section FT
variable (root : Int32) (S : Nat) (sorts mc lv : Int32) (kd sa la sp sh : Nat → Int32) (N : Nat) (ptr : Nat → Int32) (nm : Nat) (mo ms me : Nat → Int32)
variable (pat : Int64) (W k : Nat) (counted : Int32) (nse : Nat) (se : Nat → Int64) (nt : Nat) (nx tr ol nw : Nat → Int32) (co : Nat → Int32)
abbrev ftH (z : (Nat → Int64) × Int32) : aH := mH (pP root S sorts mc lv kd sa la sp sh N ptr nm mo ms me) (mM pat W k z.2 counted nse se nt nx tr ol nw z.1 co)
set_option maxRecDepth 100000 in
theorem l_ft1 {G : aG} (gm : Nat → List (Nat × Nat)) (hpl : plG S N nm mo ms me gm) (s x w : Nat) (hx : x < 8) (hw : w < 4) (hSW : S ≤ 256) (hd : 2 ≤ gD G) (ggn : gN G = 18) :
    ∀ (B : List Nat) (bits : Int64) (z : (Nat → Int64) × Int32) (v : Option Value), bitsOf 64 bits.toBitVec.toNat = B → (∀ t ∈ B, w * 64 + t < S) →
    (∀ bits' v', AW 72 G 106 [some (.ref 0), some (.int (nI s)), some (.int (nI x)), some (.int (nI w)), some (.long bits'), none, some (.int (nI 0)), v'] [] (ftH root S sorts mc lv kd sa la sp sh N ptr nm mo ms me pat W k counted nse se nt nx tr ol nw co ((B.map (w * 64 + ·)).foldl (tgF ptr x gm) z)) 0 0) →
    okL 18 nomv [v] = true →
    AW 72 G 45 [some (.ref 0), some (.int (nI s)), some (.int (nI x)), some (.int (nI w)), some (.long bits), none, some (.int (nI B.length)), v] [] (ftH root S sorts mc lv kd sa la sp sh N ptr nm mo ms me pat W k counted nse se nt nx tr ol nw co z) 0 0 := by
  intro B
  induction B with
  | nil =>
    intro bits z v hB hS2 hgo hv
    have t1 : (0 : Nat) ≤ 0 := Nat.le_refl _
    refine wq_aw (S := fun x => x == 45 || x == 106) (by decide) (f := 200) ?_
    simp (disch := first | exact rfl | decide | omega) only [v_72_15, v_72_45, u_72_0, u_72_1, u_72_4, u_72_5, u_72_8, u_72_9, u_72_10, u_72_13, u_72_14, u_72_15, u_72_16, u_72_17, u_72_20, u_72_23, u_72_24, u_72_27, u_72_28, u_72_29, u_72_32, u_72_33, u_72_34, u_72_35, u_72_36, u_72_38, u_72_40, u_72_43, u_72_45, u_72_47, u_72_50, u_72_52, u_72_54, u_72_55, u_72_56, u_72_57, u_72_58, u_72_61, u_72_63, u_72_64, u_72_65, u_72_68, u_72_69, u_72_72, u_72_73, u_72_75, u_72_76, u_72_78, u_72_79, u_72_80, u_72_81, u_72_84, u_72_87, u_72_88, u_72_91, u_72_93, u_72_95, u_72_96, u_72_97, u_72_98, u_72_100, u_72_103, u_72_106, u_72_109, u_72_112, wp_stop, lget, lput1, lput2, kil, hget, hset, vget, vset, fget, fgetC, fput, fputC, iget, igetC, jget, jgetC, qget, qgetC, alen, lenC, oI, oJ, oF, oA, oV, oH, oInc, oIld, oJld, oQld, oR, oLen, oIst, oBst, oJst, oQst, ciOf, rcv, oCp, cat1, cond_true, cond_false, Bool.and_self, Bool.and_true, Bool.true_and, Bool.or_true, Bool.true_or, Bool.or_false, Bool.false_or, Bool.not_false, Bool.not_true, ↓reduceIte, Nat.reduceBEq, Nat.reduceEqDiff, beq_self_eq_true, true_and, and_true, eq_self_iff_true, Nat.reduceAdd, Nat.blt, Nat.ble, z_le, z_lt, z_eq, z_cl, z_add, z_sub, z_mul, z_in, z_lt0, z_ofN, z_m1, z_ltm1, z_m1lt, z_eqm1, z_m1eq, z_m1le, z_lem1, z_beq, nI_0_1, nI_m1lt0, nI_0lem1, not_false_eq_true, not_true_eq_false, forall_const, false_implies, true_implies, implies_true, false_and, and_false, mrg, renc, tra, trv, sg, List.map_cons, List.map_nil, Option.map_some, Option.map_none, Option.toList_some, Option.toList_none, List.cons_append, List.nil_append, List.length_cons, List.length_nil, ftH, mH, mO, mM, MS.pat, MS.words, MS.known, MS.ft, MS.counted, MS.nse, MS.se, MS.nnx, MS.nx, MS.ntr, MS.tr, MS.nol, MS.ol, MS.nw, MS.fo, MS.co, pP, mPO, PS.root, PS.places, PS.sorts, PS.mc, PS.lv, PS.kd, PS.sa, PS.la, PS.sp, PS.sh, PS.nt, PS.tr, PS.nm, PS.mo, PS.ns, PS.ms, PS.ne, PS.me, t1]
    exact hgo bits v
  | cons t B ih =>
    intro bits z v hB hS2 hgo hv
    have hne : bits.toBitVec.toNat ≠ 0 := by
      intro q
      rw [q] at hB
      exact absurd hB (by decide)
    obtain ⟨t', h1, h2, h3⟩ := low64 bits hne
    rw [hB] at h3
    obtain ⟨rfl, hB2⟩ := List.cons.inj h3
    have hlen : B.length < 64 := by
      have : (t :: B).length ≤ 64 := by
        rw [← hB]
        unfold bitsOf
        exact Nat.le_trans (List.length_filter_le _ _) (by rw [List.length_range]; exact Nat.le_refl _)
      rw [List.length_cons] at this
      omega
    have t1 : ¬ B.length + 1 ≤ 0 := by omega
    have hp : w * 64 + t < S := hS2 t (List.mem_cons_self ..)
    obtain ⟨a, p1, p2, p3, p4, p5⟩ := hpl.2.2.2.2 (w * 64 + t) hp
    have e0 : B.length + 1 - 1 = B.length := by omega
    have e9 : 0 < B.length + 1 := by omega
    refine wq_aw (S := fun x => x == 45 || x == 106) (by decide) (f := 200) ?_
    simp (disch := first | exact rfl | decide | omega) only [v_72_15, v_72_45, u_72_0, u_72_1, u_72_4, u_72_5, u_72_8, u_72_9, u_72_10, u_72_13, u_72_14, u_72_15, u_72_16, u_72_17, u_72_20, u_72_23, u_72_24, u_72_27, u_72_28, u_72_29, u_72_32, u_72_33, u_72_34, u_72_35, u_72_36, u_72_38, u_72_40, u_72_43, u_72_45, u_72_47, u_72_50, u_72_52, u_72_54, u_72_55, u_72_56, u_72_57, u_72_58, u_72_61, u_72_63, u_72_64, u_72_65, u_72_68, u_72_69, u_72_72, u_72_73, u_72_75, u_72_76, u_72_78, u_72_79, u_72_80, u_72_81, u_72_84, u_72_87, u_72_88, u_72_91, u_72_93, u_72_95, u_72_96, u_72_97, u_72_98, u_72_100, u_72_103, u_72_106, u_72_109, u_72_112, wp_stop, lget, lput1, lput2, kil, hget, hset, vget, vset, fget, fgetC, fput, fputC, iget, igetC, jget, jgetC, qget, qgetC, alen, lenC, oI, oJ, oF, oA, oV, oH, oInc, oIld, oJld, oQld, oR, oLen, oIst, oBst, oJst, oQst, ciOf, rcv, oCp, cat1, cond_true, cond_false, Bool.and_self, Bool.and_true, Bool.true_and, Bool.or_true, Bool.true_or, Bool.or_false, Bool.false_or, Bool.not_false, Bool.not_true, ↓reduceIte, Nat.reduceBEq, Nat.reduceEqDiff, beq_self_eq_true, true_and, and_true, eq_self_iff_true, Nat.reduceAdd, Nat.blt, Nat.ble, z_le, z_lt, z_eq, z_cl, z_add, z_sub, z_mul, z_in, z_lt0, z_ofN, z_m1, z_ltm1, z_m1lt, z_eqm1, z_m1eq, z_m1le, z_lem1, z_beq, nI_0_1, nI_m1lt0, nI_0lem1, not_false_eq_true, not_true_eq_false, forall_const, false_implies, true_implies, implies_true, false_and, and_false, mrg, renc, tra, trv, sg, List.map_cons, List.map_nil, Option.map_some, Option.map_none, Option.toList_some, Option.toList_none, List.cons_append, List.nil_append, List.length_cons, List.length_nil, ftH, mH, mO, mM, MS.pat, MS.words, MS.known, MS.ft, MS.counted, MS.nse, MS.se, MS.nnx, MS.nx, MS.ntr, MS.tr, MS.nol, MS.ol, MS.nw, MS.fo, MS.co, pP, mPO, PS.root, PS.places, PS.sorts, PS.mc, PS.lv, PS.kd, PS.sa, PS.la, PS.sp, PS.sh, PS.nt, PS.tr, PS.nm, PS.mo, PS.ns, PS.ms, PS.ne, PS.me, t1]
    refine CAL.nm (c_bitL 0 ((bits &&& -bits) - lN 1)) [] rfl rfl rfl List.nodup_nil rfl (fun r hc' q => Nat.zero_le _) (by omega) (Nat.zero_le _) (Nat.zero_le _) (Nat.le_of_ble_eq_true rfl) (by rw [ggn]; exact Nat.le_of_ble_eq_true rfl) (by simp only [okL, hv]; simp [okL] at hv; simp [okV, okL, hv]) rfl ?_
    rintro _ _ ⟨rfl, rfl⟩
    rw [h2]
    simp (disch := first | exact rfl | decide | omega) only [u_72_0, u_72_1, u_72_4, u_72_5, u_72_8, u_72_9, u_72_10, u_72_13, u_72_14, u_72_15, u_72_16, u_72_17, u_72_20, u_72_23, u_72_24, u_72_27, u_72_28, u_72_29, u_72_32, u_72_33, u_72_34, u_72_35, u_72_36, u_72_38, u_72_40, u_72_43, u_72_45, u_72_47, u_72_50, u_72_52, u_72_54, u_72_55, u_72_56, u_72_57, u_72_58, u_72_61, u_72_63, u_72_64, u_72_65, u_72_68, u_72_69, u_72_72, u_72_73, u_72_75, u_72_76, u_72_78, u_72_79, u_72_80, u_72_81, u_72_84, u_72_87, u_72_88, u_72_91, u_72_93, u_72_95, u_72_96, u_72_97, u_72_98, u_72_100, u_72_103, u_72_106, u_72_109, u_72_112, wp_stop, lget, lput1, lput2, kil, hget, hset, vget, vset, fget, fgetC, fput, fputC, iget, igetC, jget, jgetC, qget, qgetC, alen, lenC, oI, oJ, oF, oA, oV, oH, oInc, oIld, oJld, oQld, oR, oLen, oIst, oBst, oJst, oQst, ciOf, rcv, oCp, cat1, cond_true, cond_false, Bool.and_self, Bool.and_true, Bool.true_and, Bool.or_true, Bool.true_or, Bool.or_false, Bool.false_or, Bool.not_false, Bool.not_true, ↓reduceIte, Nat.reduceBEq, Nat.reduceEqDiff, beq_self_eq_true, true_and, and_true, eq_self_iff_true, Nat.reduceAdd, Nat.blt, Nat.ble, z_le, z_lt, z_eq, z_cl, z_add, z_sub, z_mul, z_in, z_lt0, z_ofN, z_m1, z_ltm1, z_m1lt, z_eqm1, z_m1eq, z_m1le, z_lem1, z_beq, nI_0_1, nI_m1lt0, nI_0lem1, not_false_eq_true, not_true_eq_false, forall_const, false_implies, true_implies, implies_true, false_and, and_false, mrg, renc, tra, trv, sg, List.map_cons, List.map_nil, Option.map_some, Option.map_none, Option.toList_some, Option.toList_none, List.cons_append, List.nil_append, List.length_cons, List.length_nil, ftH, mH, mO, mM, MS.pat, MS.words, MS.known, MS.ft, MS.counted, MS.nse, MS.se, MS.nnx, MS.nx, MS.ntr, MS.tr, MS.nol, MS.ol, MS.nw, MS.fo, MS.co, pP, mPO, PS.root, PS.places, PS.sorts, PS.mc, PS.lv, PS.kd, PS.sa, PS.la, PS.sp, PS.sh, PS.nt, PS.tr, PS.nm, PS.mo, PS.ns, PS.ms, PS.ne, PS.me]
    refine CAL.nm (c_addTargets 0 root sorts mc lv kd sa la sp sh S N nm 4 (w * 64 + t) x a ptr mo ms me z.1 (gm (w * 64 + t)) hpl.1 hpl.2.1 hpl.2.2.1 hp hx (by omega) (by omega) p1 p2 p3 hpl.2.2.2.1 p4 p5) [1, 2, 3, 4, 5, 6, 7, 8, 9, 10, 16] rfl rfl rfl (by decide) rfl ?_ (by omega) (Nat.zero_le _) (Nat.zero_le _) (Nat.le_of_ble_eq_true rfl) (by rw [ggn]; exact Nat.le_of_ble_eq_true rfl) rfl rfl ?_
    · rintro r hc' ⟨-, rfl⟩
      exact Nat.le_of_ble_eq_true rfl
    rintro _ _ ⟨rfl, rfl⟩
    simp (disch := first | exact rfl | decide | omega) only [u_72_0, u_72_1, u_72_4, u_72_5, u_72_8, u_72_9, u_72_10, u_72_13, u_72_14, u_72_15, u_72_16, u_72_17, u_72_20, u_72_23, u_72_24, u_72_27, u_72_28, u_72_29, u_72_32, u_72_33, u_72_34, u_72_35, u_72_36, u_72_38, u_72_40, u_72_43, u_72_45, u_72_47, u_72_50, u_72_52, u_72_54, u_72_55, u_72_56, u_72_57, u_72_58, u_72_61, u_72_63, u_72_64, u_72_65, u_72_68, u_72_69, u_72_72, u_72_73, u_72_75, u_72_76, u_72_78, u_72_79, u_72_80, u_72_81, u_72_84, u_72_87, u_72_88, u_72_91, u_72_93, u_72_95, u_72_96, u_72_97, u_72_98, u_72_100, u_72_103, u_72_106, u_72_109, u_72_112, wp_stop, lget, lput1, lput2, kil, hget, hset, vget, vset, fget, fgetC, fput, fputC, iget, igetC, jget, jgetC, qget, qgetC, alen, lenC, oI, oJ, oF, oA, oV, oH, oInc, oIld, oJld, oQld, oR, oLen, oIst, oBst, oJst, oQst, ciOf, rcv, oCp, cat1, cond_true, cond_false, Bool.and_self, Bool.and_true, Bool.true_and, Bool.or_true, Bool.true_or, Bool.or_false, Bool.false_or, Bool.not_false, Bool.not_true, ↓reduceIte, Nat.reduceBEq, Nat.reduceEqDiff, beq_self_eq_true, true_and, and_true, eq_self_iff_true, Nat.reduceAdd, Nat.blt, Nat.ble, z_le, z_lt, z_eq, z_cl, z_add, z_sub, z_mul, z_in, z_lt0, z_ofN, z_m1, z_ltm1, z_m1lt, z_eqm1, z_m1eq, z_m1le, z_lem1, z_beq, nI_0_1, nI_m1lt0, nI_0lem1, not_false_eq_true, not_true_eq_false, forall_const, false_implies, true_implies, implies_true, false_and, and_false, mrg, renc, tra, trv, sg, List.map_cons, List.map_nil, Option.map_some, Option.map_none, Option.toList_some, Option.toList_none, List.cons_append, List.nil_append, List.length_cons, List.length_nil, ftH, mH, mO, mM, MS.pat, MS.words, MS.known, MS.ft, MS.counted, MS.nse, MS.se, MS.nnx, MS.nx, MS.ntr, MS.tr, MS.nol, MS.ol, MS.nw, MS.fo, MS.co, pP, mPO, PS.root, PS.places, PS.sorts, PS.mc, PS.lv, PS.kd, PS.sa, PS.la, PS.sp, PS.sh, PS.nt, PS.tr, PS.nm, PS.mo, PS.ns, PS.ms, PS.ne, PS.me, e0]
    exact ih _ (tgF ptr x gm z (w * 64 + t)) _ hB2.symm (fun u hu => hS2 u (List.mem_cons_of_mem _ hu)) hgo rfl
end FT
