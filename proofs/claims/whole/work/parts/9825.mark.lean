/-! ResidualJudgeModel: judge, mark -/
theorem fd_self {s : UInt32} (h : shR s) : FP.fcmp s s = some .eq := by
  rcases h with rfl | ⟨h1, h2⟩
  · decide
  · obtain ⟨E, T, hT, hx⟩ : ∃ E T, T < 8388608 ∧ s.toNat = E * 8388608 + T := ⟨s.toNat / 8388608, s.toNat % 8388608, by omega, by omega⟩
    show FP.Core.order (FP.Core.decode FP.Core.b32 s.toNat) (FP.Core.decode FP.Core.b32 s.toNat) = _
    rw [hx, fd_dec (by omega) (by omega) hT]
    show some (compare (((8388608 + T) * 2 ^ ((E : Int) - 150 - min ((E : Int) - 150) ((E : Int) - 150)).toNat : Nat) : Int) (((8388608 + T) * 2 ^ ((E : Int) - 150 - min ((E : Int) - 150) ((E : Int) - 150)).toNat : Nat) : Int)) = _
    congr 1
    rw [Int.compare_eq_eq]
theorem to_nI (s : UInt32) : s.toInt32 = nI s.toNat := by
  apply Int32.toBitVec_inj.1
  show s.toBitVec = BitVec.ofNat 32 s.toBitVec.toNat
  rw [BitVec.ofNat_toNat, BitVec.setWidth_eq]
theorem cv_l0 : Op.cmpValue (some .eq) .l = nI 0 := by decide
set_option maxRecDepth 100000 in
theorem g_isNaN (d : Nat) (s : UInt32) (hs : shR s) (h : aH) : aSp d 145 [.float s] h nomv 0 0 (fun r h' => r = some (.int (nI 0)) ∧ h' = h) := by
  refine sp_of (by decide) (Nat.le_of_ble_eq_true rfl) ?_
  generalize hG : ((d, _, nomv, _, _, _) : aG) = G
  have hret : RET G (some (.int (nI 0))) h 0 0 := by
    subst hG
    exact RET.id ⟨rfl, rfl⟩ (Nat.le_refl _) (Nat.le_refl _)
  clear hG
  have f1 : Op.cmpValue (FP.fcmp s s) .l = nI 0 := by rw [fd_self hs]; exact cv_l0
  refine wp_aw (S := fun _ => false) (by decide) 200 _ _ _ _ _ _ ?_
  simp (disch := first | exact rfl | decide | omega) only [u_145_0, u_145_1, u_145_2, u_145_3, u_145_6, u_145_7, u_145_10, u_145_11, wp_stop, lget, lput1, lput2, kil, hget, hset, vget, vset, fget, fgetC, fput, fputC, iget, igetC, jget, jgetC, qget, qgetC, alen, lenC, oI, oJ, oF, oA, oV, oH, oInc, oIld, oJld, oQld, oR, oLen, oIst, oBst, oJst, oQst, ciOf, rcv, oCp, cat1, cond_true, cond_false, Bool.and_self, Bool.and_true, Bool.true_and, Bool.or_true, Bool.true_or, Bool.or_false, Bool.false_or, Bool.not_false, Bool.not_true, ↓reduceIte, Nat.reduceBEq, Nat.reduceEqDiff, beq_self_eq_true, true_and, and_true, eq_self_iff_true, Nat.reduceAdd, Nat.blt, Nat.ble, z_le, z_lt, z_eq, z_cl, z_add, z_sub, z_mul, z_in, z_lt0, z_ofN, z_m1, z_ltm1, z_m1lt, z_eqm1, z_m1eq, z_m1le, z_lem1, z_beq, nI_0_1, nI_m1lt0, nI_0lem1, not_false_eq_true, not_true_eq_false, forall_const, false_implies, true_implies, implies_true, false_and, and_false, mrg, renc, tra, trv, sg, List.map_cons, List.map_nil, Option.map_some, Option.map_none, Option.toList_some, Option.toList_none, List.cons_append, List.nil_append, List.length_cons, List.length_nil, eL, mL_145, f1]
  exact hret
set_option maxRecDepth 100000 in
theorem g_fbits (d : Nat) (s : UInt32) (hs : shR s) (h : aH) : aSp (d + 1) 144 [.float s] h nomv 0 0 (fun r h' => r = some (.int (nI s.toNat)) ∧ h' = h) := by
  refine sp_of (by decide) (Nat.le_of_ble_eq_true rfl) ?_
  generalize hG : ((d + 1, _, nomv, _, _, _) : aG) = G
  have ggd : gD G = d + 1 := by subst hG; rfl
  have ggn : gN G = h.length := by subst hG; rfl
  have hret : RET G (some (.int (nI s.toNat))) h 0 0 := by
    subst hG
    exact RET.id ⟨rfl, rfl⟩ (Nat.le_refl _) (Nat.le_refl _)
  clear hG
  have hd1 : 1 ≤ gD G := by omega
  have hc0 : (0 : Nat) ≤ 8 := Nat.zero_le _
  have ht := to_nI s
  refine wp_aw (S := fun _ => false) (by decide) 200 _ _ _ _ _ _ ?_
  simp (disch := first | exact rfl | decide | omega) only [u_144_0, u_144_1, u_144_4, u_144_7, u_144_8, u_144_11, u_144_12, u_144_14, wp_stop, lget, lput1, lput2, kil, hget, hset, vget, vset, fget, fgetC, fput, fputC, iget, igetC, jget, jgetC, qget, qgetC, alen, lenC, oI, oJ, oF, oA, oV, oH, oInc, oIld, oJld, oQld, oR, oLen, oIst, oBst, oJst, oQst, ciOf, rcv, oCp, cat1, cond_true, cond_false, Bool.and_self, Bool.and_true, Bool.true_and, Bool.or_true, Bool.true_or, Bool.or_false, Bool.false_or, Bool.not_false, Bool.not_true, ↓reduceIte, Nat.reduceBEq, Nat.reduceEqDiff, beq_self_eq_true, true_and, and_true, eq_self_iff_true, Nat.reduceAdd, Nat.blt, Nat.ble, z_le, z_lt, z_eq, z_cl, z_add, z_sub, z_mul, z_in, z_lt0, z_ofN, z_m1, z_ltm1, z_m1lt, z_eqm1, z_m1eq, z_m1le, z_lem1, z_beq, nI_0_1, nI_m1lt0, nI_0lem1, not_false_eq_true, not_true_eq_false, forall_const, false_implies, true_implies, implies_true, false_and, and_false, mrg, renc, tra, trv, sg, List.map_cons, List.map_nil, Option.map_some, Option.map_none, Option.toList_some, Option.toList_none, List.cons_append, List.nil_append, List.length_cons, List.length_nil, eL, mL_144]
  refine CAL.dir (g_isNaN 0 s hs h) (by omega) (Nat.zero_le _) (Nat.zero_le _) (Nat.le_of_ble_eq_true rfl) (by rw [ggn]; exact Nat.le_refl _) rfl rfl ?_
  rintro _ _ ⟨rfl, rfl⟩
  simp (disch := first | exact rfl | decide | omega) only [u_144_0, u_144_1, u_144_4, u_144_7, u_144_8, u_144_11, u_144_12, u_144_14, wp_stop, lget, lput1, lput2, kil, hget, hset, vget, vset, fget, fgetC, fput, fputC, iget, igetC, jget, jgetC, qget, qgetC, alen, lenC, oI, oJ, oF, oA, oV, oH, oInc, oIld, oJld, oQld, oR, oLen, oIst, oBst, oJst, oQst, ciOf, rcv, oCp, cat1, cond_true, cond_false, Bool.and_self, Bool.and_true, Bool.true_and, Bool.or_true, Bool.true_or, Bool.or_false, Bool.false_or, Bool.not_false, Bool.not_true, ↓reduceIte, Nat.reduceBEq, Nat.reduceEqDiff, beq_self_eq_true, true_and, and_true, eq_self_iff_true, Nat.reduceAdd, Nat.blt, Nat.ble, z_le, z_lt, z_eq, z_cl, z_add, z_sub, z_mul, z_in, z_lt0, z_ofN, z_m1, z_ltm1, z_m1lt, z_eqm1, z_m1eq, z_m1le, z_lem1, z_beq, nI_0_1, nI_m1lt0, nI_0lem1, not_false_eq_true, not_true_eq_false, forall_const, false_implies, true_implies, implies_true, false_and, and_false, mrg, renc, tra, trv, sg, List.map_cons, List.map_nil, Option.map_some, Option.map_none, Option.toList_some, Option.toList_none, List.cons_append, List.nil_append, List.length_cons, List.length_nil, hd1, hc0, List.sum_nil, ht]
  exact hret
/-- how many letters -/
def lcN (L : List Nat) : Nat := (L.filter (fun c => Nat.ble 97 c && Nat.ble c 104)).length
theorem lcN_s {T : List Nat} {i c : Nat} (h : T[i]? = some c) : lcN (T.take (i + 1)) = lcN (T.take i) + (if (Nat.ble 97 c && Nat.ble c 104) = true then 1 else 0) := by
  have hi := gget_lt h
  rw [List.getElem?_eq_getElem hi] at h
  have e := Option.some.inj h
  unfold lcN
  rw [List.take_succ_eq_append_getElem hi, List.filter_append, List.length_append, e]
  congr 1
  by_cases q : (Nat.ble 97 c && Nat.ble c 104) = true
  · rw [if_pos q, List.filter_cons_of_pos (p := fun c => Nat.ble 97 c && Nat.ble c 104) q]
    rfl
  · rw [if_neg q, List.filter_cons_of_neg (p := fun c => Nat.ble 97 c && Nat.ble c 104) q]
    rfl
def lcQ (T : List Nat) (q : aQ) : Prop := ∀ t, q = some t → t.2.2.2 = lcN (T.take t.1)
theorem eaA_lc {T : List Nat} {q : aQ} {pl : Nat} {p : Int64} {m le : Nat} (h : lcQ T q) (hle : le = lcN (T.take pl)) : lcQ T (eaA q pl p m le) := by
  cases q with
  | some t => exact h
  | none =>
    intro t ht
    have ht2 : (if (trM (dT p) m).testBit 8 = true then none else some (pl, trM (dT p) m &&& 255, (trM (dT p) m).testBit 8, le)) = some t := ht
    split at ht2
    · simp at ht2
    · rw [← Option.some.inj ht2]
      exact hle
theorem ebA_lc {T : List Nat} {ν : Nat → aN} {br : Option Nat} {q : aQ} {pl le : Nat} (h : lcQ T q) (hle : le = lcN (T.take pl)) : lcQ T (ebA ν br q pl le) := by
  cases br with
  | none => exact h
  | some b => exact eaA_lc h hle
theorem kbE_lc {T : List Nat} {κ : kB} {pl : Nat} (h : lcQ T κ.2.2.1) (hle : κ.2.2.2.1 = lcN (T.take pl)) : lcQ T (kbE κ pl) := by
  unfold kbE
  split
  · intro t ht
    simp at ht
  · exact eaA_lc (ebA_lc h hle) hle
theorem kbL_lc {T : List Nat} {κ : kB} {so pl : Nat} (h : lcQ T κ.2.2.1) (hle : κ.2.2.2.1 = lcN (T.take pl)) : lcQ T (kbL κ so pl).2.2.1 := by
  have he := ebA_lc (ν := κ.2.2.2.2.2) (br := κ.2.1) h hle
  unfold kbL
  split
  next t R e =>
    rw [e] at he
    exact he
  next e1 e2 => exact h
  next x m R e1 e2 =>
    split
    · intro t ht
      have : (none : aQ) = some t := ht
      simp at this
    · intro t ht
      rw [← Option.some.inj ht]
      exact hle
theorem kbT_lc {T : List Nat} {κ κ' : kB} {c i : Nat} (hT : T[i]? = some c) (h1 : 1 ≤ κ.1.length) (h : lcQ T κ.2.2.1) (hle : κ.2.2.2.1 = lcN (T.take i)) (e : kbT κ c i = some κ') : lcQ T κ'.2.2.1 ∧ κ'.2.2.2.1 = lcN (T.take (i + 1)) := by
  rw [lcN_s hT]
  obtain ⟨w1, w2⟩ := kbT_w κ c i
  by_cases qL : 97 ≤ c ∧ c ≤ 104
  · have eL : (Nat.ble 97 c && Nat.ble c 104) = true := by rw [Nat.ble_eq_true_of_le qL.1, Nat.ble_eq_true_of_le qL.2]; rfl
    rw [if_pos eL]
    rw [w1 qL] at e
    rw [← Option.some.inj e]
    exact ⟨kbL_lc h hle, by rw [(kbL_at κ _ i h1).1, hle]⟩
  · have eL : ¬ (Nat.ble 97 c && Nat.ble c 104) = true := by
      rw [Bool.and_eq_true, Nat.ble_eq, Nat.ble_eq]
      exact qL
    rw [if_neg eL, Nat.add_zero]
    by_cases q32 : c = 32
    · rw [q32, kbT_32] at e
      rw [← Option.some.inj e]
      exact ⟨h, hle⟩
    · obtain ⟨v1, v2, v3⟩ := w2 qL q32
      by_cases q40 : c = 40
      · obtain ⟨u1, u2⟩ := v1 q40
        cases hb : κ.2.1 with
        | none => rw [u2 (Or.inl hb)] at e; simp at e
        | some b =>
          by_cases h8 : κ.1.length ≤ 8
          · rw [u1 b hb h8] at e
            rw [← Option.some.inj e]
            exact ⟨h, hle⟩
          · rw [u2 (Or.inr h8)] at e; simp at e
      · by_cases q41 : c = 41
        · obtain ⟨u1, u2⟩ := v2 q41
          by_cases h2 : 2 ≤ κ.1.length
          · rw [u1 h2] at e
            rw [← Option.some.inj e]
            exact ⟨kbE_lc h hle, hle⟩
          · rw [u2 h2] at e; simp at e
        · rw [v3 q40 q41] at e; simp at e
theorem kbF_lc {T : List Nat} : ∀ (cs : List Nat) (i : Nat) {κ : kB}, T.drop i = cs → i ≤ T.length → 1 ≤ κ.1.length → κ.1.length ≤ 9 → lcQ T κ.2.2.1 → κ.2.2.2.1 = lcN (T.take i) → (kbF κ cs i).1 = none → lcQ T (kbF κ cs i).2.2.2.1 ∧ (kbF κ cs i).2.2.2.2.1 = lcN T
  | [], i, κ, hd, hi, h1, h9, hq, hle, hn => by
    have e := drop_nil hd hi
    rw [e, List.take_length] at hle
    exact ⟨hq, hle⟩
  | c :: cs, i, κ, hd, hi, h1, h9, hq, hle, hn => by
    obtain ⟨d1, d2, d3⟩ := drop_get hd
    rw [kbF_c] at hn ⊢
    cases e : kbT κ c i with
    | none => rw [e] at hn; simp at hn
    | some κ' =>
      rw [e] at hn
      have hl := kbT_len h1 h9 e
      obtain ⟨a, b⟩ := kbT_lc d1 h1 hq hle e
      exact kbF_lc cs (i + 1) d2 (by omega) hl.1 hl.2 a b hn
theorem kbW_n {κ : kB} {T : List Nat} (h : kbW κ T = none) : (kbF κ T 0).1 = none ∧ (kbF κ T 0).2.1.length < 2 := by
  unfold kbW at h
  cases e : (kbF κ T 0).1 with
  | some i => rw [e] at h; simp at h
  | none =>
    rw [e] at h
    dsimp only at h
    split at h
    · simp at h
    · exact ⟨rfl, by omega⟩
theorem kbF_len {L : Nat} : ∀ (cs : List Nat) (i : Nat) {κ : kB}, 1 ≤ κ.1.length → κ.1.length ≤ 9 → (kbF κ cs i).1 = none → 1 ≤ (kbF κ cs i).2.1.length
  | [], i, κ, h1, h9, hn => h1
  | c :: cs, i, κ, h1, h9, hn => by
    rw [kbF_c] at hn ⊢
    cases e : kbT κ c i with
    | none => rw [e] at hn; simp at hn
    | some κ' =>
      rw [e] at hn
      have hl := kbT_len h1 h9 e
      exact kbF_len (L := L) cs (i + 1) hl.1 hl.2 hn
section GM
variable (gal : Nat → Int32) (gps : Nat → Int32) (gst : Int32) (grf : Nat → Int32) (gmy : Int32) (gkd : Nat → Int32) (glf : Nat → Int32) (grt : Nat → Int32) (gpr : Nat → Int32) (gun : Nat → Int32) (gow : Nat → Int32) (gem : Nat → Int32) (ged : Nat → Int32) (gse : Nat → Int32) (gsz : Nat → Int32) (gtx : Nat → Int32) (gtl : Int32) (gsp : Int32) (gmd : Nat → Int32) (gop : Nat → Int32) (gom : Int32) (gwt : Nat → Int32) (gwm : Int32) (gtn : Int32) (gon : Int32) (gsh : Nat → Int32) (gtr : Nat → Int32) (gbl : Int32) (gbd : Int32) (gwh : Nat → Int32) (gfl : Int32) (gfd : Int32) (gfe : Int32)
set_option maxRecDepth 100000 in
theorem g_judges (d : Nat) (T : List Nat) (hT : txR gtx T) (hl : T.length ≤ 150) (ps : Nat → Int64) (hp : ∀ x, x < 9 → paP gal x (ps x)) (ν : Nat → aN) (hν : ∀ y, y < 9 → (ν y).1 = ps y) (hW : kbW (kb0 ν) T = none) :
    aSp (d + 6) 138 [.ref 0] (gH gal gps gst grf gmy gkd glf grt gpr gun gow gem ged gse gsz gtx (nI T.length) gsp gmd gop gom gwt gwm gtn gon gsh gtr gbl gbd gwh gfl gfd gfe) nomv 0 0 (fun r h' => r = none ∧ ∃ gmy gkd glf grt gpr gun gow gem ged gse gsz gsp gwh gfl gfd gfe, h' = (gH gal gps gst grf gmy gkd glf grt gpr gun gow gem ged gse gsz gtx (nI T.length) gsp gmd gop gom gwt gwm gtn gon gsh gtr gbl gbd gwh gfl gfd gfe) ∧ flI (kbE (kbF (kb0 ν) T 0).2 T.length) gfl gfd gfe) := by
  obtain ⟨w1, w2⟩ := kbW_n hW
  have w3 := kbF_len (L := 0) T 0 (κ := kb0 ν) (Nat.le_refl _) (show 1 ≤ 9 by decide) w1
  have hw8 := dwf (hp 8 (by decide)).1
  refine sp_of (by decide) (Nat.le_of_ble_eq_true rfl) ?_
  generalize hG : ((d + 6, _, nomv, _, _, _) : aG) = G
  have ggd : gD G = d + 6 := by subst hG; rfl
  have ggn : gN G = 21 := by subst hG; rfl
  have ggm : gM G = nomv := by subst hG; rfl
  have ggc : gC G = 0 := by subst hG; rfl
  have ggs : gS G = 0 := by subst hG; rfl
  have hret : ∀ gmy gkd glf grt gpr gun gow gem ged gse gsz gsp gwh gfl gfd gfe, flI (kbE (kbF (kb0 ν) T 0).2 T.length) gfl gfd gfe → RET G none (gH gal gps gst grf gmy gkd glf grt gpr gun gow gem ged gse gsz gtx (nI T.length) gsp gmd gop gom gwt gwm gtn gon gsh gtr gbl gbd gwh gfl gfd gfe) 0 0 := by
    subst hG
    intro gmy gkd glf grt gpr gun gow gem ged gse gsz gsp gwh gfl gfd gfe q
    exact RET.id ⟨rfl, gmy, gkd, glf, grt, gpr, gun, gow, gem, ged, gse, gsz, gsp, gwh, gfl, gfd, gfe, rfl, q⟩ (Nat.le_refl _) (Nat.le_refl _)
  clear hG
  have hgo := l_judges gal gps gst grf gtx gmd gop gom gwt gwm gtn gon gsh gtr gbl gbd T hT hl ps hp (by rw [ggd]; omega) ggn _ hret T.length 0 T (kb0 ν) none gmy gkd glf grt gpr gun gow gem ged (upd gse (256 * 0) (nI 0)) (upd gsz 0 (nI 1)) (upd gwh 0 (nI 8)) (-1) (nI 0) (nI 1) (Nat.le_refl _) rfl (Nat.zero_le _) (Nat.le_refl _) (show 1 ≤ 9 by decide) rfl hν ⟨upd_s, by decide, rpM_1 hw8 upd_s upd_s, trivial⟩ ⟨rfl, rfl, rfl⟩ (fun b hb => by have : (none : Option Nat) = some b := hb; simp at this) rfl w1 (by omega) rfl
  have e0 : (kb0 ν).1.length - 1 = 0 := rfl
  rw [e0] at hgo
  clear hret
  have hst := g_starts gal gps gst grf gmy gkd glf grt gpr gun gow gem ged gse gsz gtx (nI T.length) (nI 0) gmd gop gom gwt gwm gtn gon gsh gtr gbl gbd (upd gwh 0 (nI 8)) (-1) (nI 0) (nI 1) 0 0 (by decide)
  generalize T.length = len at *
  refine wp_aw (S := fun x => x == 35) (by decide) 200 _ _ _ _ _ _ ?_
  simp (disch := first | exact rfl | decide | omega) only [u_138_0, u_138_1, u_138_2, u_138_5, u_138_6, u_138_7, u_138_10, u_138_11, u_138_12, u_138_15, u_138_16, u_138_17, u_138_20, u_138_21, u_138_22, u_138_23, u_138_26, u_138_27, u_138_29, u_138_30, u_138_31, u_138_32, u_138_35, u_138_36, u_138_39, u_138_40, u_138_43, u_138_44, u_138_47, u_138_48, u_138_51, u_138_52, u_138_53, u_138_54, u_138_56, u_138_59, u_138_62, u_138_63, u_138_64, u_138_67, u_138_68, u_138_69, u_138_72, u_138_75, u_138_76, u_138_78, u_138_81, u_138_82, u_138_83, u_138_86, u_138_87, u_138_90, u_138_93, u_138_94, u_138_97, u_138_98, u_138_99, u_138_102, u_138_103, u_138_104, u_138_107, u_138_110, u_138_111, u_138_112, u_138_114, u_138_115, u_138_116, u_138_119, u_138_122, u_138_123, u_138_126, u_138_127, u_138_128, u_138_131, u_138_132, u_138_135, u_138_136, wp_stop, lget, lput1, lput2, kil, hget, hset, vget, vset, fget, fgetC, fput, fputC, iget, igetC, jget, jgetC, qget, qgetC, alen, lenC, oI, oJ, oF, oA, oV, oH, oInc, oIld, oJld, oQld, oR, oLen, oIst, oBst, oJst, oQst, ciOf, rcv, oCp, cat1, cond_true, cond_false, Bool.and_self, Bool.and_true, Bool.true_and, Bool.or_true, Bool.true_or, Bool.or_false, Bool.false_or, Bool.not_false, Bool.not_true, ↓reduceIte, Nat.reduceBEq, Nat.reduceEqDiff, beq_self_eq_true, true_and, and_true, eq_self_iff_true, Nat.reduceAdd, Nat.blt, Nat.ble, z_le, z_lt, z_eq, z_cl, z_add, z_sub, z_mul, z_in, z_lt0, z_ofN, z_m1, z_ltm1, z_m1lt, z_eqm1, z_m1eq, z_m1le, z_lem1, z_beq, nI_0_1, nI_m1lt0, nI_0lem1, not_false_eq_true, not_true_eq_false, forall_const, false_implies, true_implies, implies_true, false_and, and_false, mrg, renc, tra, trv, sg, List.map_cons, List.map_nil, Option.map_some, Option.map_none, Option.toList_some, Option.toList_none, List.cons_append, List.nil_append, List.length_cons, List.length_nil, eL, mL_138, gH, gO]
  refine CAL.dir (hst) (by rw [ggd]; omega) (by rw [ggc]; omega) (by rw [ggs]; omega) (Nat.le_of_ble_eq_true rfl) (by rw [ggn]; exact Nat.le_of_ble_eq_true rfl) rfl rfl ?_
  rintro _ _ ⟨rfl, rfl⟩
  simp (disch := first | exact rfl | decide | omega) only [u_138_0, u_138_1, u_138_2, u_138_5, u_138_6, u_138_7, u_138_10, u_138_11, u_138_12, u_138_15, u_138_16, u_138_17, u_138_20, u_138_21, u_138_22, u_138_23, u_138_26, u_138_27, u_138_29, u_138_30, u_138_31, u_138_32, u_138_35, u_138_36, u_138_39, u_138_40, u_138_43, u_138_44, u_138_47, u_138_48, u_138_51, u_138_52, u_138_53, u_138_54, u_138_56, u_138_59, u_138_62, u_138_63, u_138_64, u_138_67, u_138_68, u_138_69, u_138_72, u_138_75, u_138_76, u_138_78, u_138_81, u_138_82, u_138_83, u_138_86, u_138_87, u_138_90, u_138_93, u_138_94, u_138_97, u_138_98, u_138_99, u_138_102, u_138_103, u_138_104, u_138_107, u_138_110, u_138_111, u_138_112, u_138_114, u_138_115, u_138_116, u_138_119, u_138_122, u_138_123, u_138_126, u_138_127, u_138_128, u_138_131, u_138_132, u_138_135, u_138_136, wp_stop, lget, lput1, lput2, kil, hget, hset, vget, vset, fget, fgetC, fput, fputC, iget, igetC, jget, jgetC, qget, qgetC, alen, lenC, oI, oJ, oF, oA, oV, oH, oInc, oIld, oJld, oQld, oR, oLen, oIst, oBst, oJst, oQst, ciOf, rcv, oCp, cat1, cond_true, cond_false, Bool.and_self, Bool.and_true, Bool.true_and, Bool.or_true, Bool.true_or, Bool.or_false, Bool.false_or, Bool.not_false, Bool.not_true, ↓reduceIte, Nat.reduceBEq, Nat.reduceEqDiff, beq_self_eq_true, true_and, and_true, eq_self_iff_true, Nat.reduceAdd, Nat.blt, Nat.ble, z_le, z_lt, z_eq, z_cl, z_add, z_sub, z_mul, z_in, z_lt0, z_ofN, z_m1, z_ltm1, z_m1lt, z_eqm1, z_m1eq, z_m1le, z_lem1, z_beq, nI_0_1, nI_m1lt0, nI_0lem1, not_false_eq_true, not_true_eq_false, forall_const, false_implies, true_implies, implies_true, false_and, and_false, mrg, renc, tra, trv, sg, List.map_cons, List.map_nil, Option.map_some, Option.map_none, Option.toList_some, Option.toList_none, List.cons_append, List.nil_append, List.length_cons, List.length_nil, gH, gO]
  exact hgo
set_option maxRecDepth 100000 in
theorem g_judged (d w le de : Nat) (hw : w < 6) (q : aQ) (hq : qOK q) (h1 : flI q gfl gfd gfe) (h2 : gbl = nI le) (h3 : gbd = nI de) : aSp d 142 [.ref 0, .int (nI w)] (gH gal gps gst grf gmy gkd glf grt gpr gun gow gem ged gse gsz gtx gtl gsp gmd gop gom gwt gwm gtn gon gsh gtr gbl gbd gwh gfl gfd gfe) nomv 0 0 (fun r h' => r = some (.int (jbA q le de w)) ∧ h' = (gH gal gps gst grf gmy gkd glf grt gpr gun gow gem ged gse gsz gtx gtl gsp gmd gop gom gwt gwm gtn gon gsh gtr gbl gbd gwh gfl gfd gfe)) := by
  obtain ⟨e1, e2, e3⟩ := h1
  refine sp_of (by decide) (Nat.le_of_ble_eq_true rfl) ?_
  generalize hG : ((d, _, nomv, _, _, _) : aG) = G
  have ggd : gD G = d := by subst hG; rfl
  have ggn : gN G = 21 := by subst hG; rfl
  have ggm : gM G = nomv := by subst hG; rfl
  have ggc : gC G = 0 := by subst hG; rfl
  have ggs : gS G = 0 := by subst hG; rfl
  have hret : RET G (some (.int (jbA q le de w))) (gH gal gps gst grf gmy gkd glf grt gpr gun gow gem ged gse gsz gtx gtl gsp gmd gop gom gwt gwm gtn gon gsh gtr gbl gbd gwh gfl gfd gfe) 0 0 := by
    subst hG
    exact RET.id ⟨rfl, rfl⟩ (Nat.le_refl _) (Nat.le_refl _)
  clear hG
  have h6 : w = 0 ∨ w = 1 ∨ w = 2 ∨ w = 3 ∨ w = 4 ∨ w = 5 := by omega
  rcases h6 with e | e | e | e | e | e
  · subst e
    cases q with
    | none =>
      have hr2 : RET G (some (.int (nI 1))) (gH gal gps gst grf gmy gkd glf grt gpr gun gow gem ged gse gsz gtx gtl gsp gmd gop gom gwt gwm gtn gon gsh gtr gbl gbd gwh gfl gfd gfe) 0 0 := hret
      have e1' : gfl = -1 := e1
      refine wp_aw (S := fun _ => false) (by decide) 200 _ _ _ _ _ _ ?_
      simp (disch := first | exact rfl | decide | omega) only [u_142_0, u_142_1, u_142_36, u_142_37, u_142_40, u_142_41, u_142_44, u_142_45, u_142_48, u_142_49, u_142_50, u_142_51, u_142_54, u_142_55, u_142_56, u_142_59, u_142_60, u_142_61, u_142_64, u_142_65, u_142_66, u_142_69, u_142_70, u_142_71, u_142_74, wp_stop, lget, lput1, lput2, kil, hget, hset, vget, vset, fget, fgetC, fput, fputC, iget, igetC, jget, jgetC, qget, qgetC, alen, lenC, oI, oJ, oF, oA, oV, oH, oInc, oIld, oJld, oQld, oR, oLen, oIst, oBst, oJst, oQst, ciOf, rcv, oCp, cat1, cond_true, cond_false, Bool.and_self, Bool.and_true, Bool.true_and, Bool.or_true, Bool.true_or, Bool.or_false, Bool.false_or, Bool.not_false, Bool.not_true, ↓reduceIte, Nat.reduceBEq, Nat.reduceEqDiff, beq_self_eq_true, true_and, and_true, eq_self_iff_true, Nat.reduceAdd, Nat.blt, Nat.ble, z_le, z_lt, z_eq, z_cl, z_add, z_sub, z_mul, z_in, z_lt0, z_ofN, z_m1, z_ltm1, z_m1lt, z_eqm1, z_m1eq, z_m1le, z_lem1, z_beq, nI_0_1, nI_m1lt0, nI_0lem1, not_false_eq_true, not_true_eq_false, forall_const, false_implies, true_implies, implies_true, false_and, and_false, mrg, renc, tra, trv, sg, List.map_cons, List.map_nil, Option.map_some, Option.map_none, Option.toList_some, Option.toList_none, List.cons_append, List.nil_append, List.length_cons, List.length_nil, eL, mL_142, gH, gO, e1']
      rw [e1'] at hr2
      exact hr2
    | some t =>
      have hr2 : RET G (some (.int (nI 0))) (gH gal gps gst grf gmy gkd glf grt gpr gun gow gem ged gse gsz gtx gtl gsp gmd gop gom gwt gwm gtn gon gsh gtr gbl gbd gwh gfl gfd gfe) 0 0 := hret
      have e1' : gfl = nI t.1 := e1
      have ht : t.1 < 2 ^ 20 := hq t rfl
      refine wp_aw (S := fun _ => false) (by decide) 200 _ _ _ _ _ _ ?_
      simp (disch := first | exact rfl | decide | omega) only [u_142_0, u_142_1, u_142_36, u_142_37, u_142_40, u_142_41, u_142_44, u_142_45, u_142_48, u_142_49, u_142_50, u_142_51, u_142_54, u_142_55, u_142_56, u_142_59, u_142_60, u_142_61, u_142_64, u_142_65, u_142_66, u_142_69, u_142_70, u_142_71, u_142_74, wp_stop, lget, lput1, lput2, kil, hget, hset, vget, vset, fget, fgetC, fput, fputC, iget, igetC, jget, jgetC, qget, qgetC, alen, lenC, oI, oJ, oF, oA, oV, oH, oInc, oIld, oJld, oQld, oR, oLen, oIst, oBst, oJst, oQst, ciOf, rcv, oCp, cat1, cond_true, cond_false, Bool.and_self, Bool.and_true, Bool.true_and, Bool.or_true, Bool.true_or, Bool.or_false, Bool.false_or, Bool.not_false, Bool.not_true, ↓reduceIte, Nat.reduceBEq, Nat.reduceEqDiff, beq_self_eq_true, true_and, and_true, eq_self_iff_true, Nat.reduceAdd, Nat.blt, Nat.ble, z_le, z_lt, z_eq, z_cl, z_add, z_sub, z_mul, z_in, z_lt0, z_ofN, z_m1, z_ltm1, z_m1lt, z_eqm1, z_m1eq, z_m1le, z_lem1, z_beq, nI_0_1, nI_m1lt0, nI_0lem1, not_false_eq_true, not_true_eq_false, forall_const, false_implies, true_implies, implies_true, false_and, and_false, mrg, renc, tra, trv, sg, List.map_cons, List.map_nil, Option.map_some, Option.map_none, Option.toList_some, Option.toList_none, List.cons_append, List.nil_append, List.length_cons, List.length_nil, eL, mL_142, gH, gO, e1']
      rw [e1'] at hr2
      exact hr2
  · subst e
    have hr2 : RET G (some (.int (fv q).1)) (gH gal gps gst grf gmy gkd glf grt gpr gun gow gem ged gse gsz gtx gtl gsp gmd gop gom gwt gwm gtn gon gsh gtr gbl gbd gwh gfl gfd gfe) 0 0 := hret
    rw [← e1] at hr2
    refine wp_aw (S := fun _ => false) (by decide) 200 _ _ _ _ _ _ ?_
    simp (disch := first | exact rfl | decide | omega) only [u_142_0, u_142_1, u_142_36, u_142_37, u_142_40, u_142_41, u_142_44, u_142_45, u_142_48, u_142_49, u_142_50, u_142_51, u_142_54, u_142_55, u_142_56, u_142_59, u_142_60, u_142_61, u_142_64, u_142_65, u_142_66, u_142_69, u_142_70, u_142_71, u_142_74, wp_stop, lget, lput1, lput2, kil, hget, hset, vget, vset, fget, fgetC, fput, fputC, iget, igetC, jget, jgetC, qget, qgetC, alen, lenC, oI, oJ, oF, oA, oV, oH, oInc, oIld, oJld, oQld, oR, oLen, oIst, oBst, oJst, oQst, ciOf, rcv, oCp, cat1, cond_true, cond_false, Bool.and_self, Bool.and_true, Bool.true_and, Bool.or_true, Bool.true_or, Bool.or_false, Bool.false_or, Bool.not_false, Bool.not_true, ↓reduceIte, Nat.reduceBEq, Nat.reduceEqDiff, beq_self_eq_true, true_and, and_true, eq_self_iff_true, Nat.reduceAdd, Nat.blt, Nat.ble, z_le, z_lt, z_eq, z_cl, z_add, z_sub, z_mul, z_in, z_lt0, z_ofN, z_m1, z_ltm1, z_m1lt, z_eqm1, z_m1eq, z_m1le, z_lem1, z_beq, nI_0_1, nI_m1lt0, nI_0lem1, not_false_eq_true, not_true_eq_false, forall_const, false_implies, true_implies, implies_true, false_and, and_false, mrg, renc, tra, trv, sg, List.map_cons, List.map_nil, Option.map_some, Option.map_none, Option.toList_some, Option.toList_none, List.cons_append, List.nil_append, List.length_cons, List.length_nil, eL, mL_142, gH, gO]
    exact hr2
  · subst e
    have hr2 : RET G (some (.int (fv q).2.1)) (gH gal gps gst grf gmy gkd glf grt gpr gun gow gem ged gse gsz gtx gtl gsp gmd gop gom gwt gwm gtn gon gsh gtr gbl gbd gwh gfl gfd gfe) 0 0 := hret
    rw [← e2] at hr2
    refine wp_aw (S := fun _ => false) (by decide) 200 _ _ _ _ _ _ ?_
    simp (disch := first | exact rfl | decide | omega) only [u_142_0, u_142_1, u_142_36, u_142_37, u_142_40, u_142_41, u_142_44, u_142_45, u_142_48, u_142_49, u_142_50, u_142_51, u_142_54, u_142_55, u_142_56, u_142_59, u_142_60, u_142_61, u_142_64, u_142_65, u_142_66, u_142_69, u_142_70, u_142_71, u_142_74, wp_stop, lget, lput1, lput2, kil, hget, hset, vget, vset, fget, fgetC, fput, fputC, iget, igetC, jget, jgetC, qget, qgetC, alen, lenC, oI, oJ, oF, oA, oV, oH, oInc, oIld, oJld, oQld, oR, oLen, oIst, oBst, oJst, oQst, ciOf, rcv, oCp, cat1, cond_true, cond_false, Bool.and_self, Bool.and_true, Bool.true_and, Bool.or_true, Bool.true_or, Bool.or_false, Bool.false_or, Bool.not_false, Bool.not_true, ↓reduceIte, Nat.reduceBEq, Nat.reduceEqDiff, beq_self_eq_true, true_and, and_true, eq_self_iff_true, Nat.reduceAdd, Nat.blt, Nat.ble, z_le, z_lt, z_eq, z_cl, z_add, z_sub, z_mul, z_in, z_lt0, z_ofN, z_m1, z_ltm1, z_m1lt, z_eqm1, z_m1eq, z_m1le, z_lem1, z_beq, nI_0_1, nI_m1lt0, nI_0lem1, not_false_eq_true, not_true_eq_false, forall_const, false_implies, true_implies, implies_true, false_and, and_false, mrg, renc, tra, trv, sg, List.map_cons, List.map_nil, Option.map_some, Option.map_none, Option.toList_some, Option.toList_none, List.cons_append, List.nil_append, List.length_cons, List.length_nil, eL, mL_142, gH, gO]
    exact hr2
  · subst e
    have hr2 : RET G (some (.int (fv q).2.2.1)) (gH gal gps gst grf gmy gkd glf grt gpr gun gow gem ged gse gsz gtx gtl gsp gmd gop gom gwt gwm gtn gon gsh gtr gbl gbd gwh gfl gfd gfe) 0 0 := hret
    rw [← e3] at hr2
    refine wp_aw (S := fun _ => false) (by decide) 200 _ _ _ _ _ _ ?_
    simp (disch := first | exact rfl | decide | omega) only [u_142_0, u_142_1, u_142_36, u_142_37, u_142_40, u_142_41, u_142_44, u_142_45, u_142_48, u_142_49, u_142_50, u_142_51, u_142_54, u_142_55, u_142_56, u_142_59, u_142_60, u_142_61, u_142_64, u_142_65, u_142_66, u_142_69, u_142_70, u_142_71, u_142_74, wp_stop, lget, lput1, lput2, kil, hget, hset, vget, vset, fget, fgetC, fput, fputC, iget, igetC, jget, jgetC, qget, qgetC, alen, lenC, oI, oJ, oF, oA, oV, oH, oInc, oIld, oJld, oQld, oR, oLen, oIst, oBst, oJst, oQst, ciOf, rcv, oCp, cat1, cond_true, cond_false, Bool.and_self, Bool.and_true, Bool.true_and, Bool.or_true, Bool.true_or, Bool.or_false, Bool.false_or, Bool.not_false, Bool.not_true, ↓reduceIte, Nat.reduceBEq, Nat.reduceEqDiff, beq_self_eq_true, true_and, and_true, eq_self_iff_true, Nat.reduceAdd, Nat.blt, Nat.ble, z_le, z_lt, z_eq, z_cl, z_add, z_sub, z_mul, z_in, z_lt0, z_ofN, z_m1, z_ltm1, z_m1lt, z_eqm1, z_m1eq, z_m1le, z_lem1, z_beq, nI_0_1, nI_m1lt0, nI_0lem1, not_false_eq_true, not_true_eq_false, forall_const, false_implies, true_implies, implies_true, false_and, and_false, mrg, renc, tra, trv, sg, List.map_cons, List.map_nil, Option.map_some, Option.map_none, Option.toList_some, Option.toList_none, List.cons_append, List.nil_append, List.length_cons, List.length_nil, eL, mL_142, gH, gO]
    exact hr2
  · subst e
    have hr2 : RET G (some (.int (nI le))) (gH gal gps gst grf gmy gkd glf grt gpr gun gow gem ged gse gsz gtx gtl gsp gmd gop gom gwt gwm gtn gon gsh gtr gbl gbd gwh gfl gfd gfe) 0 0 := hret
    rw [← h2] at hr2
    refine wp_aw (S := fun _ => false) (by decide) 200 _ _ _ _ _ _ ?_
    simp (disch := first | exact rfl | decide | omega) only [u_142_0, u_142_1, u_142_36, u_142_37, u_142_40, u_142_41, u_142_44, u_142_45, u_142_48, u_142_49, u_142_50, u_142_51, u_142_54, u_142_55, u_142_56, u_142_59, u_142_60, u_142_61, u_142_64, u_142_65, u_142_66, u_142_69, u_142_70, u_142_71, u_142_74, wp_stop, lget, lput1, lput2, kil, hget, hset, vget, vset, fget, fgetC, fput, fputC, iget, igetC, jget, jgetC, qget, qgetC, alen, lenC, oI, oJ, oF, oA, oV, oH, oInc, oIld, oJld, oQld, oR, oLen, oIst, oBst, oJst, oQst, ciOf, rcv, oCp, cat1, cond_true, cond_false, Bool.and_self, Bool.and_true, Bool.true_and, Bool.or_true, Bool.true_or, Bool.or_false, Bool.false_or, Bool.not_false, Bool.not_true, ↓reduceIte, Nat.reduceBEq, Nat.reduceEqDiff, beq_self_eq_true, true_and, and_true, eq_self_iff_true, Nat.reduceAdd, Nat.blt, Nat.ble, z_le, z_lt, z_eq, z_cl, z_add, z_sub, z_mul, z_in, z_lt0, z_ofN, z_m1, z_ltm1, z_m1lt, z_eqm1, z_m1eq, z_m1le, z_lem1, z_beq, nI_0_1, nI_m1lt0, nI_0lem1, not_false_eq_true, not_true_eq_false, forall_const, false_implies, true_implies, implies_true, false_and, and_false, mrg, renc, tra, trv, sg, List.map_cons, List.map_nil, Option.map_some, Option.map_none, Option.toList_some, Option.toList_none, List.cons_append, List.nil_append, List.length_cons, List.length_nil, eL, mL_142, gH, gO]
    exact hr2
  · subst e
    have hr2 : RET G (some (.int (nI de))) (gH gal gps gst grf gmy gkd glf grt gpr gun gow gem ged gse gsz gtx gtl gsp gmd gop gom gwt gwm gtn gon gsh gtr gbl gbd gwh gfl gfd gfe) 0 0 := hret
    rw [← h3] at hr2
    refine wp_aw (S := fun _ => false) (by decide) 200 _ _ _ _ _ _ ?_
    simp (disch := first | exact rfl | decide | omega) only [u_142_0, u_142_1, u_142_36, u_142_37, u_142_40, u_142_41, u_142_44, u_142_45, u_142_48, u_142_49, u_142_50, u_142_51, u_142_54, u_142_55, u_142_56, u_142_59, u_142_60, u_142_61, u_142_64, u_142_65, u_142_66, u_142_69, u_142_70, u_142_71, u_142_74, wp_stop, lget, lput1, lput2, kil, hget, hset, vget, vset, fget, fgetC, fput, fputC, iget, igetC, jget, jgetC, qget, qgetC, alen, lenC, oI, oJ, oF, oA, oV, oH, oInc, oIld, oJld, oQld, oR, oLen, oIst, oBst, oJst, oQst, ciOf, rcv, oCp, cat1, cond_true, cond_false, Bool.and_self, Bool.and_true, Bool.true_and, Bool.or_true, Bool.true_or, Bool.or_false, Bool.false_or, Bool.not_false, Bool.not_true, ↓reduceIte, Nat.reduceBEq, Nat.reduceEqDiff, beq_self_eq_true, true_and, and_true, eq_self_iff_true, Nat.reduceAdd, Nat.blt, Nat.ble, z_le, z_lt, z_eq, z_cl, z_add, z_sub, z_mul, z_in, z_lt0, z_ofN, z_m1, z_ltm1, z_m1lt, z_eqm1, z_m1eq, z_m1le, z_lem1, z_beq, nI_0_1, nI_m1lt0, nI_0lem1, not_false_eq_true, not_true_eq_false, forall_const, false_implies, true_implies, implies_true, false_and, and_false, mrg, renc, tra, trv, sg, List.map_cons, List.map_nil, Option.map_some, Option.map_none, Option.toList_some, Option.toList_none, List.cons_append, List.nil_append, List.length_cons, List.length_nil, eL, mL_142, gH, gO]
    exact hr2
end GM
