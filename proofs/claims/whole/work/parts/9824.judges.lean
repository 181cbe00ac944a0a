/-! ResidualJudgeModel.judges: the class's pass, seen from the model -/
theorem skF_idem (cs : List Nat) (i : Nat) : skF (skF cs i).1 (skF cs i).2 = skF cs i := by
  obtain ⟨-, -, h, -⟩ := skF_ok cs i
  cases hc : (skF cs i).1 with
  | nil =>
    show ([], (skF cs i).2) = _
    rw [← hc]
  | cons c r =>
    have := h c r hc
    show (if c = 32 then _ else _) = _
    rw [if_neg this, ← hc]
theorem eaA_q {t : Nat × Nat × Bool × Nat} (pl : Nat) (p : Int64) (m le : Nat) : eaA (some t) pl p m le = some t := rfl
theorem ebA_q {t : Nat × Nat × Bool × Nat} (ν : Nat → aN) (br : Option Nat) (pl le : Nat) : ebA ν br (some t) pl le = some t := by
  cases br <;> rfl
theorem kbE_q {κ : kB} {t : Nat × Nat × Bool × Nat} (hq : κ.2.2.1 = some t) (h : 1 ≤ κ.1.length) (pl : Nat) : kbE κ pl = some t := by
  obtain ⟨st, br, q, le, de, ν⟩ := κ
  dsimp only at hq h
  subst hq
  cases st with
  | nil => simp at h
  | cons a R =>
    show eaA (ebA ν br (some t) pl le) pl _ _ _ = some t
    rw [ebA_q, eaA_q]
theorem kbL_q {κ : kB} {t : Nat × Nat × Bool × Nat} (so pl : Nat) (h : ebA κ.2.2.2.2.2 κ.2.1 κ.2.2.1 pl κ.2.2.2.1 = some t) : (kbL κ so pl).2.2.1 = some t := by
  unfold kbL
  rw [h]
theorem kbT_q {κ κ' : kB} {t : Nat × Nat × Bool × Nat} {c i : Nat} (hq : κ.2.2.1 = some t) (h : 1 ≤ κ.1.length) (e : kbT κ c i = some κ') : κ'.2.2.1 = some t := by
  have hL : (kbL κ (c - 97) i).2.2.1 = some t := kbL_q _ _ (by rw [hq, ebA_q])
  have hC : (kbC κ i).2.2.1 = some t := kbE_q hq h i
  obtain ⟨w1, w2⟩ := kbT_w κ c i
  by_cases qL : 97 ≤ c ∧ c ≤ 104
  · rw [w1 qL] at e
    rw [← Option.some.inj e]
    exact hL
  · by_cases q32 : c = 32
    · rw [q32, kbT_32] at e
      rw [← Option.some.inj e]
      exact hq
    · obtain ⟨v1, v2, v3⟩ := w2 qL q32
      by_cases q40 : c = 40
      · obtain ⟨u1, u2⟩ := v1 q40
        cases hb : κ.2.1 with
        | none => rw [u2 (Or.inl hb)] at e; simp at e
        | some b =>
          by_cases h8 : κ.1.length ≤ 8
          · rw [u1 b hb h8] at e
            rw [← Option.some.inj e]
            exact hq
          · rw [u2 (Or.inr h8)] at e; simp at e
      · by_cases q41 : c = 41
        · obtain ⟨u1, u2⟩ := v2 q41
          by_cases h2 : 2 ≤ κ.1.length
          · rw [u1 h2] at e
            rw [← Option.some.inj e]
            exact hC
          · rw [u2 h2] at e; simp at e
        · rw [v3 q40 q41] at e; simp at e
theorem kbF_q {t : Nat × Nat × Bool × Nat} {L : Nat} : ∀ (cs : List Nat) (i : Nat) {κ : kB}, κ.2.2.1 = some t → 1 ≤ κ.1.length → κ.1.length ≤ 9 → (kbF κ cs i).1 = none → kbE (kbF κ cs i).2 L = some t
  | [], i, κ, hq, h1, h9, hn => kbE_q hq h1 L
  | c :: cs, i, κ, hq, h1, h9, hn => by
    rw [kbF_c] at hn ⊢
    cases e : kbT κ c i with
    | none => rw [e] at hn; simp at hn
    | some κ' =>
      rw [e] at hn
      have hl := kbT_len h1 h9 e
      exact kbF_q cs (i + 1) (kbT_q hq h1 e) hl.1 hl.2 hn
/-- a part without brackets that may not be empty -/
theorem bare_q {κ : kB} {so : Nat} {ps : Nat → Int64} {cs : List Nat} {i L : Nat} (hq : κ.2.2.1 = none) (hb : κ.2.1 = some so) (hp : (κ.2.2.2.2.2 so).1 = ps so) (h1 : 1 ≤ κ.1.length) (h9 : κ.1.length ≤ 9) (hc : ¬ hdV (skF cs i).1 = nI 40) (he : (trM (dT (ps so)) 1).testBit 8 = false) (hn : (kbF κ cs i).1 = none) (hL : i + cs.length = L) : kbE (kbF κ cs i).2 L = some ((skF cs i).2, trM (dT (ps so)) 1 &&& 255, (trM (dT (ps so)) 1).testBit 8, κ.2.2.2.1) := by
  have hea : ∀ pl, ebA κ.2.2.2.2.2 κ.2.1 κ.2.2.1 pl κ.2.2.2.1 = some (pl, trM (dT (ps so)) 1 &&& 255, (trM (dT (ps so)) 1).testBit 8, κ.2.2.2.1) := fun pl => by
    rw [hb, hq]
    show eaA none pl (κ.2.2.2.2.2 so).1 1 κ.2.2.2.1 = _
    rw [hp]
    show (if _ = true then none else some _) = _
    rw [he]; rfl
  have hE : ∀ pl, kbE κ pl = some (pl, trM (dT (ps so)) 1 &&& 255, (trM (dT (ps so)) 1).testBit 8, κ.2.2.2.1) := fun pl => by
    unfold kbE
    cases hst : κ.1 with
    | nil => rw [hst] at h1; simp at h1
    | cons a R =>
      show eaA (ebA κ.2.2.2.2.2 κ.2.1 κ.2.2.1 pl κ.2.2.2.1) pl _ _ _ = _
      rw [hea pl, eaA_q]
  obtain ⟨s1, s2, s3, -⟩ := skF_ok cs i
  rw [kbF_sk] at hn ⊢
  cases hk : (skF cs i).1 with
  | nil =>
    rw [hk] at s2
    show kbE κ L = _
    rw [hE L, show (skF cs i).2 = L by simp at s2; omega]
  | cons c r =>
    rw [hk] at hn hc
    have h32 := s3 c r hk
    rw [kbF_c] at hn ⊢
    obtain ⟨w1, w2⟩ := kbT_w κ c (skF cs i).2
    by_cases qL : 97 ≤ c ∧ c ≤ 104
    · have e := w1 qL
      rw [e] at hn ⊢
      obtain ⟨a1, a2, a3, a4, -⟩ := kbL_at κ (c - 97) (skF cs i).2 h1
      exact kbF_q r _ (kbL_q _ _ (hea _)) (by rw [a3]; exact h1) (by rw [a3]; exact h9) hn
    · obtain ⟨v1, v2, v3⟩ := w2 qL h32
      by_cases q40 : c = 40
      · subst q40
        exact absurd rfl hc
      · by_cases q41 : c = 41
        · obtain ⟨u1, u2⟩ := v2 q41
          by_cases h2 : 2 ≤ κ.1.length
          · rw [u1 h2] at hn ⊢
            exact kbF_q r _ (hE _) (by show 1 ≤ κ.1.tail.length; rw [List.length_tail]; omega) (by show κ.1.tail.length ≤ 9; rw [List.length_tail]; omega) hn
          · rw [u2 h2] at hn; simp at hn
        · rw [v3 q40 q41] at hn; simp at hn
/-- the open parts as the model has them -/
def stG (ps : Nat → Int64) (gse gsz gwh : Nat → Int32) : List (Nat × Nat) → Prop
  | [] => True
  | t :: R => gwh R.length = nI t.1 ∧ t.1 < 9 ∧ rpM (dK (ps t.1)) (dL (ps t.1)) (dN (ps t.1)) gse gsz R.length t.2 ∧ stG ps gse gsz gwh R
theorem rpM_eq {K lf : Nat → Nat} {n : Nat} {a b a' b' : Nat → Int32} {f m : Nat} (h : rpM K lf n a b f m) (h1 : b' f = b f) (h2 : ∀ k, k < 256 → a' (256 * f + k) = a (256 * f + k)) : rpM K lf n a' b' f m := by
  obtain ⟨q1, L, q2, q3⟩ := h
  have hl := rpS_len q2
  refine ⟨q1, L, ⟨h1.trans q2.1, q2.2.1, q2.2.2.1, fun k x hx => ?_⟩, q3⟩
  have := gget_lt hx
  rw [h2 k (by omega)]
  exact q2.2.2.2 k x hx
theorem stG_lv {ps : Nat → Int64} {gse gsz gwh gse' gsz' gwh' : Nat → Int32} {a : Nat} (h : lvF gse gsz gse' gsz' a) (hw : ∀ f, f < a → gwh' f = gwh f) : ∀ {R : List (Nat × Nat)}, R.length ≤ a → stG ps gse gsz gwh R → stG ps gse' gsz' gwh' R
  | [], _, _ => trivial
  | t :: R, hl, q => by
    rw [List.length_cons] at hl
    obtain ⟨q1, q2, q3, q4⟩ := q
    exact ⟨(hw _ (by omega)).trans q1, q2, rpM_eq q3 (h _ (by omega)).1 (h _ (by omega)).2, stG_lv h hw (by omega) q4⟩
/-- the part without brackets is looked at ahead -/
def brG (ps : Nat → Int64) (gse gsz gwh : Nat → Int32) (κ : kB) (cs : List Nat) (i : Nat) : Prop := ∀ b, κ.2.1 = some b → b < 8 ∧ gwh κ.1.length = nI b ∧ rpM (dK (ps b)) (dL (ps b)) (dN (ps b)) gse gsz κ.1.length 1 ∧ (hdV (skF cs i).1 = nI 40 ∨ (trM (dT (ps b)) 1).testBit 8 = true)
theorem br_none {ps : Nat → Int64} {gse gsz gwh : Nat → Int32} {κ : kB} {cs : List Nat} {i : Nat} (h : brG ps gse gsz gwh κ cs i) (hp : ∀ y, y < 9 → (κ.2.2.2.2.2 y).1 = ps y) (hq : κ.2.2.1 = none) (hc : ¬ hdV (skF cs i).1 = nI 40) (pl : Nat) : ebA κ.2.2.2.2.2 κ.2.1 κ.2.2.1 pl κ.2.2.2.1 = none := by
  cases hb : κ.2.1 with
  | none => exact hq
  | some b =>
    obtain ⟨b1, -, -, b4⟩ := h b hb
    rw [hq]
    show eaA none pl (κ.2.2.2.2.2 b).1 1 _ = none
    rw [hp b (by omega)]
    show (if _ = true then none else some _) = none
    rw [if_pos (b4.resolve_left hc)]
section GM
variable (gal : Nat → Int32) (gps : Nat → Int32) (gst : Int32) (grf : Nat → Int32) (gmy : Int32) (gkd : Nat → Int32) (glf : Nat → Int32) (grt : Nat → Int32) (gpr : Nat → Int32) (gun : Nat → Int32) (gow : Nat → Int32) (gem : Nat → Int32) (ged : Nat → Int32) (gse : Nat → Int32) (gsz : Nat → Int32) (gtx : Nat → Int32) (gtl : Int32) (gsp : Int32) (gmd : Nat → Int32) (gop : Nat → Int32) (gom : Int32) (gwt : Nat → Int32) (gwm : Int32) (gtn : Int32) (gon : Int32) (gsh : Nat → Int32) (gtr : Nat → Int32) (gbl : Int32) (gbd : Int32) (gwh : Nat → Int32) (gfl : Int32) (gfd : Int32) (gfe : Int32)
set_option maxRecDepth 100000 in
set_option maxHeartbeats 16000000 in
theorem l_judges {G : aG} (T : List Nat) (hT : txR gtx T) (hl : T.length ≤ 150) (ps : Nat → Int64) (hp : ∀ x, x < 9 → paP gal x (ps x)) (hd : 6 ≤ gD G) (ggn : gN G = 21) (q0 : aQ)
    (hret : ∀ gmy gkd glf grt gpr gun gow gem ged gse gsz gsp gwh gfl gfd gfe, flI q0 gfl gfd gfe → RET G none (gH gal gps gst grf gmy gkd glf grt gpr gun gow gem ged gse gsz gtx (nI T.length) gsp gmd gop gom gwt gwm gtn gon gsh gtr gbl gbd gwh gfl gfd gfe) 0 0) :
    ∀ (n i : Nat) (cs : List Nat) (κ : kB) (l2 : Option Value) (gmy : Int32) (gkd glf grt gpr gun gow gem ged gse gsz gwh : Nat → Int32) (gfl gfd gfe : Int32), cs.length ≤ n → T.drop i = cs → i ≤ T.length → 1 ≤ κ.1.length → κ.1.length ≤ 9 → κ.2.2.1 = none → (∀ y, y < 9 → (κ.2.2.2.2.2 y).1 = ps y) → stG ps gse gsz gwh κ.1 → flI none gfl gfd gfe → brG ps gse gsz gwh κ cs i → okL 21 nomv [l2] = true →
    (kbF κ cs i).1 = none → (kbF κ cs i).2.1.length = 1 → kbE (kbF κ cs i).2 T.length = q0 →
    AW 138 G 35 [some (.ref 0), some (.int (nI (κ.1.length - 1))), l2] [] (gH gal gps gst grf gmy gkd glf grt gpr gun gow gem ged gse gsz gtx (nI T.length) (nI i) gmd gop gom gwt gwm gtn gon gsh gtr gbl gbd gwh gfl gfd gfe) 0 0 := by
  have hend : ∀ (i : Nat) (cs : List Nat) (κ : kB) (l2 : Option Value) (gmy : Int32) (gkd glf grt gpr gun gow gem ged gse gsz gwh : Nat → Int32) (gfl gfd gfe : Int32), (skF cs i).1 = [] → T.drop i = cs → i ≤ T.length → κ.2.2.1 = none → (∀ y, y < 9 → (κ.2.2.2.2.2 y).1 = ps y) → stG ps gse gsz gwh κ.1 → flI none gfl gfd gfe → brG ps gse gsz gwh κ cs i → okL 21 nomv [l2] = true →
    (kbF κ cs i).2.1.length = 1 → kbE (kbF κ cs i).2 T.length = q0 →
    AW 138 G 35 [some (.ref 0), some (.int (nI (κ.1.length - 1))), l2] [] (gH gal gps gst grf gmy gkd glf grt gpr gun gow gem ged gse gsz gtx (nI T.length) (nI i) gmd gop gom gwt gwm gtn gon gsh gtr gbl gbd gwh gfl gfd gfe) 0 0 := by
    intro i cs κ l2 gmy gkd glf grt gpr gun gow gem ged gse gsz gwh gfl gfd gfe hk hcs hi hq hps hst hfl hbr hok hlen hE
    have hh := g_here gal gps gst grf gmy gkd glf grt gpr gun gow gem ged gse gsz gtx gmd gop gom gwt gwm gtn gon gsh gtr gbl gbd gwh gfl gfd gfe 0 i T cs hT hl hcs hi
    have hbn := br_none hbr hps hq (by rw [hk]; decide) T.length
    rw [kbF_sk, hk] at hlen hE
    rw [hk] at hh
    have hhd : hdV [] = -1 := rfl
    rw [hhd] at hh
    have hlen2 : κ.1.length = 1 := hlen
    have hE2 : kbE κ T.length = q0 := hE
    unfold kbE at hE2
    cases hs : κ.1 with
    | nil => rw [hs] at hlen2; simp at hlen2
    | cons t R =>
      rw [hs] at hlen2 hst hE2
      have hR : R = [] := List.length_eq_zero_iff.mp (by rw [List.length_cons] at hlen2; omega)
      subst hR
      obtain ⟨x, m⟩ := t
      dsimp only at hE2
      rw [hbn] at hE2
      obtain ⟨s1, s2, s3, -⟩ := hst
      dsimp only at s1 s2 s3
      rw [hps x s2] at hE2
      have hief := g_isEndFlawed gal gps gst grf gmy gkd glf grt gpr gun gow gem ged gse gsz gtx (nI T.length) (nI (skF cs i).2) gmd gop gom gwt gwm gtn gon gsh gtr gbl gbd gwh gfl gfd gfe 0 0 m T.length x κ.2.2.2.1 s2 (ps x) (hp x s2) (by decide) s1 s3 hfl
      rw [hE2] at hief
      have e0 : [(x, m)].length - 1 = 0 := rfl
      rw [e0]
      clear hcs hk hlen hE hbr hbn
      generalize (skF cs i).2 = i2 at *
      generalize T.length = len at *
      refine wq_aw (S := fun x => x == 35) (by decide) (f := 200) ?_
      simp (disch := first | exact rfl | decide | omega) only [v_138_35, u_138_0, u_138_1, u_138_2, u_138_5, u_138_6, u_138_7, u_138_10, u_138_11, u_138_12, u_138_15, u_138_16, u_138_17, u_138_20, u_138_21, u_138_22, u_138_23, u_138_26, u_138_27, u_138_29, u_138_30, u_138_31, u_138_32, u_138_35, u_138_36, u_138_39, u_138_40, u_138_43, u_138_44, u_138_47, u_138_48, u_138_51, u_138_52, u_138_53, u_138_54, u_138_56, u_138_59, u_138_62, u_138_63, u_138_64, u_138_67, u_138_68, u_138_69, u_138_72, u_138_75, u_138_76, u_138_78, u_138_81, u_138_82, u_138_83, u_138_86, u_138_87, u_138_90, u_138_93, u_138_94, u_138_97, u_138_98, u_138_99, u_138_102, u_138_103, u_138_104, u_138_107, u_138_110, u_138_111, u_138_112, u_138_114, u_138_115, u_138_116, u_138_119, u_138_122, u_138_123, u_138_126, u_138_127, u_138_128, u_138_131, u_138_132, u_138_135, u_138_136, wp_stop, lget, lput1, lput2, kil, hget, hset, vget, vset, fget, fgetC, fput, fputC, iget, igetC, jget, jgetC, qget, qgetC, alen, lenC, oI, oJ, oF, oA, oV, oH, oInc, oIld, oJld, oQld, oR, oLen, oIst, oBst, oJst, oQst, ciOf, rcv, oCp, cat1, cond_true, cond_false, Bool.and_self, Bool.and_true, Bool.true_and, Bool.or_true, Bool.true_or, Bool.or_false, Bool.false_or, Bool.not_false, Bool.not_true, ↓reduceIte, Nat.reduceBEq, Nat.reduceEqDiff, beq_self_eq_true, true_and, and_true, eq_self_iff_true, Nat.reduceAdd, Nat.blt, Nat.ble, z_le, z_lt, z_eq, z_cl, z_add, z_sub, z_mul, z_in, z_lt0, z_ofN, z_m1, z_ltm1, z_m1lt, z_eqm1, z_m1eq, z_m1le, z_lem1, z_beq, nI_0_1, nI_m1lt0, nI_0lem1, not_false_eq_true, not_true_eq_false, forall_const, false_implies, true_implies, implies_true, false_and, and_false, mrg, renc, tra, trv, sg, List.map_cons, List.map_nil, Option.map_some, Option.map_none, Option.toList_some, Option.toList_none, List.cons_append, List.nil_append, List.length_cons, List.length_nil, gH, gO]
      refine CAL.dir hh (by omega) (Nat.zero_le _) (Nat.zero_le _) (Nat.le_of_ble_eq_true rfl) (by rw [ggn]; exact Nat.le_of_ble_eq_true rfl) hok rfl ?_
      rintro _ _ ⟨rfl, rfl⟩
      simp (disch := first | exact rfl | decide | omega) only [u_138_0, u_138_1, u_138_2, u_138_5, u_138_6, u_138_7, u_138_10, u_138_11, u_138_12, u_138_15, u_138_16, u_138_17, u_138_20, u_138_21, u_138_22, u_138_23, u_138_26, u_138_27, u_138_29, u_138_30, u_138_31, u_138_32, u_138_35, u_138_36, u_138_39, u_138_40, u_138_43, u_138_44, u_138_47, u_138_48, u_138_51, u_138_52, u_138_53, u_138_54, u_138_56, u_138_59, u_138_62, u_138_63, u_138_64, u_138_67, u_138_68, u_138_69, u_138_72, u_138_75, u_138_76, u_138_78, u_138_81, u_138_82, u_138_83, u_138_86, u_138_87, u_138_90, u_138_93, u_138_94, u_138_97, u_138_98, u_138_99, u_138_102, u_138_103, u_138_104, u_138_107, u_138_110, u_138_111, u_138_112, u_138_114, u_138_115, u_138_116, u_138_119, u_138_122, u_138_123, u_138_126, u_138_127, u_138_128, u_138_131, u_138_132, u_138_135, u_138_136, wp_stop, lget, lput1, lput2, kil, hget, hset, vget, vset, fget, fgetC, fput, fputC, iget, igetC, jget, jgetC, qget, qgetC, alen, lenC, oI, oJ, oF, oA, oV, oH, oInc, oIld, oJld, oQld, oR, oLen, oIst, oBst, oJst, oQst, ciOf, rcv, oCp, cat1, cond_true, cond_false, Bool.and_self, Bool.and_true, Bool.true_and, Bool.or_true, Bool.true_or, Bool.or_false, Bool.false_or, Bool.not_false, Bool.not_true, ↓reduceIte, Nat.reduceBEq, Nat.reduceEqDiff, beq_self_eq_true, true_and, and_true, eq_self_iff_true, Nat.reduceAdd, Nat.blt, Nat.ble, z_le, z_lt, z_eq, z_cl, z_add, z_sub, z_mul, z_in, z_lt0, z_ofN, z_m1, z_ltm1, z_m1lt, z_eqm1, z_m1eq, z_m1le, z_lem1, z_beq, nI_0_1, nI_m1lt0, nI_0lem1, not_false_eq_true, not_true_eq_false, forall_const, false_implies, true_implies, implies_true, false_and, and_false, mrg, renc, tra, trv, sg, List.map_cons, List.map_nil, Option.map_some, Option.map_none, Option.toList_some, Option.toList_none, List.cons_append, List.nil_append, List.length_cons, List.length_nil, gH, gO]
      refine CAL.dir hief (by omega) (Nat.zero_le _) (Nat.zero_le _) (Nat.le_of_ble_eq_true rfl) (by rw [ggn]; exact Nat.le_of_ble_eq_true rfl) hok rfl ?_
      rintro _ _ ⟨rfl, gmy, gkd, glf, grt, gpr, gun, gow, gem, ged, gse', gsz', gfl, gfd, gfe, rfl, hf2, -⟩
      have hf := hret gmy gkd glf grt gpr gun gow gem ged gse' gsz' (nI i2) gwh gfl gfd gfe hf2
      clear hret
      simp (disch := first | exact rfl | decide | omega) only [u_138_0, u_138_1, u_138_2, u_138_5, u_138_6, u_138_7, u_138_10, u_138_11, u_138_12, u_138_15, u_138_16, u_138_17, u_138_20, u_138_21, u_138_22, u_138_23, u_138_26, u_138_27, u_138_29, u_138_30, u_138_31, u_138_32, u_138_35, u_138_36, u_138_39, u_138_40, u_138_43, u_138_44, u_138_47, u_138_48, u_138_51, u_138_52, u_138_53, u_138_54, u_138_56, u_138_59, u_138_62, u_138_63, u_138_64, u_138_67, u_138_68, u_138_69, u_138_72, u_138_75, u_138_76, u_138_78, u_138_81, u_138_82, u_138_83, u_138_86, u_138_87, u_138_90, u_138_93, u_138_94, u_138_97, u_138_98, u_138_99, u_138_102, u_138_103, u_138_104, u_138_107, u_138_110, u_138_111, u_138_112, u_138_114, u_138_115, u_138_116, u_138_119, u_138_122, u_138_123, u_138_126, u_138_127, u_138_128, u_138_131, u_138_132, u_138_135, u_138_136, wp_stop, lget, lput1, lput2, kil, hget, hset, vget, vset, fget, fgetC, fput, fputC, iget, igetC, jget, jgetC, qget, qgetC, alen, lenC, oI, oJ, oF, oA, oV, oH, oInc, oIld, oJld, oQld, oR, oLen, oIst, oBst, oJst, oQst, ciOf, rcv, oCp, cat1, cond_true, cond_false, Bool.and_self, Bool.and_true, Bool.true_and, Bool.or_true, Bool.true_or, Bool.or_false, Bool.false_or, Bool.not_false, Bool.not_true, ↓reduceIte, Nat.reduceBEq, Nat.reduceEqDiff, beq_self_eq_true, true_and, and_true, eq_self_iff_true, Nat.reduceAdd, Nat.blt, Nat.ble, z_le, z_lt, z_eq, z_cl, z_add, z_sub, z_mul, z_in, z_lt0, z_ofN, z_m1, z_ltm1, z_m1lt, z_eqm1, z_m1eq, z_m1le, z_lem1, z_beq, nI_0_1, nI_m1lt0, nI_0lem1, not_false_eq_true, not_true_eq_false, forall_const, false_implies, true_implies, implies_true, false_and, and_false, mrg, renc, tra, trv, sg, List.map_cons, List.map_nil, Option.map_some, Option.map_none, Option.toList_some, Option.toList_none, List.cons_append, List.nil_append, List.length_cons, List.length_nil, gH, gO]
      exact hf
  intro n
  induction n with
  | zero =>
    intro i cs κ l2 gmy gkd glf grt gpr gun gow gem ged gse gsz gwh gfl gfd gfe hn hcs hi h1 h9 hq hps hst hfl hbr hok hF hlen hE
    have e : cs = [] := List.length_eq_zero_iff.mp (by omega)
    subst e
    exact hend i [] κ l2 gmy gkd glf grt gpr gun gow gem ged gse gsz gwh gfl gfd gfe rfl hcs hi hq hps hst hfl hbr hok hlen hE
  | succ n ih =>
    intro i cs κ l2 gmy gkd glf grt gpr gun gow gem ged gse gsz gwh gfl gfd gfe hn hcs hi h1 h9 hq hps hst hfl hbr hok hF hlen hE
    obtain ⟨k1, k2, k3, -⟩ := skF_ok cs i
    have kd := skF_drop hcs
    cases hc : (skF cs i).1 with
    | nil => exact hend i cs κ l2 gmy gkd glf grt gpr gun gow gem ged gse gsz gwh gfl gfd gfe hc hcs hi hq hps hst hfl hbr hok hlen hE
    | cons c cs3 =>
      clear hend
      have hc32 := k3 c cs3 hc
      rw [hc] at kd
      obtain ⟨d1, d2, d3⟩ := drop_get kd
      obtain ⟨x1, x2⟩ := hT _ c d1
      have hh := g_here gal gps gst grf gmy gkd glf grt gpr gun gow gem ged gse gsz gtx gmd gop gom gwt gwm gtn gon gsh gtr gbl gbd gwh gfl gfd gfe 0 i T cs hT hl hcs hi
      rw [hc] at hh
      have hhd : hdV (c :: cs3) = nI c := rfl
      rw [hhd] at hh
      have hn3 : cs3.length ≤ n := by
        rw [hc, List.length_cons] at k2
        have : cs.length = T.length - i := by rw [← hcs, List.length_drop]
        omega
      have hbn := fun (w : ¬ c = 40) pl => br_none hbr hps hq (by
        rw [hc]
        intro e
        exact w ((nI_eq (by omega) (by decide)).mp e)) pl
      rw [kbF_sk, hc] at hF hlen hE
      have hcsl : (skF cs i).2 + 1 + cs3.length = T.length := by
        rw [hc, List.length_cons] at k2
        have : cs.length = T.length - i := by rw [← hcs, List.length_drop]
        omega
      unfold brG at hbr
      rw [hc] at hbr
      generalize (skF cs i).2 = i2 at *
      obtain ⟨w1, w2⟩ := kbT_w κ c i2
      have hi150 : i2 < 150 := by omega
      have hstep : ∀ κ', kbT κ c i2 = some κ' → (kbF κ' cs3 (i2 + 1)).1 = none ∧ (kbF κ' cs3 (i2 + 1)).2.1.length = 1 ∧ kbE (kbF κ' cs3 (i2 + 1)).2 T.length = q0 := fun κ' e => by
        have := (kbX_some (cs := cs3) (len := 0) e).2
        rw [this] at hF hlen hE
        exact ⟨hF, hlen, hE⟩
      have hno : kbT κ c i2 = none → False := fun e => by
        rw [kbF_c, e] at hF
        simp at hF
      have hpre : AW 138 G 53 [some (.ref 0), some (.int (nI (κ.1.length - 1))), some (.int (nI c))] [] (gH gal gps gst grf gmy gkd glf grt gpr gun gow gem ged gse gsz gtx (nI T.length) (nI i2) gmd gop gom gwt gwm gtn gon gsh gtr gbl gbd gwh gfl gfd gfe) 0 0 → AW 138 G 35 [some (.ref 0), some (.int (nI (κ.1.length - 1))), l2] [] (gH gal gps gst grf gmy gkd glf grt gpr gun gow gem ged gse gsz gtx (nI T.length) (nI i) gmd gop gom gwt gwm gtn gon gsh gtr gbl gbd gwh gfl gfd gfe) 0 0 := by
        intro hpp
        clear ih hret hstep hno hbn w1 w2 hcs kd d1 d2
        generalize T.length = len at *
        generalize κ.1.length - 1 = dp at *
        refine wq_aw (S := fun x => x == 35 || x == 53) (by decide) (f := 200) ?_
        simp (disch := first | exact rfl | decide | omega) only [v_138_35, u_138_0, u_138_1, u_138_2, u_138_5, u_138_6, u_138_7, u_138_10, u_138_11, u_138_12, u_138_15, u_138_16, u_138_17, u_138_20, u_138_21, u_138_22, u_138_23, u_138_26, u_138_27, u_138_29, u_138_30, u_138_31, u_138_32, u_138_35, u_138_36, u_138_39, u_138_40, u_138_43, u_138_44, u_138_47, u_138_48, u_138_51, u_138_52, u_138_53, u_138_54, u_138_56, u_138_59, u_138_62, u_138_63, u_138_64, u_138_67, u_138_68, u_138_69, u_138_72, u_138_75, u_138_76, u_138_78, u_138_81, u_138_82, u_138_83, u_138_86, u_138_87, u_138_90, u_138_93, u_138_94, u_138_97, u_138_98, u_138_99, u_138_102, u_138_103, u_138_104, u_138_107, u_138_110, u_138_111, u_138_112, u_138_114, u_138_115, u_138_116, u_138_119, u_138_122, u_138_123, u_138_126, u_138_127, u_138_128, u_138_131, u_138_132, u_138_135, u_138_136, wp_stop, lget, lput1, lput2, kil, hget, hset, vget, vset, fget, fgetC, fput, fputC, iget, igetC, jget, jgetC, qget, qgetC, alen, lenC, oI, oJ, oF, oA, oV, oH, oInc, oIld, oJld, oQld, oR, oLen, oIst, oBst, oJst, oQst, ciOf, rcv, oCp, cat1, cond_true, cond_false, Bool.and_self, Bool.and_true, Bool.true_and, Bool.or_true, Bool.true_or, Bool.or_false, Bool.false_or, Bool.not_false, Bool.not_true, ↓reduceIte, Nat.reduceBEq, Nat.reduceEqDiff, beq_self_eq_true, true_and, and_true, eq_self_iff_true, Nat.reduceAdd, Nat.blt, Nat.ble, z_le, z_lt, z_eq, z_cl, z_add, z_sub, z_mul, z_in, z_lt0, z_ofN, z_m1, z_ltm1, z_m1lt, z_eqm1, z_m1eq, z_m1le, z_lem1, z_beq, nI_0_1, nI_m1lt0, nI_0lem1, not_false_eq_true, not_true_eq_false, forall_const, false_implies, true_implies, implies_true, false_and, and_false, mrg, renc, tra, trv, sg, List.map_cons, List.map_nil, Option.map_some, Option.map_none, Option.toList_some, Option.toList_none, List.cons_append, List.nil_append, List.length_cons, List.length_nil, gH, gO]
        refine CAL.dir hh (by omega) (Nat.zero_le _) (Nat.zero_le _) (Nat.le_of_ble_eq_true rfl) (by rw [ggn]; exact Nat.le_of_ble_eq_true rfl) hok rfl ?_
        rintro _ _ ⟨rfl, rfl⟩
        simp (disch := first | exact rfl | decide | omega) only [u_138_0, u_138_1, u_138_2, u_138_5, u_138_6, u_138_7, u_138_10, u_138_11, u_138_12, u_138_15, u_138_16, u_138_17, u_138_20, u_138_21, u_138_22, u_138_23, u_138_26, u_138_27, u_138_29, u_138_30, u_138_31, u_138_32, u_138_35, u_138_36, u_138_39, u_138_40, u_138_43, u_138_44, u_138_47, u_138_48, u_138_51, u_138_52, u_138_53, u_138_54, u_138_56, u_138_59, u_138_62, u_138_63, u_138_64, u_138_67, u_138_68, u_138_69, u_138_72, u_138_75, u_138_76, u_138_78, u_138_81, u_138_82, u_138_83, u_138_86, u_138_87, u_138_90, u_138_93, u_138_94, u_138_97, u_138_98, u_138_99, u_138_102, u_138_103, u_138_104, u_138_107, u_138_110, u_138_111, u_138_112, u_138_114, u_138_115, u_138_116, u_138_119, u_138_122, u_138_123, u_138_126, u_138_127, u_138_128, u_138_131, u_138_132, u_138_135, u_138_136, wp_stop, lget, lput1, lput2, kil, hget, hset, vget, vset, fget, fgetC, fput, fputC, iget, igetC, jget, jgetC, qget, qgetC, alen, lenC, oI, oJ, oF, oA, oV, oH, oInc, oIld, oJld, oQld, oR, oLen, oIst, oBst, oJst, oQst, ciOf, rcv, oCp, cat1, cond_true, cond_false, Bool.and_self, Bool.and_true, Bool.true_and, Bool.or_true, Bool.true_or, Bool.or_false, Bool.false_or, Bool.not_false, Bool.not_true, ↓reduceIte, Nat.reduceBEq, Nat.reduceEqDiff, beq_self_eq_true, true_and, and_true, eq_self_iff_true, Nat.reduceAdd, Nat.blt, Nat.ble, z_le, z_lt, z_eq, z_cl, z_add, z_sub, z_mul, z_in, z_lt0, z_ofN, z_m1, z_ltm1, z_m1lt, z_eqm1, z_m1eq, z_m1le, z_lem1, z_beq, nI_0_1, nI_m1lt0, nI_0lem1, not_false_eq_true, not_true_eq_false, forall_const, false_implies, true_implies, implies_true, false_and, and_false, mrg, renc, tra, trv, sg, List.map_cons, List.map_nil, Option.map_some, Option.map_none, Option.toList_some, Option.toList_none, List.cons_append, List.nil_append, List.length_cons, List.length_nil, gH, gO, x1]
        exact hpp
      refine hpre ?_
      clear hpre hh
      by_cases qL : 97 ≤ c ∧ c ≤ 104
      · have n40 : ¬ c = 40 := by omega
        have n41 : ¬ c = 41 := by omega
        obtain ⟨f1, f2, f3⟩ := hstep _ (w1 qL)
        obtain ⟨a1, a2, a3, a4, a5⟩ := kbL_at κ (c - 97) i2 h1
        cases hs : κ.1 with
        | nil => rw [hs] at h1; simp at h1
        | cons t R =>
          obtain ⟨x, m⟩ := t
          rw [hs] at hst h9
          obtain ⟨s1, s2, s3, s4⟩ := hst
          dsimp only at s1 s2 s3
          have hRl : R.length < 9 := by rw [List.length_cons] at h9; omega
          have hfl2 := g_isFlawed gal gps gst grf gmy gkd glf grt gpr gun gow gem ged gse gsz gtx gmd gop gom gwt gwm gtn gon gsh gtr gbl gbd gwh gfl gfd gfe 0 R.length m i2 (c - 97) x κ.2.2.2.1 T cs3 hT hl d2 d3 s2 (by omega) (ps x) (ps (c - 97)) (hp x s2) (hp _ (by omega)) hRl s1 s3 hfl
          have e0 : ((x, m) :: R).length - 1 = R.length := by rw [List.length_cons]; omega
          have hwx := dwf (hp x s2).1
          have hdue := tr_due (x := c - 97) hwx s3.1 (by omega)
          have eTT : trM (tP (dK (ps x)) (dL (ps x)) (dN (ps x))) m = trM (dT (ps x)) m := rfl
          have eGG : dltM (gmP (dK (ps x)) (dL (ps x)) (dN (ps x))) (c - 97) m = dltM (dG (ps x)) (c - 97) m := rfl
          rw [eTT, eGG] at hdue
          have hkL : kbL κ (c - 97) i2 = if (trM (dT (ps x)) m).testBit (c - 97) = true then ((x, dltM (dG (ps x)) (c - 97) m) :: R, some (c - 97), none, κ.2.2.2.1 + 1, max κ.2.2.2.2.1 (R.length + 1), upN κ.2.2.2.2.2 x (sY (κ.2.2.2.2.2 x) (dltM (dG (ps x)) (c - 97) m))) else ((x, m) :: R, some (c - 97), some (i2, trM (dT (ps x)) m &&& 255, (trM (dT (ps x)) m).testBit 8, κ.2.2.2.1), κ.2.2.2.1 + 1, max κ.2.2.2.2.1 (R.length + 1), κ.2.2.2.2.2) := by
            unfold kbL
            rw [hbn n40 i2, hs]
            dsimp only
            rw [hps x s2]
          have hl9 : (kbL κ (c - 97) i2).1.length ≤ 9 ∧ 1 ≤ (kbL κ (c - 97) i2).1.length := by rw [a3, hs]; exact ⟨h9, by rw [List.length_cons]; omega⟩
          have hrun : ∀ (gmy : Int32) (gkd glf grt gpr gun gow gem ged gse' gsz' gwh' : Nat → Int32) (gfl gfd gfe : Int32), dltM (dG (ps x)) (c - 97) m ≠ 0 → (hdV (skF cs3 (i2 + 1)).1 = nI 40 ∨ (trM (dT (ps (c - 97))) 1).testBit 8 = true) → flI none gfl gfd gfe → rpM (dK (ps x)) (dL (ps x)) (dN (ps x)) gse' gsz' R.length (dltM (dG (ps x)) (c - 97) m) → rpM (dK (ps (c - 97))) (dL (ps (c - 97))) (dN (ps (c - 97))) gse' gsz' (R.length + 1) 1 → gwh' = upd gwh (R.length + 1) (nI (c - 97)) → lvF gse gsz gse' gsz' R.length → AW 138 G 35 [some (.ref 0), some (.int (nI R.length)), some (.int (nI c))] [] (gH gal gps gst grf gmy gkd glf grt gpr gun gow gem ged gse' gsz' gtx (nI T.length) (nI (skF cs3 (i2 + 1)).2) gmd gop gom gwt gwm gtn gon gsh gtr gbl gbd gwh' gfl gfd gfe) 0 0 := by
            intro gmy gkd glf grt gpr gun gow gem ged gse' gsz' gwh' gfl gfd gfe g1 g2 g3 g4 g5 g6 g7
            have hb1 : (trM (dT (ps x)) m).testBit (c - 97) = true := by rw [hdue, beq_eq_false_iff_ne.mpr g1]; rfl
            rw [if_pos hb1] at hkL
            obtain ⟨o1, o2, o3, -⟩ := skF_ok cs3 (i2 + 1)
            rw [hkL] at f1 f2 f3 a5
            rw [kbF_sk] at f1 f2 f3
            have := ih (skF cs3 (i2 + 1)).2 (skF cs3 (i2 + 1)).1 ((x, dltM (dG (ps x)) (c - 97) m) :: R, some (c - 97), none, κ.2.2.2.1 + 1, max κ.2.2.2.2.1 (R.length + 1), upN κ.2.2.2.2.2 x (sY (κ.2.2.2.2.2 x) (dltM (dG (ps x)) (c - 97) m))) (some (.int (nI c))) gmy gkd glf grt gpr gun gow gem ged gse' gsz' gwh' gfl gfd gfe (by omega) (skF_drop d2) (by omega) (by show 1 ≤ (_ :: R).length; rw [List.length_cons]; omega) h9 rfl (fun y hy => (a5 y).trans (hps y hy)) ⟨by rw [g6, upd_n (by omega)]; exact s1, s2, g4, stG_lv g7 (fun f hf => by rw [g6, upd_n (by omega)]) (Nat.le_refl _) s4⟩ g3 (fun b hb => by
              have eb : c - 97 = b := Option.some.inj hb
              subst eb
              refine ⟨by omega, ?_, g5, ?_⟩
              · show gwh' (_ :: R).length = _
                rw [g6, List.length_cons, upd_s]
              · rw [skF_idem]
                exact g2) rfl f1 f2 f3
            have e1 : ((x, dltM (dG (ps x)) (c - 97) m) :: R).length - 1 = R.length := by rw [List.length_cons]; omega
            dsimp only at this
            rw [e1] at this
            exact this
          have hA : dltM (dG (ps x)) (c - 97) m = 0 → q0 = some (i2, trM (dT (ps x)) m &&& 255, (trM (dT (ps x)) m).testBit 8, κ.2.2.2.1) := fun z => by
            have hb1 : ¬ (trM (dT (ps x)) m).testBit (c - 97) = true := by rw [hdue, z]; decide
            rw [if_neg hb1] at hkL
            rw [← f3]
            exact kbF_q cs3 (i2 + 1) (by rw [hkL]) hl9.2 hl9.1 f1
          have hB : dltM (dG (ps x)) (c - 97) m ≠ 0 → ¬ hdV (skF cs3 (i2 + 1)).1 = nI 40 → (trM (dT (ps (c - 97))) 1).testBit 8 = false → q0 = some ((skF cs3 (i2 + 1)).2, trM (dT (ps (c - 97))) 1 &&& 255, (trM (dT (ps (c - 97))) 1).testBit 8, κ.2.2.2.1 + 1) := fun g1 g2 g3 => by
            have hb1 : (trM (dT (ps x)) m).testBit (c - 97) = true := by rw [hdue, beq_eq_false_iff_ne.mpr g1]; rfl
            rw [if_pos hb1] at hkL
            rw [← f3, ← a1]
            exact bare_q (by rw [hkL]) a4 ((a5 _).trans (hps _ (by omega))) hl9.2 hl9.1 g2 g3 f1 hcsl
          rw [e0]
          clear ih hstep hno hbn w1 w2 hcs kd d1 hkL f1 f2 f3 a1 a2 a3 a4 a5
          have esub : nI c - nI 97 = nI (c - 97) := z_sub qL.1
          refine wp_aw (S := fun x => x == 35) (by decide) 200 _ _ _ _ _ _ ?_
          simp (disch := first | exact rfl | decide | omega) only [u_138_0, u_138_1, u_138_2, u_138_5, u_138_6, u_138_7, u_138_10, u_138_11, u_138_12, u_138_15, u_138_16, u_138_17, u_138_20, u_138_21, u_138_22, u_138_23, u_138_26, u_138_27, u_138_29, u_138_30, u_138_31, u_138_32, u_138_35, u_138_36, u_138_39, u_138_40, u_138_43, u_138_44, u_138_47, u_138_48, u_138_51, u_138_52, u_138_53, u_138_54, u_138_56, u_138_59, u_138_62, u_138_63, u_138_64, u_138_67, u_138_68, u_138_69, u_138_72, u_138_75, u_138_76, u_138_78, u_138_81, u_138_82, u_138_83, u_138_86, u_138_87, u_138_90, u_138_93, u_138_94, u_138_97, u_138_98, u_138_99, u_138_102, u_138_103, u_138_104, u_138_107, u_138_110, u_138_111, u_138_112, u_138_114, u_138_115, u_138_116, u_138_119, u_138_122, u_138_123, u_138_126, u_138_127, u_138_128, u_138_131, u_138_132, u_138_135, u_138_136, wp_stop, lget, lput1, lput2, kil, hget, hset, vget, vset, fget, fgetC, fput, fputC, iget, igetC, jget, jgetC, qget, qgetC, alen, lenC, oI, oJ, oF, oA, oV, oH, oInc, oIld, oJld, oQld, oR, oLen, oIst, oBst, oJst, oQst, ciOf, rcv, oCp, cat1, cond_true, cond_false, Bool.and_self, Bool.and_true, Bool.true_and, Bool.or_true, Bool.true_or, Bool.or_false, Bool.false_or, Bool.not_false, Bool.not_true, ↓reduceIte, Nat.reduceBEq, Nat.reduceEqDiff, beq_self_eq_true, true_and, and_true, eq_self_iff_true, Nat.reduceAdd, Nat.blt, Nat.ble, z_le, z_lt, z_eq, z_cl, z_add, z_sub, z_mul, z_in, z_lt0, z_ofN, z_m1, z_ltm1, z_m1lt, z_eqm1, z_m1eq, z_m1le, z_lem1, z_beq, nI_0_1, nI_m1lt0, nI_0lem1, not_false_eq_true, not_true_eq_false, forall_const, false_implies, true_implies, implies_true, false_and, and_false, mrg, renc, tra, trv, sg, List.map_cons, List.map_nil, Option.map_some, Option.map_none, Option.toList_some, Option.toList_none, List.cons_append, List.nil_append, List.length_cons, List.length_nil, gH, gO, n40, n41]
          refine CAL.dir hfl2 (by omega) (Nat.zero_le _) (Nat.zero_le _) (Nat.le_of_ble_eq_true rfl) (by rw [ggn]; exact Nat.le_of_ble_eq_true rfl) rfl rfl ?_
          rintro _ _ ⟨gmy, gkd, glf, grt, gpr, gun, gow, gem, ged, gse', gsz', gsp, gwh', gfl, gfd, gfe, rfl, (⟨g1, rfl, g2⟩ | ⟨g1, g2, g3, rfl, g4⟩ | ⟨g1, g2, rfl, g3, rfl, g4, g5, g6, g7⟩)⟩
          · rw [← hA g1] at g2
            have hf := hret gmy gkd glf grt gpr gun gow gem ged gse' gsz' gsp gwh' gfl gfd gfe g2
            clear hret hrun hA hB
            simp (disch := first | exact rfl | decide | omega) only [u_138_0, u_138_1, u_138_2, u_138_5, u_138_6, u_138_7, u_138_10, u_138_11, u_138_12, u_138_15, u_138_16, u_138_17, u_138_20, u_138_21, u_138_22, u_138_23, u_138_26, u_138_27, u_138_29, u_138_30, u_138_31, u_138_32, u_138_35, u_138_36, u_138_39, u_138_40, u_138_43, u_138_44, u_138_47, u_138_48, u_138_51, u_138_52, u_138_53, u_138_54, u_138_56, u_138_59, u_138_62, u_138_63, u_138_64, u_138_67, u_138_68, u_138_69, u_138_72, u_138_75, u_138_76, u_138_78, u_138_81, u_138_82, u_138_83, u_138_86, u_138_87, u_138_90, u_138_93, u_138_94, u_138_97, u_138_98, u_138_99, u_138_102, u_138_103, u_138_104, u_138_107, u_138_110, u_138_111, u_138_112, u_138_114, u_138_115, u_138_116, u_138_119, u_138_122, u_138_123, u_138_126, u_138_127, u_138_128, u_138_131, u_138_132, u_138_135, u_138_136, wp_stop, lget, lput1, lput2, kil, hget, hset, vget, vset, fget, fgetC, fput, fputC, iget, igetC, jget, jgetC, qget, qgetC, alen, lenC, oI, oJ, oF, oA, oV, oH, oInc, oIld, oJld, oQld, oR, oLen, oIst, oBst, oJst, oQst, ciOf, rcv, oCp, cat1, cond_true, cond_false, Bool.and_self, Bool.and_true, Bool.true_and, Bool.or_true, Bool.true_or, Bool.or_false, Bool.false_or, Bool.not_false, Bool.not_true, ↓reduceIte, Nat.reduceBEq, Nat.reduceEqDiff, beq_self_eq_true, true_and, and_true, eq_self_iff_true, Nat.reduceAdd, Nat.blt, Nat.ble, z_le, z_lt, z_eq, z_cl, z_add, z_sub, z_mul, z_in, z_lt0, z_ofN, z_m1, z_ltm1, z_m1lt, z_eqm1, z_m1eq, z_m1le, z_lem1, z_beq, nI_0_1, nI_m1lt0, nI_0lem1, not_false_eq_true, not_true_eq_false, forall_const, false_implies, true_implies, implies_true, false_and, and_false, mrg, renc, tra, trv, sg, List.map_cons, List.map_nil, Option.map_some, Option.map_none, Option.toList_some, Option.toList_none, List.cons_append, List.nil_append, List.length_cons, List.length_nil, gH, gO, n10]
            exact hf
          · rw [← hB g1 g2 g3] at g4
            have hf := hret gmy gkd glf grt gpr gun gow gem ged gse' gsz' gsp gwh' gfl gfd gfe g4
            clear hret hrun hA hB
            simp (disch := first | exact rfl | decide | omega) only [u_138_0, u_138_1, u_138_2, u_138_5, u_138_6, u_138_7, u_138_10, u_138_11, u_138_12, u_138_15, u_138_16, u_138_17, u_138_20, u_138_21, u_138_22, u_138_23, u_138_26, u_138_27, u_138_29, u_138_30, u_138_31, u_138_32, u_138_35, u_138_36, u_138_39, u_138_40, u_138_43, u_138_44, u_138_47, u_138_48, u_138_51, u_138_52, u_138_53, u_138_54, u_138_56, u_138_59, u_138_62, u_138_63, u_138_64, u_138_67, u_138_68, u_138_69, u_138_72, u_138_75, u_138_76, u_138_78, u_138_81, u_138_82, u_138_83, u_138_86, u_138_87, u_138_90, u_138_93, u_138_94, u_138_97, u_138_98, u_138_99, u_138_102, u_138_103, u_138_104, u_138_107, u_138_110, u_138_111, u_138_112, u_138_114, u_138_115, u_138_116, u_138_119, u_138_122, u_138_123, u_138_126, u_138_127, u_138_128, u_138_131, u_138_132, u_138_135, u_138_136, wp_stop, lget, lput1, lput2, kil, hget, hset, vget, vset, fget, fgetC, fput, fputC, iget, igetC, jget, jgetC, qget, qgetC, alen, lenC, oI, oJ, oF, oA, oV, oH, oInc, oIld, oJld, oQld, oR, oLen, oIst, oBst, oJst, oQst, ciOf, rcv, oCp, cat1, cond_true, cond_false, Bool.and_self, Bool.and_true, Bool.true_and, Bool.or_true, Bool.true_or, Bool.or_false, Bool.false_or, Bool.not_false, Bool.not_true, ↓reduceIte, Nat.reduceBEq, Nat.reduceEqDiff, beq_self_eq_true, true_and, and_true, eq_self_iff_true, Nat.reduceAdd, Nat.blt, Nat.ble, z_le, z_lt, z_eq, z_cl, z_add, z_sub, z_mul, z_in, z_lt0, z_ofN, z_m1, z_ltm1, z_m1lt, z_eqm1, z_m1eq, z_m1le, z_lem1, z_beq, nI_0_1, nI_m1lt0, nI_0lem1, not_false_eq_true, not_true_eq_false, forall_const, false_implies, true_implies, implies_true, false_and, and_false, mrg, renc, tra, trv, sg, List.map_cons, List.map_nil, Option.map_some, Option.map_none, Option.toList_some, Option.toList_none, List.cons_append, List.nil_append, List.length_cons, List.length_nil, gH, gO, n10]
            exact hf
          · have hgo := hrun gmy gkd glf grt gpr gun gow gem ged gse' gsz' gwh' gfl gfd gfe g1 g2 g3 g4 g5 g6 g7
            clear hret hrun hA hB
            simp (disch := first | exact rfl | decide | omega) only [u_138_0, u_138_1, u_138_2, u_138_5, u_138_6, u_138_7, u_138_10, u_138_11, u_138_12, u_138_15, u_138_16, u_138_17, u_138_20, u_138_21, u_138_22, u_138_23, u_138_26, u_138_27, u_138_29, u_138_30, u_138_31, u_138_32, u_138_35, u_138_36, u_138_39, u_138_40, u_138_43, u_138_44, u_138_47, u_138_48, u_138_51, u_138_52, u_138_53, u_138_54, u_138_56, u_138_59, u_138_62, u_138_63, u_138_64, u_138_67, u_138_68, u_138_69, u_138_72, u_138_75, u_138_76, u_138_78, u_138_81, u_138_82, u_138_83, u_138_86, u_138_87, u_138_90, u_138_93, u_138_94, u_138_97, u_138_98, u_138_99, u_138_102, u_138_103, u_138_104, u_138_107, u_138_110, u_138_111, u_138_112, u_138_114, u_138_115, u_138_116, u_138_119, u_138_122, u_138_123, u_138_126, u_138_127, u_138_128, u_138_131, u_138_132, u_138_135, u_138_136, wp_stop, lget, lput1, lput2, kil, hget, hset, vget, vset, fget, fgetC, fput, fputC, iget, igetC, jget, jgetC, qget, qgetC, alen, lenC, oI, oJ, oF, oA, oV, oH, oInc, oIld, oJld, oQld, oR, oLen, oIst, oBst, oJst, oQst, ciOf, rcv, oCp, cat1, cond_true, cond_false, Bool.and_self, Bool.and_true, Bool.true_and, Bool.or_true, Bool.true_or, Bool.or_false, Bool.false_or, Bool.not_false, Bool.not_true, ↓reduceIte, Nat.reduceBEq, Nat.reduceEqDiff, beq_self_eq_true, true_and, and_true, eq_self_iff_true, Nat.reduceAdd, Nat.blt, Nat.ble, z_le, z_lt, z_eq, z_cl, z_add, z_sub, z_mul, z_in, z_lt0, z_ofN, z_m1, z_ltm1, z_m1lt, z_eqm1, z_m1eq, z_m1le, z_lem1, z_beq, nI_0_1, nI_m1lt0, nI_0lem1, not_false_eq_true, not_true_eq_false, forall_const, false_implies, true_implies, implies_true, false_and, and_false, mrg, renc, tra, trv, sg, List.map_cons, List.map_nil, Option.map_some, Option.map_none, Option.toList_some, Option.toList_none, List.cons_append, List.nil_append, List.length_cons, List.length_nil, gH, gO]
            exact hgo
      · obtain ⟨v1, v2, v3⟩ := w2 qL hc32
        by_cases q40 : c = 40
        · obtain ⟨u1, u2⟩ := v1 q40
          cases hb : κ.2.1 with
          | none => exact (hno (u2 (Or.inl hb))).elim
          | some b =>
            by_cases h8 : κ.1.length ≤ 8
            · obtain ⟨f1, f2, f3⟩ := hstep _ (u1 b hb h8)
              obtain ⟨b1, b2, b3, -⟩ := hbr b hb
              have hgo := ih (i2 + 1) cs3 (kbO κ b) (some (.int (nI c))) gmy gkd glf grt gpr gun gow gem ged gse gsz gwh gfl gfd gfe hn3 d2 (by omega) (by show 1 ≤ (_ :: κ.1).length; rw [List.length_cons]; omega) (by show (_ :: κ.1).length ≤ 9; rw [List.length_cons]; omega) hq hps ⟨b2, by show b < 9; omega, b3, hst⟩ hfl (fun b' hb' => by have : (none : Option Nat) = some b' := hb'; simp at this) rfl f1 f2 f3
              have e0 : (kbO κ b).1.length - 1 = κ.1.length - 1 + 1 := by show ((_ :: κ.1).length) - 1 = _; rw [List.length_cons]; omega
              rw [e0] at hgo
              clear ih hret hstep hno hbn w1 w2 v1 v2 v3 u1 u2 hcs kd d1 d2 f1 f2 f3 e0
              subst q40
              generalize κ.1.length - 1 = dp at *
              generalize T.length = len at *
              refine wp_aw (S := fun x => x == 35) (by decide) 200 _ _ _ _ _ _ ?_
              simp (disch := first | exact rfl | decide | omega) only [u_138_0, u_138_1, u_138_2, u_138_5, u_138_6, u_138_7, u_138_10, u_138_11, u_138_12, u_138_15, u_138_16, u_138_17, u_138_20, u_138_21, u_138_22, u_138_23, u_138_26, u_138_27, u_138_29, u_138_30, u_138_31, u_138_32, u_138_35, u_138_36, u_138_39, u_138_40, u_138_43, u_138_44, u_138_47, u_138_48, u_138_51, u_138_52, u_138_53, u_138_54, u_138_56, u_138_59, u_138_62, u_138_63, u_138_64, u_138_67, u_138_68, u_138_69, u_138_72, u_138_75, u_138_76, u_138_78, u_138_81, u_138_82, u_138_83, u_138_86, u_138_87, u_138_90, u_138_93, u_138_94, u_138_97, u_138_98, u_138_99, u_138_102, u_138_103, u_138_104, u_138_107, u_138_110, u_138_111, u_138_112, u_138_114, u_138_115, u_138_116, u_138_119, u_138_122, u_138_123, u_138_126, u_138_127, u_138_128, u_138_131, u_138_132, u_138_135, u_138_136, wp_stop, lget, lput1, lput2, kil, hget, hset, vget, vset, fget, fgetC, fput, fputC, iget, igetC, jget, jgetC, qget, qgetC, alen, lenC, oI, oJ, oF, oA, oV, oH, oInc, oIld, oJld, oQld, oR, oLen, oIst, oBst, oJst, oQst, ciOf, rcv, oCp, cat1, cond_true, cond_false, Bool.and_self, Bool.and_true, Bool.true_and, Bool.or_true, Bool.true_or, Bool.or_false, Bool.false_or, Bool.not_false, Bool.not_true, ↓reduceIte, Nat.reduceBEq, Nat.reduceEqDiff, beq_self_eq_true, true_and, and_true, eq_self_iff_true, Nat.reduceAdd, Nat.blt, Nat.ble, z_le, z_lt, z_eq, z_cl, z_add, z_sub, z_mul, z_in, z_lt0, z_ofN, z_m1, z_ltm1, z_m1lt, z_eqm1, z_m1eq, z_m1le, z_lem1, z_beq, nI_0_1, nI_m1lt0, nI_0lem1, not_false_eq_true, not_true_eq_false, forall_const, false_implies, true_implies, implies_true, false_and, and_false, mrg, renc, tra, trv, sg, List.map_cons, List.map_nil, Option.map_some, Option.map_none, Option.toList_some, Option.toList_none, List.cons_append, List.nil_append, List.length_cons, List.length_nil, gH, gO]
              exact hgo
            · exact (hno (u2 (Or.inr h8))).elim
        · by_cases q41 : c = 41
          · obtain ⟨u1, u2⟩ := v2 q41
            by_cases h2 : 2 ≤ κ.1.length
            · obtain ⟨f1, f2, f3⟩ := hstep _ (u1 h2)
              cases hs : κ.1 with
              | nil => rw [hs] at h1; simp at h1
              | cons t R =>
                obtain ⟨x, m⟩ := t
                rw [hs] at hst h9 h2
                obtain ⟨s1, s2, s3, s4⟩ := hst
                dsimp only at s1 s2 s3
                rw [List.length_cons] at h9 h2
                have hkE : kbE κ i2 = eaA none i2 (ps x) m κ.2.2.2.1 := by
                  unfold kbE
                  rw [hs]
                  dsimp only
                  rw [hbn q40 i2, hps x s2]
                have hief := g_isEndFlawed gal gps gst grf gmy gkd glf grt gpr gun gow gem ged gse gsz gtx (nI T.length) (nI i2) gmd gop gom gwt gwm gtn gon gsh gtr gbl gbd gwh gfl gfd gfe 0 R.length m i2 x κ.2.2.2.1 s2 (ps x) (hp x s2) (by omega) s1 s3 hfl
                have e0 : ((x, m) :: R).length - 1 = R.length := by rw [List.length_cons]; omega
                rw [e0]
                have hC1 : (kbC κ i2).1 = R := by show κ.1.tail = R; rw [hs]; rfl
                have hrun : ∀ (gmy : Int32) (gkd glf grt gpr gun gow gem ged : Nat → Int32) (gfl gfd gfe : Int32), (trM (dT (ps x)) m).testBit 8 = true → flI (eaA none i2 (ps x) m κ.2.2.2.1) gfl gfd gfe → AW 138 G 35 [some (.ref 0), some (.int (nI (R.length - 1))), some (.int (nI c))] [] (gH gal gps gst grf gmy gkd glf grt gpr gun gow gem ged gse gsz gtx (nI T.length) (nI (i2 + 1)) gmd gop gom gwt gwm gtn gon gsh gtr gbl gbd gwh gfl gfd gfe) 0 0 := by
                  intro gmy gkd glf grt gpr gun gow gem ged gfl gfd gfe g1 g2
                  have hn0 : eaA none i2 (ps x) m κ.2.2.2.1 = none := by
                    show (if _ = true then none else some _) = none
                    rw [if_pos g1]
                  rw [hn0] at g2 hkE
                  have := ih (i2 + 1) cs3 (kbC κ i2) (some (.int (nI c))) gmy gkd glf grt gpr gun gow gem ged gse gsz gwh gfl gfd gfe hn3 d2 (by omega) (by rw [hC1]; omega) (by rw [hC1]; omega) hkE hps (by rw [hC1]; exact s4) g2 (fun b' hb' => by have : (none : Option Nat) = some b' := hb'; simp at this) rfl f1 f2 f3
                  rw [hC1] at this
                  exact this
                have hA : (trM (dT (ps x)) m).testBit 8 = false → q0 = eaA none i2 (ps x) m κ.2.2.2.1 := fun z => by
                  have hn0 : eaA none i2 (ps x) m κ.2.2.2.1 = some (i2, trM (dT (ps x)) m &&& 255, (trM (dT (ps x)) m).testBit 8, κ.2.2.2.1) := by
                    show (if _ = true then none else some _) = _
                    rw [z]; rfl
                  rw [← f3, hn0]
                  rw [hn0] at hkE
                  exact kbF_q cs3 (i2 + 1) hkE (by rw [hC1]; omega) (by rw [hC1]; omega) f1
                clear ih hstep hno hbn w1 w2 v1 v2 v3 u1 u2 hcs kd d1 d2 f1 f2 f3 e0
                subst q41
                have hR0 : 0 < R.length := by omega
                refine wp_aw (S := fun x => x == 35) (by decide) 200 _ _ _ _ _ _ ?_
                simp (disch := first | exact rfl | decide | omega) only [u_138_0, u_138_1, u_138_2, u_138_5, u_138_6, u_138_7, u_138_10, u_138_11, u_138_12, u_138_15, u_138_16, u_138_17, u_138_20, u_138_21, u_138_22, u_138_23, u_138_26, u_138_27, u_138_29, u_138_30, u_138_31, u_138_32, u_138_35, u_138_36, u_138_39, u_138_40, u_138_43, u_138_44, u_138_47, u_138_48, u_138_51, u_138_52, u_138_53, u_138_54, u_138_56, u_138_59, u_138_62, u_138_63, u_138_64, u_138_67, u_138_68, u_138_69, u_138_72, u_138_75, u_138_76, u_138_78, u_138_81, u_138_82, u_138_83, u_138_86, u_138_87, u_138_90, u_138_93, u_138_94, u_138_97, u_138_98, u_138_99, u_138_102, u_138_103, u_138_104, u_138_107, u_138_110, u_138_111, u_138_112, u_138_114, u_138_115, u_138_116, u_138_119, u_138_122, u_138_123, u_138_126, u_138_127, u_138_128, u_138_131, u_138_132, u_138_135, u_138_136, wp_stop, lget, lput1, lput2, kil, hget, hset, vget, vset, fget, fgetC, fput, fputC, iget, igetC, jget, jgetC, qget, qgetC, alen, lenC, oI, oJ, oF, oA, oV, oH, oInc, oIld, oJld, oQld, oR, oLen, oIst, oBst, oJst, oQst, ciOf, rcv, oCp, cat1, cond_true, cond_false, Bool.and_self, Bool.and_true, Bool.true_and, Bool.or_true, Bool.true_or, Bool.or_false, Bool.false_or, Bool.not_false, Bool.not_true, ↓reduceIte, Nat.reduceBEq, Nat.reduceEqDiff, beq_self_eq_true, true_and, and_true, eq_self_iff_true, Nat.reduceAdd, Nat.blt, Nat.ble, z_le, z_lt, z_eq, z_cl, z_add, z_sub, z_mul, z_in, z_lt0, z_ofN, z_m1, z_ltm1, z_m1lt, z_eqm1, z_m1eq, z_m1le, z_lem1, z_beq, nI_0_1, nI_m1lt0, nI_0lem1, not_false_eq_true, not_true_eq_false, forall_const, false_implies, true_implies, implies_true, false_and, and_false, mrg, renc, tra, trv, sg, List.map_cons, List.map_nil, Option.map_some, Option.map_none, Option.toList_some, Option.toList_none, List.cons_append, List.nil_append, List.length_cons, List.length_nil, gH, gO]
                refine CAL.dir hief (by omega) (Nat.zero_le _) (Nat.zero_le _) (Nat.le_of_ble_eq_true rfl) (by rw [ggn]; exact Nat.le_of_ble_eq_true rfl) rfl rfl ?_
                rintro _ _ ⟨rfl, gmy, gkd, glf, grt, gpr, gun, gow, gem, ged, gse', gsz', gfl, gfd, gfe, rfl, g2, g3⟩
                cases hz : (trM (dT (ps x)) m).testBit 8
                · rw [← hA hz] at g2
                  have hf := hret gmy gkd glf grt gpr gun gow gem ged gse' gsz' (nI i2) gwh gfl gfd gfe g2
                  clear hret hrun hA
                  have ez : bN (!false) = nI 1 := rfl
                  simp (disch := first | exact rfl | decide | omega) only [u_138_0, u_138_1, u_138_2, u_138_5, u_138_6, u_138_7, u_138_10, u_138_11, u_138_12, u_138_15, u_138_16, u_138_17, u_138_20, u_138_21, u_138_22, u_138_23, u_138_26, u_138_27, u_138_29, u_138_30, u_138_31, u_138_32, u_138_35, u_138_36, u_138_39, u_138_40, u_138_43, u_138_44, u_138_47, u_138_48, u_138_51, u_138_52, u_138_53, u_138_54, u_138_56, u_138_59, u_138_62, u_138_63, u_138_64, u_138_67, u_138_68, u_138_69, u_138_72, u_138_75, u_138_76, u_138_78, u_138_81, u_138_82, u_138_83, u_138_86, u_138_87, u_138_90, u_138_93, u_138_94, u_138_97, u_138_98, u_138_99, u_138_102, u_138_103, u_138_104, u_138_107, u_138_110, u_138_111, u_138_112, u_138_114, u_138_115, u_138_116, u_138_119, u_138_122, u_138_123, u_138_126, u_138_127, u_138_128, u_138_131, u_138_132, u_138_135, u_138_136, wp_stop, lget, lput1, lput2, kil, hget, hset, vget, vset, fget, fgetC, fput, fputC, iget, igetC, jget, jgetC, qget, qgetC, alen, lenC, oI, oJ, oF, oA, oV, oH, oInc, oIld, oJld, oQld, oR, oLen, oIst, oBst, oJst, oQst, ciOf, rcv, oCp, cat1, cond_true, cond_false, Bool.and_self, Bool.and_true, Bool.true_and, Bool.or_true, Bool.true_or, Bool.or_false, Bool.false_or, Bool.not_false, Bool.not_true, ↓reduceIte, Nat.reduceBEq, Nat.reduceEqDiff, beq_self_eq_true, true_and, and_true, eq_self_iff_true, Nat.reduceAdd, Nat.blt, Nat.ble, z_le, z_lt, z_eq, z_cl, z_add, z_sub, z_mul, z_in, z_lt0, z_ofN, z_m1, z_ltm1, z_m1lt, z_eqm1, z_m1eq, z_m1le, z_lem1, z_beq, nI_0_1, nI_m1lt0, nI_0lem1, not_false_eq_true, not_true_eq_false, forall_const, false_implies, true_implies, implies_true, false_and, and_false, mrg, renc, tra, trv, sg, List.map_cons, List.map_nil, Option.map_some, Option.map_none, Option.toList_some, Option.toList_none, List.cons_append, List.nil_append, List.length_cons, List.length_nil, gH, gO, ez, n10]
                  exact hf
                · obtain ⟨rfl, rfl⟩ := g3 hz
                  have hgo := hrun gmy gkd glf grt gpr gun gow gem ged gfl gfd gfe hz g2
                  clear hret hrun hA
                  have ez : bN (!true) = nI 0 := rfl
                  simp (disch := first | exact rfl | decide | omega) only [u_138_0, u_138_1, u_138_2, u_138_5, u_138_6, u_138_7, u_138_10, u_138_11, u_138_12, u_138_15, u_138_16, u_138_17, u_138_20, u_138_21, u_138_22, u_138_23, u_138_26, u_138_27, u_138_29, u_138_30, u_138_31, u_138_32, u_138_35, u_138_36, u_138_39, u_138_40, u_138_43, u_138_44, u_138_47, u_138_48, u_138_51, u_138_52, u_138_53, u_138_54, u_138_56, u_138_59, u_138_62, u_138_63, u_138_64, u_138_67, u_138_68, u_138_69, u_138_72, u_138_75, u_138_76, u_138_78, u_138_81, u_138_82, u_138_83, u_138_86, u_138_87, u_138_90, u_138_93, u_138_94, u_138_97, u_138_98, u_138_99, u_138_102, u_138_103, u_138_104, u_138_107, u_138_110, u_138_111, u_138_112, u_138_114, u_138_115, u_138_116, u_138_119, u_138_122, u_138_123, u_138_126, u_138_127, u_138_128, u_138_131, u_138_132, u_138_135, u_138_136, wp_stop, lget, lput1, lput2, kil, hget, hset, vget, vset, fget, fgetC, fput, fputC, iget, igetC, jget, jgetC, qget, qgetC, alen, lenC, oI, oJ, oF, oA, oV, oH, oInc, oIld, oJld, oQld, oR, oLen, oIst, oBst, oJst, oQst, ciOf, rcv, oCp, cat1, cond_true, cond_false, Bool.and_self, Bool.and_true, Bool.true_and, Bool.or_true, Bool.true_or, Bool.or_false, Bool.false_or, Bool.not_false, Bool.not_true, ↓reduceIte, Nat.reduceBEq, Nat.reduceEqDiff, beq_self_eq_true, true_and, and_true, eq_self_iff_true, Nat.reduceAdd, Nat.blt, Nat.ble, z_le, z_lt, z_eq, z_cl, z_add, z_sub, z_mul, z_in, z_lt0, z_ofN, z_m1, z_ltm1, z_m1lt, z_eqm1, z_m1eq, z_m1le, z_lem1, z_beq, nI_0_1, nI_m1lt0, nI_0lem1, not_false_eq_true, not_true_eq_false, forall_const, false_implies, true_implies, implies_true, false_and, and_false, mrg, renc, tra, trv, sg, List.map_cons, List.map_nil, Option.map_some, Option.map_none, Option.toList_some, Option.toList_none, List.cons_append, List.nil_append, List.length_cons, List.length_nil, gH, gO, ez]
                  exact hgo
            · exact (hno (u2 h2)).elim
          · exact (hno (v3 q40 q41)).elim
end GM
