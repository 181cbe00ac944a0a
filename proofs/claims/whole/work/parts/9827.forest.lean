/-! Nodes read so far: a forest; ResidualJudgeModel: node, pops, binds, reduces -/
def kL (L : List Nat) (i : Nat) : Nat := L.getD i 0
theorem kL_o {L : List Nat} {k j : Nat} (h : j < L.length) : kL (L ++ [k]) j = kL L j := by
  unfold kL
  rw [List.getD_eq_getElem?_getD, List.getD_eq_getElem?_getD, List.getElem?_append_left h]
theorem kL_n (L : List Nat) (k : Nat) : kL (L ++ [k]) L.length = k := by
  unfold kL
  rw [List.getD_eq_getElem?_getD, List.getElem?_append_right (Nat.le_refl _), Nat.sub_self]
  rfl
def agW (K lf K' lf' : Nat → Nat) (n : Nat) : Prop := ∀ j, j < n → K' j = K j ∧ lf' j = lf j
theorem pst_cg {K lf K' lf' : Nat → Nat} {n : Nat} (h : agW K lf K' lf' n) : ∀ i, i < n → pst K' lf' i = pst K lf i := by
  intro i
  induction i using Nat.strongRecOn with
  | _ i ih =>
    intro hi
    obtain ⟨e1, e2⟩ := h i hi
    unfold pst
    rw [e1, e2]
    split
    · rfl
    · split
      · split
        · exact ih (i - 1) (by omega) (by omega)
        · rfl
      · split
        next q => exact ih (lf i) q (by omega)
        · rfl
def nodW (K lf : Nat → Nat) (n : Nat) : Prop := ∀ i, i < n → 1 ≤ K i ∧ K i ≤ 15 ∧ (10 ≤ K i → 0 < i) ∧ (10 ≤ K i → K i ≤ 12 → lf i + 1 = pst K lf (i - 1))
/-- the roots, the newest first -/
def opR (K lf : Nat → Nat) : Nat → List Nat → Prop
  | n, [] => n = 0
  | n, r :: st => n = r + 1 ∧ opR K lf (pst K lf r) st
theorem nodW_cg {K lf K' lf' : Nat → Nat} {n : Nat} (h : agW K lf K' lf' n) (q : nodW K lf n) : nodW K' lf' n := by
  intro i hi
  obtain ⟨a, b, c, d⟩ := q i hi
  obtain ⟨e1, e2⟩ := h i hi
  rw [e1, e2]
  exact ⟨a, b, c, fun w1 w2 => by rw [pst_cg h (i - 1) (by omega)]; exact d w1 w2⟩
theorem opR_cg {K lf K' lf' : Nat → Nat} {m : Nat} (h : agW K lf K' lf' m) : ∀ {st : List Nat} {n : Nat}, n ≤ m → opR K lf n st → opR K' lf' n st
  | [], _, _, q => q
  | r :: st, n, hn, q => by
    have hr := q.1
    have hp := pst_le K lf r
    exact ⟨q.1, by rw [pst_cg h r (by omega)]; exact opR_cg h (by omega) q.2⟩
section FO
variable {K lf K' : Nat → Nat} {n k : Nat} {st : List Nat}
theorem fo_leaf (h : nodW K lf n) (ho : opR K lf n st) (hk : 1 ≤ k) (hk2 : k ≤ 9) (hag : ∀ j, j < n → K' j = K j) (hn : K' n = k) : nodW K' lf (n + 1) ∧ opR K' lf (n + 1) (n :: st) := by
  have ag : agW K lf K' lf n := fun j hj => ⟨hag j hj, rfl⟩
  refine ⟨fun i hi => ?_, rfl, ?_⟩
  · by_cases e : i = n
    · subst e
      rw [hn]
      exact ⟨hk, by omega, fun w => by omega, fun w => by omega⟩
    · exact nodW_cg ag h i (by omega)
  · rw [pst_leaf (by omega)]
    exact opR_cg ag (Nat.le_refl _) ho
theorem fo_un {r : Nat} (h : nodW K lf n) (ho : opR K lf n (r :: st)) (hk : 13 ≤ k) (hk2 : k ≤ 15) (hag : ∀ j, j < n → K' j = K j) (hn : K' n = k) : n = r + 1 ∧ nodW K' lf (n + 1) ∧ opR K' lf (n + 1) (n :: st) := by
  have ag : agW K lf K' lf n := fun j hj => ⟨hag j hj, rfl⟩
  have hr := ho.1
  refine ⟨hr, fun i hi => ?_, rfl, ?_⟩
  · by_cases e : i = n
    · subst e
      rw [hn]
      exact ⟨by omega, by omega, fun w => by omega, fun w => by omega⟩
    · exact nodW_cg ag h i (by omega)
  · rw [pst_un (by omega) (by omega), show n - 1 = r by omega, pst_cg ag r (by omega)]
    have hp := pst_le K lf r
    exact opR_cg ag (by omega) ho.2
theorem fo_bin {a b : Nat} (h : nodW K lf n) (ho : opR K lf n (b :: a :: st)) (hk : 10 ≤ k) (hk2 : k ≤ 12) (hag : ∀ j, j < n → K' j = K j) (hn : K' n = k) : n = b + 1 ∧ a < b ∧ nodW K' (updN lf n a) (n + 1) ∧ opR K' (updN lf n a) (n + 1) (n :: st) := by
  have ag : agW K lf K' (updN lf n a) n := fun j hj => ⟨hag j hj, updN_n (by omega)⟩
  obtain ⟨hb, ha, ho2⟩ := ho
  have hp := pst_le K lf b
  refine ⟨hb, by omega, fun i hi => ?_, rfl, ?_⟩
  · by_cases e : i = n
    · subst e
      rw [hn, updN_s, show i - 1 = b by omega, pst_cg ag b (by omega)]
      exact ⟨by omega, by omega, fun w => by omega, fun w1 w2 => by omega⟩
    · exact nodW_cg ag h i (by omega)
  · rw [pst_bin (by omega) (by omega) (by rw [updN_s]; omega), updN_s, pst_cg ag a (by omega)]
    have hp2 := pst_le K lf a
    exact opR_cg ag (by omega) ho2
end FO
/-- nodes as they are made -/
def ndG (gmd : Nat → Int32) (K lf : Nat → Nat) (n : Nat) : Prop := ∀ i, i < n → gmd (1 + 3 * i) = nI (mkK (K i)) ∧ gmd (2 + 3 * i) = lfV K lf i ∧ gmd (3 + 3 * i) = rtV K i
def mdN (gmd : Nat → Int32) (n : Nat) (its a b : Int32) : Nat → Int32 := upd (upd (upd (upd gmd (1 + 3 * n) its) (2 + 3 * n) a) (3 + 3 * n) b) 0 (nI (n + 1))
theorem ndG_app {gmd : Nat → Int32} {K lf K' lf' : Nat → Nat} {n : Nat} (h : ndG gmd K lf n) (hag : agW K lf K' lf' n) {its a b : Int32} (h1 : its = nI (mkK (K' n))) (h2 : a = lfV K' lf' n) (h3 : b = rtV K' n) : ndG (mdN gmd n its a b) K' lf' (n + 1) := by
  intro i hi
  unfold mdN
  by_cases e : i = n
  · subst e
    rw [upd_n (by omega), upd_n (by omega), upd_n (by omega), upd_s, upd_n (by omega), upd_n (by omega), upd_s, upd_n (by omega), upd_s]
    exact ⟨h1, h2, h3⟩
  · obtain ⟨e1, e2⟩ := hag i (by omega)
    obtain ⟨q1, q2, q3⟩ := h i (by omega)
    rw [upd_n (by omega), upd_n (by omega), upd_n (by omega), upd_n (by omega), upd_n (by omega), upd_n (by omega), upd_n (by omega), upd_n (by omega), upd_n (by omega), upd_n (by omega), upd_n (by omega), upd_n (by omega)]
    unfold lfV rtV
    rw [e1, e2]
    exact ⟨q1, q2, q3⟩
theorem mdN_0 (gmd : Nat → Int32) (n : Nat) (its a b : Int32) : mdN gmd n its a b 0 = nI (n + 1) := upd_s
def opG (gop : Nat → Int32) : List Nat → Prop
  | [] => True
  | r :: st => gop st.length = nI r ∧ opG gop st
theorem opG_push {gop : Nat → Int32} {m : Nat} {x : Int32} : ∀ {st : List Nat}, st.length ≤ m → opG gop st → opG (upd gop m x) st
  | [], _, _ => trivial
  | r :: st, h, q => by
    rw [List.length_cons] at h
    exact ⟨by rw [upd_n (by omega)]; exact q.1, opG_push (by omega) q.2⟩
def wK (t : Nat) : Nat := if t = 12 then 9 else t
def bdV (t : Nat) : Nat := if t = 12 then 3 else if t = 11 then 2 else if t = 10 then 1 else 0
def wtG (gwt : Nat → Int32) : List Nat → Prop
  | [] => True
  | t :: W => gwt W.length = nI (wK t) ∧ wtG gwt W
theorem wtG_push {gwt : Nat → Int32} {m : Nat} {x : Int32} : ∀ {W : List Nat}, W.length ≤ m → wtG gwt W → wtG (upd gwt m x) W
  | [], _, _ => trivial
  | t :: W, h, q => by
    rw [List.length_cons] at h
    exact ⟨by rw [upd_n (by omega)]; exact q.1, wtG_push (by omega) q.2⟩
def wtO (W : List Nat) : Prop := ∀ y ∈ W, y = 0 ∨ (10 ≤ y ∧ y ≤ 12)
/-- what is read so far, in the model -/
def prG (gmd gop : Nat → Int32) (gom : Int32) (gwt : Nat → Int32) (gwm : Int32) (W L : List Nat) (u : Nat) : Prop := ∃ lf st, gmd 0 = nI L.length ∧ ndG gmd (kL L) lf L.length ∧ opG gop st ∧ gom = nI st.length ∧ wtG gwt W ∧ gwm = nI W.length ∧ nodW (kL L) lf L.length ∧ opR (kL L) lf L.length st ∧ st.length = nzW W + u
theorem opR_len {K lf : Nat → Nat} : ∀ {st : List Nat} {n : Nat}, opR K lf n st → st.length ≤ n
  | [], _, _ => Nat.zero_le _
  | r :: st, n, q => by
    have := opR_len q.2
    have hp := pst_le K lf r
    have := q.1
    rw [List.length_cons]
    omega
section GM
variable (gal : Nat → Int32) (gps : Nat → Int32) (gst : Int32) (grf : Nat → Int32) (gmy : Int32) (gkd : Nat → Int32) (glf : Nat → Int32) (grt : Nat → Int32) (gpr : Nat → Int32) (gun : Nat → Int32) (gow : Nat → Int32) (gem : Nat → Int32) (ged : Nat → Int32) (gse : Nat → Int32) (gsz : Nat → Int32) (gtx : Nat → Int32) (gtl : Int32) (gsp : Int32) (gmd : Nat → Int32) (gop : Nat → Int32) (gom : Int32) (gwt : Nat → Int32) (gwm : Int32) (gtn : Int32) (gon : Int32) (gsh : Nat → Int32) (gtr : Nat → Int32) (gbl : Int32) (gbd : Int32) (gwh : Nat → Int32) (gfl : Int32) (gfd : Int32) (gfe : Int32)
set_option maxRecDepth 100000 in
theorem g_node (d n m : Nat) (its a b : Int32) (hn : n < 16) (hm : m < 20) (h1 : gmd 0 = nI n) (h2 : gom = nI m) : aSp d 112 [.ref 0, .int its, .int a, .int b] (gH gal gps gst grf gmy gkd glf grt gpr gun gow gem ged gse gsz gtx gtl gsp gmd gop gom gwt gwm gtn gon gsh gtr gbl gbd gwh gfl gfd gfe) nomv 0 0 (fun r h' => r = none ∧ h' = (gH gal gps gst grf gmy gkd glf grt gpr gun gow gem ged gse gsz gtx gtl gsp (mdN gmd n its a b) (upd gop m (nI n)) (nI (m + 1)) gwt gwm gtn gon gsh gtr gbl gbd gwh gfl gfd gfe)) := by
  subst h2
  refine sp_of (by decide) (Nat.le_of_ble_eq_true rfl) ?_
  generalize hG : ((d, _, nomv, _, _, _) : aG) = G
  have ggd : gD G = d := by subst hG; rfl
  have ggn : gN G = 21 := by subst hG; rfl
  have ggm : gM G = nomv := by subst hG; rfl
  have ggc : gC G = 0 := by subst hG; rfl
  have ggs : gS G = 0 := by subst hG; rfl
  have hret : RET G none (gH gal gps gst grf gmy gkd glf grt gpr gun gow gem ged gse gsz gtx gtl gsp (mdN gmd n its a b) (upd gop m (nI n)) (nI (m + 1)) gwt gwm gtn gon gsh gtr gbl gbd gwh gfl gfd gfe) 0 0 := by
    subst hG
    exact RET.id ⟨rfl, rfl⟩ (Nat.le_refl _) (Nat.le_refl _)
  clear hG
  unfold mdN at hret
  have h0 : upd (upd (upd gmd (1 + 3 * n) its) (2 + 3 * n) a) (3 + 3 * n) b 0 = nI n := by rw [upd_n (by omega), upd_n (by omega), upd_n (by omega)]; exact h1
  refine wp_aw (S := fun _ => false) (by decide) 200 _ _ _ _ _ _ ?_
  simp (disch := first | exact rfl | decide | omega) only [u_112_0, u_112_1, u_112_4, u_112_5, u_112_6, u_112_8, u_112_9, u_112_12, u_112_13, u_112_14, u_112_16, u_112_17, u_112_18, u_112_19, u_112_20, u_112_21, u_112_24, u_112_25, u_112_26, u_112_28, u_112_29, u_112_30, u_112_31, u_112_32, u_112_33, u_112_36, u_112_37, u_112_38, u_112_40, u_112_41, u_112_42, u_112_43, u_112_44, u_112_45, u_112_48, u_112_49, u_112_50, u_112_51, u_112_52, u_112_53, u_112_54, u_112_55, u_112_58, u_112_59, u_112_62, u_112_64, u_112_65, u_112_66, u_112_67, u_112_70, u_112_71, u_112_72, u_112_75, wp_stop, lget, lput1, lput2, kil, hget, hset, vget, vset, fget, fgetC, fput, fputC, iget, igetC, jget, jgetC, qget, qgetC, alen, lenC, oI, oJ, oF, oA, oV, oH, oInc, oIld, oJld, oQld, oR, oLen, oIst, oBst, oJst, oQst, ciOf, rcv, oCp, cat1, cond_true, cond_false, Bool.and_self, Bool.and_true, Bool.true_and, Bool.or_true, Bool.true_or, Bool.or_false, Bool.false_or, Bool.not_false, Bool.not_true, ↓reduceIte, Nat.reduceBEq, Nat.reduceEqDiff, beq_self_eq_true, true_and, and_true, eq_self_iff_true, Nat.reduceAdd, Nat.blt, Nat.ble, z_le, z_lt, z_eq, z_cl, z_add, z_sub, z_mul, z_in, z_lt0, z_ofN, z_m1, z_ltm1, z_m1lt, z_eqm1, z_m1eq, z_m1le, z_lem1, z_beq, nI_0_1, nI_m1lt0, nI_0lem1, not_false_eq_true, not_true_eq_false, forall_const, false_implies, true_implies, implies_true, false_and, and_false, mrg, renc, tra, trv, sg, List.map_cons, List.map_nil, Option.map_some, Option.map_none, Option.toList_some, Option.toList_none, List.cons_append, List.nil_append, List.length_cons, List.length_nil, eL, mL_112, gH, gO, h1, h0]
  exact hret
set_option maxRecDepth 100000 in
theorem g_pops (d m : Nat) (hm : m < 20) (h2 : gom = nI (m + 1)) : aSp d 115 [.ref 0] (gH gal gps gst grf gmy gkd glf grt gpr gun gow gem ged gse gsz gtx gtl gsp gmd gop gom gwt gwm gtn gon gsh gtr gbl gbd gwh gfl gfd gfe) nomv 0 0 (fun r h' => r = some (.int (gop m)) ∧ h' = (gH gal gps gst grf gmy gkd glf grt gpr gun gow gem ged gse gsz gtx gtl gsp gmd gop (nI m) gwt gwm gtn gon gsh gtr gbl gbd gwh gfl gfd gfe)) := by
  subst h2
  refine sp_of (by decide) (Nat.le_of_ble_eq_true rfl) ?_
  generalize hG : ((d, _, nomv, _, _, _) : aG) = G
  have ggd : gD G = d := by subst hG; rfl
  have ggn : gN G = 21 := by subst hG; rfl
  have ggm : gM G = nomv := by subst hG; rfl
  have ggc : gC G = 0 := by subst hG; rfl
  have ggs : gS G = 0 := by subst hG; rfl
  have hret : RET G (some (.int (gop m))) (gH gal gps gst grf gmy gkd glf grt gpr gun gow gem ged gse gsz gtx gtl gsp gmd gop (nI m) gwt gwm gtn gon gsh gtr gbl gbd gwh gfl gfd gfe) 0 0 := by
    subst hG
    exact RET.id ⟨rfl, rfl⟩ (Nat.le_refl _) (Nat.le_refl _)
  clear hG
  refine wp_aw (S := fun _ => false) (by decide) 200 _ _ _ _ _ _ ?_
  simp (disch := first | exact rfl | decide | omega) only [u_115_0, u_115_1, u_115_2, u_115_5, u_115_6, u_115_7, u_115_10, u_115_11, u_115_14, u_115_15, u_115_18, u_115_19, wp_stop, lget, lput1, lput2, kil, hget, hset, vget, vset, fget, fgetC, fput, fputC, iget, igetC, jget, jgetC, qget, qgetC, alen, lenC, oI, oJ, oF, oA, oV, oH, oInc, oIld, oJld, oQld, oR, oLen, oIst, oBst, oJst, oQst, ciOf, rcv, oCp, cat1, cond_true, cond_false, Bool.and_self, Bool.and_true, Bool.true_and, Bool.or_true, Bool.true_or, Bool.or_false, Bool.false_or, Bool.not_false, Bool.not_true, ↓reduceIte, Nat.reduceBEq, Nat.reduceEqDiff, beq_self_eq_true, true_and, and_true, eq_self_iff_true, Nat.reduceAdd, Nat.blt, Nat.ble, z_le, z_lt, z_eq, z_cl, z_add, z_sub, z_mul, z_in, z_lt0, z_ofN, z_m1, z_ltm1, z_m1lt, z_eqm1, z_m1eq, z_m1le, z_lem1, z_beq, nI_0_1, nI_m1lt0, nI_0lem1, not_false_eq_true, not_true_eq_false, forall_const, false_implies, true_implies, implies_true, false_and, and_false, mrg, renc, tra, trv, sg, List.map_cons, List.map_nil, Option.map_some, Option.map_none, Option.toList_some, Option.toList_none, List.cons_append, List.nil_append, List.length_cons, List.length_nil, eL, mL_115, gH, gO, Nat.add_sub_cancel]
  exact hret
end GM
set_option maxRecDepth 100000 in
theorem g_binds (d t : Nat) (ht : t = 0 ∨ (10 ≤ t ∧ t ≤ 12)) (h : aH) : aSp d 114 [.int (nI (wK t))] h nomv 0 0 (fun r h' => r = some (.int (nI (bdV t))) ∧ h' = h) := by
  refine sp_of (by decide) (Nat.le_of_ble_eq_true rfl) ?_
  generalize hG : ((d, _, nomv, _, _, _) : aG) = G
  have hret : RET G (some (.int (nI (bdV t)))) h 0 0 := by
    subst hG
    exact RET.id ⟨rfl, rfl⟩ (Nat.le_refl _) (Nat.le_refl _)
  clear hG
  have h4 : t = 0 ∨ t = 10 ∨ t = 11 ∨ t = 12 := by omega
  rcases h4 with e | e | e | e
  · subst e
    have e1 : nI (wK 0) = nI 0 := rfl
    rw [e1]
    have hr2 : RET G (some (.int (nI 0))) h 0 0 := hret
    refine wp_aw (S := fun _ => false) (by decide) 200 _ _ _ _ _ _ ?_
    simp (disch := first | exact rfl | decide | omega) only [u_114_0, u_114_1, u_114_3, u_114_6, u_114_7, u_114_10, u_114_11, u_114_13, u_114_16, u_114_17, u_114_20, u_114_21, u_114_23, u_114_26, u_114_27, u_114_30, u_114_31, wp_stop, lget, lput1, lput2, kil, hget, hset, vget, vset, fget, fgetC, fput, fputC, iget, igetC, jget, jgetC, qget, qgetC, alen, lenC, oI, oJ, oF, oA, oV, oH, oInc, oIld, oJld, oQld, oR, oLen, oIst, oBst, oJst, oQst, ciOf, rcv, oCp, cat1, cond_true, cond_false, Bool.and_self, Bool.and_true, Bool.true_and, Bool.or_true, Bool.true_or, Bool.or_false, Bool.false_or, Bool.not_false, Bool.not_true, ↓reduceIte, Nat.reduceBEq, Nat.reduceEqDiff, beq_self_eq_true, true_and, and_true, eq_self_iff_true, Nat.reduceAdd, Nat.blt, Nat.ble, z_le, z_lt, z_eq, z_cl, z_add, z_sub, z_mul, z_in, z_lt0, z_ofN, z_m1, z_ltm1, z_m1lt, z_eqm1, z_m1eq, z_m1le, z_lem1, z_beq, nI_0_1, nI_m1lt0, nI_0lem1, not_false_eq_true, not_true_eq_false, forall_const, false_implies, true_implies, implies_true, false_and, and_false, mrg, renc, tra, trv, sg, List.map_cons, List.map_nil, Option.map_some, Option.map_none, Option.toList_some, Option.toList_none, List.cons_append, List.nil_append, List.length_cons, List.length_nil, eL, mL_114]
    exact hr2
  · subst e
    have e1 : nI (wK 10) = nI 10 := rfl
    rw [e1]
    have hr2 : RET G (some (.int (nI 1))) h 0 0 := hret
    refine wp_aw (S := fun _ => false) (by decide) 200 _ _ _ _ _ _ ?_
    simp (disch := first | exact rfl | decide | omega) only [u_114_0, u_114_1, u_114_3, u_114_6, u_114_7, u_114_10, u_114_11, u_114_13, u_114_16, u_114_17, u_114_20, u_114_21, u_114_23, u_114_26, u_114_27, u_114_30, u_114_31, wp_stop, lget, lput1, lput2, kil, hget, hset, vget, vset, fget, fgetC, fput, fputC, iget, igetC, jget, jgetC, qget, qgetC, alen, lenC, oI, oJ, oF, oA, oV, oH, oInc, oIld, oJld, oQld, oR, oLen, oIst, oBst, oJst, oQst, ciOf, rcv, oCp, cat1, cond_true, cond_false, Bool.and_self, Bool.and_true, Bool.true_and, Bool.or_true, Bool.true_or, Bool.or_false, Bool.false_or, Bool.not_false, Bool.not_true, ↓reduceIte, Nat.reduceBEq, Nat.reduceEqDiff, beq_self_eq_true, true_and, and_true, eq_self_iff_true, Nat.reduceAdd, Nat.blt, Nat.ble, z_le, z_lt, z_eq, z_cl, z_add, z_sub, z_mul, z_in, z_lt0, z_ofN, z_m1, z_ltm1, z_m1lt, z_eqm1, z_m1eq, z_m1le, z_lem1, z_beq, nI_0_1, nI_m1lt0, nI_0lem1, not_false_eq_true, not_true_eq_false, forall_const, false_implies, true_implies, implies_true, false_and, and_false, mrg, renc, tra, trv, sg, List.map_cons, List.map_nil, Option.map_some, Option.map_none, Option.toList_some, Option.toList_none, List.cons_append, List.nil_append, List.length_cons, List.length_nil, eL, mL_114]
    exact hr2
  · subst e
    have e1 : nI (wK 11) = nI 11 := rfl
    rw [e1]
    have hr2 : RET G (some (.int (nI 2))) h 0 0 := hret
    refine wp_aw (S := fun _ => false) (by decide) 200 _ _ _ _ _ _ ?_
    simp (disch := first | exact rfl | decide | omega) only [u_114_0, u_114_1, u_114_3, u_114_6, u_114_7, u_114_10, u_114_11, u_114_13, u_114_16, u_114_17, u_114_20, u_114_21, u_114_23, u_114_26, u_114_27, u_114_30, u_114_31, wp_stop, lget, lput1, lput2, kil, hget, hset, vget, vset, fget, fgetC, fput, fputC, iget, igetC, jget, jgetC, qget, qgetC, alen, lenC, oI, oJ, oF, oA, oV, oH, oInc, oIld, oJld, oQld, oR, oLen, oIst, oBst, oJst, oQst, ciOf, rcv, oCp, cat1, cond_true, cond_false, Bool.and_self, Bool.and_true, Bool.true_and, Bool.or_true, Bool.true_or, Bool.or_false, Bool.false_or, Bool.not_false, Bool.not_true, ↓reduceIte, Nat.reduceBEq, Nat.reduceEqDiff, beq_self_eq_true, true_and, and_true, eq_self_iff_true, Nat.reduceAdd, Nat.blt, Nat.ble, z_le, z_lt, z_eq, z_cl, z_add, z_sub, z_mul, z_in, z_lt0, z_ofN, z_m1, z_ltm1, z_m1lt, z_eqm1, z_m1eq, z_m1le, z_lem1, z_beq, nI_0_1, nI_m1lt0, nI_0lem1, not_false_eq_true, not_true_eq_false, forall_const, false_implies, true_implies, implies_true, false_and, and_false, mrg, renc, tra, trv, sg, List.map_cons, List.map_nil, Option.map_some, Option.map_none, Option.toList_some, Option.toList_none, List.cons_append, List.nil_append, List.length_cons, List.length_nil, eL, mL_114]
    exact hr2
  · subst e
    have e1 : nI (wK 12) = nI 9 := rfl
    rw [e1]
    have hr2 : RET G (some (.int (nI 3))) h 0 0 := hret
    refine wp_aw (S := fun _ => false) (by decide) 200 _ _ _ _ _ _ ?_
    simp (disch := first | exact rfl | decide | omega) only [u_114_0, u_114_1, u_114_3, u_114_6, u_114_7, u_114_10, u_114_11, u_114_13, u_114_16, u_114_17, u_114_20, u_114_21, u_114_23, u_114_26, u_114_27, u_114_30, u_114_31, wp_stop, lget, lput1, lput2, kil, hget, hset, vget, vset, fget, fgetC, fput, fputC, iget, igetC, jget, jgetC, qget, qgetC, alen, lenC, oI, oJ, oF, oA, oV, oH, oInc, oIld, oJld, oQld, oR, oLen, oIst, oBst, oJst, oQst, ciOf, rcv, oCp, cat1, cond_true, cond_false, Bool.and_self, Bool.and_true, Bool.true_and, Bool.or_true, Bool.true_or, Bool.or_false, Bool.false_or, Bool.not_false, Bool.not_true, ↓reduceIte, Nat.reduceBEq, Nat.reduceEqDiff, beq_self_eq_true, true_and, and_true, eq_self_iff_true, Nat.reduceAdd, Nat.blt, Nat.ble, z_le, z_lt, z_eq, z_cl, z_add, z_sub, z_mul, z_in, z_lt0, z_ofN, z_m1, z_ltm1, z_m1lt, z_eqm1, z_m1eq, z_m1le, z_lem1, z_beq, nI_0_1, nI_m1lt0, nI_0lem1, not_false_eq_true, not_true_eq_false, forall_const, false_implies, true_implies, implies_true, false_and, and_false, mrg, renc, tra, trv, sg, List.map_cons, List.map_nil, Option.map_some, Option.map_none, Option.toList_some, Option.toList_none, List.cons_append, List.nil_append, List.length_cons, List.length_nil, eL, mL_114]
    exact hr2
set_option maxRecDepth 100000 in
theorem g_bindsM (d : Nat) (h : aH) : aSp d 114 [.int (-1)] h nomv 0 0 (fun r h' => r = some (.int (nI 0)) ∧ h' = h) := by
  refine sp_of (by decide) (Nat.le_of_ble_eq_true rfl) ?_
  generalize hG : ((d, _, nomv, _, _, _) : aG) = G
  have hret : RET G (some (.int (nI 0))) h 0 0 := by
    subst hG
    exact RET.id ⟨rfl, rfl⟩ (Nat.le_refl _) (Nat.le_refl _)
  clear hG
  refine wp_aw (S := fun _ => false) (by decide) 200 _ _ _ _ _ _ ?_
  simp (disch := first | exact rfl | decide | omega) only [u_114_0, u_114_1, u_114_3, u_114_6, u_114_7, u_114_10, u_114_11, u_114_13, u_114_16, u_114_17, u_114_20, u_114_21, u_114_23, u_114_26, u_114_27, u_114_30, u_114_31, wp_stop, lget, lput1, lput2, kil, hget, hset, vget, vset, fget, fgetC, fput, fputC, iget, igetC, jget, jgetC, qget, qgetC, alen, lenC, oI, oJ, oF, oA, oV, oH, oInc, oIld, oJld, oQld, oR, oLen, oIst, oBst, oJst, oQst, ciOf, rcv, oCp, cat1, cond_true, cond_false, Bool.and_self, Bool.and_true, Bool.true_and, Bool.or_true, Bool.true_or, Bool.or_false, Bool.false_or, Bool.not_false, Bool.not_true, ↓reduceIte, Nat.reduceBEq, Nat.reduceEqDiff, beq_self_eq_true, true_and, and_true, eq_self_iff_true, Nat.reduceAdd, Nat.blt, Nat.ble, z_le, z_lt, z_eq, z_cl, z_add, z_sub, z_mul, z_in, z_lt0, z_ofN, z_m1, z_ltm1, z_m1lt, z_eqm1, z_m1eq, z_m1le, z_lem1, z_beq, nI_0_1, nI_m1lt0, nI_0lem1, not_false_eq_true, not_true_eq_false, forall_const, false_implies, true_implies, implies_true, false_and, and_false, mrg, renc, tra, trv, sg, List.map_cons, List.map_nil, Option.map_some, Option.map_none, Option.toList_some, Option.toList_none, List.cons_append, List.nil_append, List.length_cons, List.length_nil, eL, mL_114]
  exact hret
/-- an operator of the class and how the model names it -/
def opO (op : Nat) (v : Int32) (B : Nat) : Prop := (op = 1 ∧ v = -1 ∧ B = 0) ∨ (10 ≤ op ∧ op ≤ 12 ∧ v = nI (wK op) ∧ B = bdV op)
theorem opO_le {op : Nat} {v : Int32} {B t : Nat} (h : opO op v B) (h1 : 10 ≤ t) (h2 : t ≤ 12) : op ≤ t ↔ B ≤ bdV t := by
  rcases h with ⟨rfl, -, rfl⟩ | ⟨a, b, -, rfl⟩
  · exact ⟨fun _ => Nat.zero_le _, fun _ => by omega⟩
  · unfold bdV
    repeat' split
    all_goals omega
section GM
variable (gal : Nat → Int32) (gps : Nat → Int32) (gst : Int32) (grf : Nat → Int32) (gmy : Int32) (gkd : Nat → Int32) (glf : Nat → Int32) (grt : Nat → Int32) (gpr : Nat → Int32) (gun : Nat → Int32) (gow : Nat → Int32) (gem : Nat → Int32) (ged : Nat → Int32) (gse : Nat → Int32) (gsz : Nat → Int32) (gtx : Nat → Int32) (gtl : Int32) (gsp : Int32) (gmd : Nat → Int32) (gop : Nat → Int32) (gom : Int32) (gwt : Nat → Int32) (gwm : Int32) (gtn : Int32) (gon : Int32) (gsh : Nat → Int32) (gtr : Nat → Int32) (gbl : Int32) (gbd : Int32) (gwh : Nat → Int32) (gfl : Int32) (gfd : Int32) (gfe : Int32)
theorem g_bindsO (d op B : Nat) (v : Int32) (ho : opO op v B) (h : aH) : aSp d 114 [.int v] h nomv 0 0 (fun r h' => r = some (.int (nI B)) ∧ h' = h) := by
  rcases ho with ⟨-, rfl, rfl⟩ | ⟨a, b, rfl, rfl⟩
  · exact g_bindsM d h
  · exact g_binds d op (Or.inr ⟨a, b⟩) h
set_option maxRecDepth 100000 in
set_option maxHeartbeats 8000000 in
theorem l_reduces {G : aG} (op B : Nat) (v : Int32) (ho : opO op v B) (hd : 1 ≤ gD G) (ggn : gN G = 21) :
    ∀ (W L : List Nat) (l2 l3 : Option Value) (gmd gop : Nat → Int32) (gom gwm : Int32), okL 21 nomv [l2, l3] = true → wtO W → W.length ≤ 24 → L.length + nzW W ≤ 16 → prG gmd gop gom gwt gwm W L 1 →
    (∀ gmd gop gom gwm, prG gmd gop gom gwt gwm (popW op W L).1 (popW op W L).2 1 → RET G none (gH gal gps gst grf gmy gkd glf grt gpr gun gow gem ged gse gsz gtx gtl gsp gmd gop gom gwt gwm gtn gon gsh gtr gbl gbd gwh gfl gfd gfe) 0 0) →
    AW 113 G 0 [some (.ref 0), some (.int v), l2, l3] [] (gH gal gps gst grf gmy gkd glf grt gpr gun gow gem ged gse gsz gtx gtl gsp gmd gop gom gwt gwm gtn gon gsh gtr gbl gbd gwh gfl gfd gfe) 0 0 := by
  intro W
  induction W with
  | nil =>
    intro L l2 l3 gmd gop gom gwm hok hW h24 h16 hp hret
    have hf := hret gmd gop gom gwm hp
    obtain ⟨lf, st, p1, p2, p3, p4, p5, p6, p7, p8, p9⟩ := hp
    have p6' : gwm = nI 0 := p6
    clear hret
    refine wq_aw (S := fun x => x == 0) (by decide) (f := 200) ?_
    simp (disch := first | exact rfl | decide | omega) only [v_113_0, u_113_0, u_113_1, u_113_4, u_113_7, u_113_8, u_113_11, u_113_12, u_113_15, u_113_16, u_113_17, u_113_18, u_113_21, u_113_22, u_113_25, u_113_26, u_113_29, u_113_30, u_113_31, u_113_32, u_113_35, u_113_36, u_113_39, u_113_42, u_113_43, u_113_46, u_113_47, u_113_48, u_113_51, u_113_52, u_113_53, u_113_54, u_113_57, u_113_58, u_113_59, u_113_62, u_113_63, u_113_64, u_113_67, u_113_68, u_113_71, u_113_72, u_113_73, u_113_74, u_113_77, u_113_80, wp_stop, lget, lput1, lput2, kil, hget, hset, vget, vset, fget, fgetC, fput, fputC, iget, igetC, jget, jgetC, qget, qgetC, alen, lenC, oI, oJ, oF, oA, oV, oH, oInc, oIld, oJld, oQld, oR, oLen, oIst, oBst, oJst, oQst, ciOf, rcv, oCp, cat1, cond_true, cond_false, Bool.and_self, Bool.and_true, Bool.true_and, Bool.or_true, Bool.true_or, Bool.or_false, Bool.false_or, Bool.not_false, Bool.not_true, ↓reduceIte, Nat.reduceBEq, Nat.reduceEqDiff, beq_self_eq_true, true_and, and_true, eq_self_iff_true, Nat.reduceAdd, Nat.blt, Nat.ble, z_le, z_lt, z_eq, z_cl, z_add, z_sub, z_mul, z_in, z_lt0, z_ofN, z_m1, z_ltm1, z_m1lt, z_eqm1, z_m1eq, z_m1le, z_lem1, z_beq, nI_0_1, nI_m1lt0, nI_0lem1, not_false_eq_true, not_true_eq_false, forall_const, false_implies, true_implies, implies_true, false_and, and_false, mrg, renc, tra, trv, sg, List.map_cons, List.map_nil, Option.map_some, Option.map_none, Option.toList_some, Option.toList_none, List.cons_append, List.nil_append, List.length_cons, List.length_nil, gH, gO, p6', show (0 : Nat) ≤ 0 by decide]
    rw [p6'] at hf
    exact hf
  | cons t W ih =>
    intro L l2 l3 gmd gop gom gwm hok hW h24 h16 hp hret
    have hp0 := hp
    obtain ⟨lf, st, p1, p2, p3, p4, p5, p6, p7, p8, p9⟩ := hp
    have ht := hW t (List.mem_cons_self ..)
    rw [List.length_cons] at p6 h24
    rw [nzW_c] at h16 p9
    obtain ⟨p5a, p5b⟩ := p5
    have t1 : ¬ W.length + 1 ≤ 0 := by omega
    by_cases z : t = 0
    · subst z
      have hop1 : ¬ op ≤ 0 := by
        rcases ho with ⟨a, -, -⟩ | ⟨a, -, -, -⟩ <;> omega
      have hpo : popW op (0 :: W) L = (0 :: W, L) := if_neg hop1
      rw [hpo] at hret
      have hf := hret gmd gop gom gwm hp0
      have p5a' : gwt W.length = nI 0 := p5a
      clear hret ih
      generalize W.length = wl at *
      refine wq_aw (S := fun x => x == 0) (by decide) (f := 200) ?_
      simp (disch := first | exact rfl | decide | omega) only [v_113_0, u_113_0, u_113_1, u_113_4, u_113_7, u_113_8, u_113_11, u_113_12, u_113_15, u_113_16, u_113_17, u_113_18, u_113_21, u_113_22, u_113_25, u_113_26, u_113_29, u_113_30, u_113_31, u_113_32, u_113_35, u_113_36, u_113_39, u_113_42, u_113_43, u_113_46, u_113_47, u_113_48, u_113_51, u_113_52, u_113_53, u_113_54, u_113_57, u_113_58, u_113_59, u_113_62, u_113_63, u_113_64, u_113_67, u_113_68, u_113_71, u_113_72, u_113_73, u_113_74, u_113_77, u_113_80, wp_stop, lget, lput1, lput2, kil, hget, hset, vget, vset, fget, fgetC, fput, fputC, iget, igetC, jget, jgetC, qget, qgetC, alen, lenC, oI, oJ, oF, oA, oV, oH, oInc, oIld, oJld, oQld, oR, oLen, oIst, oBst, oJst, oQst, ciOf, rcv, oCp, cat1, cond_true, cond_false, Bool.and_self, Bool.and_true, Bool.true_and, Bool.or_true, Bool.true_or, Bool.or_false, Bool.false_or, Bool.not_false, Bool.not_true, ↓reduceIte, Nat.reduceBEq, Nat.reduceEqDiff, beq_self_eq_true, true_and, and_true, eq_self_iff_true, Nat.reduceAdd, Nat.blt, Nat.ble, z_le, z_lt, z_eq, z_cl, z_add, z_sub, z_mul, z_in, z_lt0, z_ofN, z_m1, z_ltm1, z_m1lt, z_eqm1, z_m1eq, z_m1le, z_lem1, z_beq, nI_0_1, nI_m1lt0, nI_0lem1, not_false_eq_true, not_true_eq_false, forall_const, false_implies, true_implies, implies_true, false_and, and_false, mrg, renc, tra, trv, sg, List.map_cons, List.map_nil, Option.map_some, Option.map_none, Option.toList_some, Option.toList_none, List.cons_append, List.nil_append, List.length_cons, List.length_nil, gH, gO, p6, t1, p5a', Nat.add_sub_cancel]
      rw [p6] at hf
      exact hf
    · have ht2 : 10 ≤ t ∧ t ≤ 12 := ht.resolve_left z
      have hwk : ¬ wK t = 0 := by unfold wK; split <;> omega
      have hwk2 : wK t ≤ 12 := by unfold wK; split <;> omega
      have hcmp := opO_le ho ht2.1 ht2.2
      rw [if_neg z] at h16 p9
      have hbt := fun h => g_binds 0 t ht h
      have hbo := fun h => g_bindsO 0 op B v ho h
      have hbd : bdV t ≤ 3 := by unfold bdV; repeat' split
                                 all_goals omega
      have hB3 : B ≤ 3 := by
        rcases ho with ⟨-, -, rfl⟩ | ⟨-, -, -, rfl⟩
        · omega
        · unfold bdV; repeat' split
          all_goals omega
      by_cases q : op ≤ t
      · have hpo : popW op (t :: W) L = popW op W (L ++ [t]) := if_pos q
        rw [hpo] at hret
        have t2 : ¬ bdV t < B := by have := hcmp.mp q; omega
        obtain ⟨b, st1, rfl⟩ : ∃ b st1, st = b :: st1 := by
          cases st with
          | nil => simp at p9
          | cons b st1 => exact ⟨b, st1, rfl⟩
        rw [List.length_cons] at p9 p4
        obtain ⟨a, st2, rfl⟩ : ∃ a st2, st1 = a :: st2 := by
          cases st1 with
          | nil => simp at p9
          | cons a st2 => exact ⟨a, st2, rfl⟩
        rw [List.length_cons] at p9 p4
        obtain ⟨o1, o2, o3⟩ := p3
        rw [List.length_cons] at o1
        have hst := opR_len p8
        rw [List.length_cons, List.length_cons] at hst
        obtain ⟨f1, f2, f3, f4⟩ := fo_bin (k := t) (K' := kL (L ++ [t])) p7 p8 ht2.1 ht2.2 (fun j hj => kL_o hj) (kL_n L t)
        have hll : (L ++ [t]).length = L.length + 1 := by rw [List.length_append]; rfl
        have hl16 : L.length < 16 := by omega
        have hmk : nI (wK t) = nI (mkK (kL (L ++ [t]) L.length)) := by
          rw [kL_n]
          unfold wK mkK
          have : t = 10 ∨ t = 11 ∨ t = 12 := by omega
          rcases this with e | e | e <;> subst e <;> rfl
        have hlv : nI a = lfV (kL (L ++ [t])) (updN lf L.length a) L.length := by
          unfold lfV
          rw [kL_n, if_neg (by omega), if_neg (by omega), updN_s]
        have hrv : nI b = rtV (kL (L ++ [t])) L.length := by
          unfold rtV
          rw [kL_n, if_pos ht2, f1, Nat.add_sub_cancel]
        have hnd := ndG_app p2 (fun j hj => ⟨kL_o hj, updN_n (by omega)⟩ : agW (kL L) lf (kL (L ++ [t])) (updN lf L.length a) L.length) hmk hlv hrv
        have hgo := ih (L ++ [t]) (some (.int (nI b))) (some (.int (nI a))) (mdN gmd L.length (nI (wK t)) (nI a) (nI b)) (upd gop st2.length (nI L.length)) (nI (st2.length + 1)) (nI W.length) rfl (fun y hy => hW y (List.mem_cons_of_mem _ hy)) (by omega) (by rw [hll]; omega) ⟨updN lf L.length a, L.length :: st2, by rw [mdN_0, hll], by rw [hll]; exact hnd, ⟨upd_s, opG_push (Nat.le_refl _) o3⟩, rfl, p5b, rfl, by rw [hll]; exact f3, by rw [hll]; exact f4, by rw [List.length_cons]; omega⟩ hret
        clear ih hret hcmp
        have hs20 : st2.length < 17 := by omega
        generalize W.length = wl at *
        generalize st2.length = sl at *
        have hp1 := g_pops gal gps gst grf gmy gkd glf grt gpr gun gow gem ged gse gsz gtx gtl gsp gmd gop (nI (sl + 1 + 1)) gwt (nI (wl + 1)) gtn gon gsh gtr gbl gbd gwh gfl gfd gfe 0 (sl + 1) (by omega) rfl
        have hp2 := g_pops gal gps gst grf gmy gkd glf grt gpr gun gow gem ged gse gsz gtx gtl gsp gmd gop (nI (sl + 1)) gwt (nI (wl + 1)) gtn gon gsh gtr gbl gbd gwh gfl gfd gfe 0 sl (by omega) rfl
        have hno := g_node gal gps gst grf gmy gkd glf grt gpr gun gow gem ged gse gsz gtx gtl gsp gmd gop (nI sl) gwt (nI wl) gtn gon gsh gtr gbl gbd gwh gfl gfd gfe 0 L.length sl (nI (wK t)) (nI a) (nI b) hl16 (by omega) p1 rfl
        rw [o1] at hp1
        rw [o2] at hp2
        generalize L.length = ll at *
        generalize bdV t = bt at *
        refine wq_aw (S := fun x => x == 0) (by decide) (f := 200) ?_
        simp (disch := first | exact rfl | decide | omega) only [v_113_0, u_113_0, u_113_1, u_113_4, u_113_7, u_113_8, u_113_11, u_113_12, u_113_15, u_113_16, u_113_17, u_113_18, u_113_21, u_113_22, u_113_25, u_113_26, u_113_29, u_113_30, u_113_31, u_113_32, u_113_35, u_113_36, u_113_39, u_113_42, u_113_43, u_113_46, u_113_47, u_113_48, u_113_51, u_113_52, u_113_53, u_113_54, u_113_57, u_113_58, u_113_59, u_113_62, u_113_63, u_113_64, u_113_67, u_113_68, u_113_71, u_113_72, u_113_73, u_113_74, u_113_77, u_113_80, wp_stop, lget, lput1, lput2, kil, hget, hset, vget, vset, fget, fgetC, fput, fputC, iget, igetC, jget, jgetC, qget, qgetC, alen, lenC, oI, oJ, oF, oA, oV, oH, oInc, oIld, oJld, oQld, oR, oLen, oIst, oBst, oJst, oQst, ciOf, rcv, oCp, cat1, cond_true, cond_false, Bool.and_self, Bool.and_true, Bool.true_and, Bool.or_true, Bool.true_or, Bool.or_false, Bool.false_or, Bool.not_false, Bool.not_true, ↓reduceIte, Nat.reduceBEq, Nat.reduceEqDiff, beq_self_eq_true, true_and, and_true, eq_self_iff_true, Nat.reduceAdd, Nat.blt, Nat.ble, z_le, z_lt, z_eq, z_cl, z_add, z_sub, z_mul, z_in, z_lt0, z_ofN, z_m1, z_ltm1, z_m1lt, z_eqm1, z_m1eq, z_m1le, z_lem1, z_beq, nI_0_1, nI_m1lt0, nI_0lem1, not_false_eq_true, not_true_eq_false, forall_const, false_implies, true_implies, implies_true, false_and, and_false, mrg, renc, tra, trv, sg, List.map_cons, List.map_nil, Option.map_some, Option.map_none, Option.toList_some, Option.toList_none, List.cons_append, List.nil_append, List.length_cons, List.length_nil, gH, gO, p6, p4, t1, p5a, hwk, Nat.add_sub_cancel]
        refine CAL.dir (hbt _) (by omega) (Nat.zero_le _) (Nat.zero_le _) (Nat.le_of_ble_eq_true rfl) (by rw [ggn]; exact Nat.le_of_ble_eq_true rfl) hok rfl ?_
        rintro _ _ ⟨rfl, rfl⟩
        simp (disch := first | exact rfl | decide | omega) only [u_113_0, u_113_1, u_113_4, u_113_7, u_113_8, u_113_11, u_113_12, u_113_15, u_113_16, u_113_17, u_113_18, u_113_21, u_113_22, u_113_25, u_113_26, u_113_29, u_113_30, u_113_31, u_113_32, u_113_35, u_113_36, u_113_39, u_113_42, u_113_43, u_113_46, u_113_47, u_113_48, u_113_51, u_113_52, u_113_53, u_113_54, u_113_57, u_113_58, u_113_59, u_113_62, u_113_63, u_113_64, u_113_67, u_113_68, u_113_71, u_113_72, u_113_73, u_113_74, u_113_77, u_113_80, wp_stop, lget, lput1, lput2, kil, hget, hset, vget, vset, fget, fgetC, fput, fputC, iget, igetC, jget, jgetC, qget, qgetC, alen, lenC, oI, oJ, oF, oA, oV, oH, oInc, oIld, oJld, oQld, oR, oLen, oIst, oBst, oJst, oQst, ciOf, rcv, oCp, cat1, cond_true, cond_false, Bool.and_self, Bool.and_true, Bool.true_and, Bool.or_true, Bool.true_or, Bool.or_false, Bool.false_or, Bool.not_false, Bool.not_true, ↓reduceIte, Nat.reduceBEq, Nat.reduceEqDiff, beq_self_eq_true, true_and, and_true, eq_self_iff_true, Nat.reduceAdd, Nat.blt, Nat.ble, z_le, z_lt, z_eq, z_cl, z_add, z_sub, z_mul, z_in, z_lt0, z_ofN, z_m1, z_ltm1, z_m1lt, z_eqm1, z_m1eq, z_m1le, z_lem1, z_beq, nI_0_1, nI_m1lt0, nI_0lem1, not_false_eq_true, not_true_eq_false, forall_const, false_implies, true_implies, implies_true, false_and, and_false, mrg, renc, tra, trv, sg, List.map_cons, List.map_nil, Option.map_some, Option.map_none, Option.toList_some, Option.toList_none, List.cons_append, List.nil_append, List.length_cons, List.length_nil, gH, gO]
        refine CAL.dir (hbo _) (by omega) (Nat.zero_le _) (Nat.zero_le _) (Nat.le_of_ble_eq_true rfl) (by rw [ggn]; exact Nat.le_of_ble_eq_true rfl) hok rfl ?_
        rintro _ _ ⟨rfl, rfl⟩
        simp (disch := first | exact rfl | decide | omega) only [u_113_0, u_113_1, u_113_4, u_113_7, u_113_8, u_113_11, u_113_12, u_113_15, u_113_16, u_113_17, u_113_18, u_113_21, u_113_22, u_113_25, u_113_26, u_113_29, u_113_30, u_113_31, u_113_32, u_113_35, u_113_36, u_113_39, u_113_42, u_113_43, u_113_46, u_113_47, u_113_48, u_113_51, u_113_52, u_113_53, u_113_54, u_113_57, u_113_58, u_113_59, u_113_62, u_113_63, u_113_64, u_113_67, u_113_68, u_113_71, u_113_72, u_113_73, u_113_74, u_113_77, u_113_80, wp_stop, lget, lput1, lput2, kil, hget, hset, vget, vset, fget, fgetC, fput, fputC, iget, igetC, jget, jgetC, qget, qgetC, alen, lenC, oI, oJ, oF, oA, oV, oH, oInc, oIld, oJld, oQld, oR, oLen, oIst, oBst, oJst, oQst, ciOf, rcv, oCp, cat1, cond_true, cond_false, Bool.and_self, Bool.and_true, Bool.true_and, Bool.or_true, Bool.true_or, Bool.or_false, Bool.false_or, Bool.not_false, Bool.not_true, ↓reduceIte, Nat.reduceBEq, Nat.reduceEqDiff, beq_self_eq_true, true_and, and_true, eq_self_iff_true, Nat.reduceAdd, Nat.blt, Nat.ble, z_le, z_lt, z_eq, z_cl, z_add, z_sub, z_mul, z_in, z_lt0, z_ofN, z_m1, z_ltm1, z_m1lt, z_eqm1, z_m1eq, z_m1le, z_lem1, z_beq, nI_0_1, nI_m1lt0, nI_0lem1, not_false_eq_true, not_true_eq_false, forall_const, false_implies, true_implies, implies_true, false_and, and_false, mrg, renc, tra, trv, sg, List.map_cons, List.map_nil, Option.map_some, Option.map_none, Option.toList_some, Option.toList_none, List.cons_append, List.nil_append, List.length_cons, List.length_nil, gH, gO, t2]
        refine CAL.dir hp1 (by omega) (Nat.zero_le _) (Nat.zero_le _) (Nat.le_of_ble_eq_true rfl) (by rw [ggn]; exact Nat.le_of_ble_eq_true rfl) hok rfl ?_
        rintro _ _ ⟨rfl, rfl⟩
        have hok3 : okL 21 nomv [l3] = true := by
          cases l2 with
          | none => exact hok
          | some w =>
            have : (okV 21 nomv w && okL 21 nomv [l3]) = true := hok
            rw [Bool.and_eq_true] at this
            exact this.2
        simp (disch := first | exact rfl | decide | omega) only [u_113_0, u_113_1, u_113_4, u_113_7, u_113_8, u_113_11, u_113_12, u_113_15, u_113_16, u_113_17, u_113_18, u_113_21, u_113_22, u_113_25, u_113_26, u_113_29, u_113_30, u_113_31, u_113_32, u_113_35, u_113_36, u_113_39, u_113_42, u_113_43, u_113_46, u_113_47, u_113_48, u_113_51, u_113_52, u_113_53, u_113_54, u_113_57, u_113_58, u_113_59, u_113_62, u_113_63, u_113_64, u_113_67, u_113_68, u_113_71, u_113_72, u_113_73, u_113_74, u_113_77, u_113_80, wp_stop, lget, lput1, lput2, kil, hget, hset, vget, vset, fget, fgetC, fput, fputC, iget, igetC, jget, jgetC, qget, qgetC, alen, lenC, oI, oJ, oF, oA, oV, oH, oInc, oIld, oJld, oQld, oR, oLen, oIst, oBst, oJst, oQst, ciOf, rcv, oCp, cat1, cond_true, cond_false, Bool.and_self, Bool.and_true, Bool.true_and, Bool.or_true, Bool.true_or, Bool.or_false, Bool.false_or, Bool.not_false, Bool.not_true, ↓reduceIte, Nat.reduceBEq, Nat.reduceEqDiff, beq_self_eq_true, true_and, and_true, eq_self_iff_true, Nat.reduceAdd, Nat.blt, Nat.ble, z_le, z_lt, z_eq, z_cl, z_add, z_sub, z_mul, z_in, z_lt0, z_ofN, z_m1, z_ltm1, z_m1lt, z_eqm1, z_m1eq, z_m1le, z_lem1, z_beq, nI_0_1, nI_m1lt0, nI_0lem1, not_false_eq_true, not_true_eq_false, forall_const, false_implies, true_implies, implies_true, false_and, and_false, mrg, renc, tra, trv, sg, List.map_cons, List.map_nil, Option.map_some, Option.map_none, Option.toList_some, Option.toList_none, List.cons_append, List.nil_append, List.length_cons, List.length_nil, gH, gO]
        refine CAL.dir hp2 (by omega) (Nat.zero_le _) (Nat.zero_le _) (Nat.le_of_ble_eq_true rfl) (by rw [ggn]; exact Nat.le_of_ble_eq_true rfl) hok3 rfl ?_
        rintro _ _ ⟨rfl, rfl⟩
        simp (disch := first | exact rfl | decide | omega) only [u_113_0, u_113_1, u_113_4, u_113_7, u_113_8, u_113_11, u_113_12, u_113_15, u_113_16, u_113_17, u_113_18, u_113_21, u_113_22, u_113_25, u_113_26, u_113_29, u_113_30, u_113_31, u_113_32, u_113_35, u_113_36, u_113_39, u_113_42, u_113_43, u_113_46, u_113_47, u_113_48, u_113_51, u_113_52, u_113_53, u_113_54, u_113_57, u_113_58, u_113_59, u_113_62, u_113_63, u_113_64, u_113_67, u_113_68, u_113_71, u_113_72, u_113_73, u_113_74, u_113_77, u_113_80, wp_stop, lget, lput1, lput2, kil, hget, hset, vget, vset, fget, fgetC, fput, fputC, iget, igetC, jget, jgetC, qget, qgetC, alen, lenC, oI, oJ, oF, oA, oV, oH, oInc, oIld, oJld, oQld, oR, oLen, oIst, oBst, oJst, oQst, ciOf, rcv, oCp, cat1, cond_true, cond_false, Bool.and_self, Bool.and_true, Bool.true_and, Bool.or_true, Bool.true_or, Bool.or_false, Bool.false_or, Bool.not_false, Bool.not_true, ↓reduceIte, Nat.reduceBEq, Nat.reduceEqDiff, beq_self_eq_true, true_and, and_true, eq_self_iff_true, Nat.reduceAdd, Nat.blt, Nat.ble, z_le, z_lt, z_eq, z_cl, z_add, z_sub, z_mul, z_in, z_lt0, z_ofN, z_m1, z_ltm1, z_m1lt, z_eqm1, z_m1eq, z_m1le, z_lem1, z_beq, nI_0_1, nI_m1lt0, nI_0lem1, not_false_eq_true, not_true_eq_false, forall_const, false_implies, true_implies, implies_true, false_and, and_false, mrg, renc, tra, trv, sg, List.map_cons, List.map_nil, Option.map_some, Option.map_none, Option.toList_some, Option.toList_none, List.cons_append, List.nil_append, List.length_cons, List.length_nil, gH, gO, p5a, Nat.add_sub_cancel]
        refine CAL.dir hno (by omega) (Nat.zero_le _) (Nat.zero_le _) (Nat.le_of_ble_eq_true rfl) (by rw [ggn]; exact Nat.le_of_ble_eq_true rfl) rfl rfl ?_
        rintro _ _ ⟨rfl, rfl⟩
        simp (disch := first | exact rfl | decide | omega) only [u_113_0, u_113_1, u_113_4, u_113_7, u_113_8, u_113_11, u_113_12, u_113_15, u_113_16, u_113_17, u_113_18, u_113_21, u_113_22, u_113_25, u_113_26, u_113_29, u_113_30, u_113_31, u_113_32, u_113_35, u_113_36, u_113_39, u_113_42, u_113_43, u_113_46, u_113_47, u_113_48, u_113_51, u_113_52, u_113_53, u_113_54, u_113_57, u_113_58, u_113_59, u_113_62, u_113_63, u_113_64, u_113_67, u_113_68, u_113_71, u_113_72, u_113_73, u_113_74, u_113_77, u_113_80, wp_stop, lget, lput1, lput2, kil, hget, hset, vget, vset, fget, fgetC, fput, fputC, iget, igetC, jget, jgetC, qget, qgetC, alen, lenC, oI, oJ, oF, oA, oV, oH, oInc, oIld, oJld, oQld, oR, oLen, oIst, oBst, oJst, oQst, ciOf, rcv, oCp, cat1, cond_true, cond_false, Bool.and_self, Bool.and_true, Bool.true_and, Bool.or_true, Bool.true_or, Bool.or_false, Bool.false_or, Bool.not_false, Bool.not_true, ↓reduceIte, Nat.reduceBEq, Nat.reduceEqDiff, beq_self_eq_true, true_and, and_true, eq_self_iff_true, Nat.reduceAdd, Nat.blt, Nat.ble, z_le, z_lt, z_eq, z_cl, z_add, z_sub, z_mul, z_in, z_lt0, z_ofN, z_m1, z_ltm1, z_m1lt, z_eqm1, z_m1eq, z_m1le, z_lem1, z_beq, nI_0_1, nI_m1lt0, nI_0lem1, not_false_eq_true, not_true_eq_false, forall_const, false_implies, true_implies, implies_true, false_and, and_false, mrg, renc, tra, trv, sg, List.map_cons, List.map_nil, Option.map_some, Option.map_none, Option.toList_some, Option.toList_none, List.cons_append, List.nil_append, List.length_cons, List.length_nil, gH, gO]
        exact hgo
      · have hpo : popW op (t :: W) L = (t :: W, L) := if_neg q
        rw [hpo] at hret
        have hf := hret gmd gop gom gwm hp0
        have t2 : bdV t < B := by
          rcases Nat.lt_or_ge (bdV t) B with w | w
          · exact w
          · exact absurd (hcmp.mpr w) q
        clear hret ih hcmp
        generalize W.length = wl at *
        generalize bdV t = bt at *
        refine wq_aw (S := fun x => x == 0) (by decide) (f := 200) ?_
        simp (disch := first | exact rfl | decide | omega) only [v_113_0, u_113_0, u_113_1, u_113_4, u_113_7, u_113_8, u_113_11, u_113_12, u_113_15, u_113_16, u_113_17, u_113_18, u_113_21, u_113_22, u_113_25, u_113_26, u_113_29, u_113_30, u_113_31, u_113_32, u_113_35, u_113_36, u_113_39, u_113_42, u_113_43, u_113_46, u_113_47, u_113_48, u_113_51, u_113_52, u_113_53, u_113_54, u_113_57, u_113_58, u_113_59, u_113_62, u_113_63, u_113_64, u_113_67, u_113_68, u_113_71, u_113_72, u_113_73, u_113_74, u_113_77, u_113_80, wp_stop, lget, lput1, lput2, kil, hget, hset, vget, vset, fget, fgetC, fput, fputC, iget, igetC, jget, jgetC, qget, qgetC, alen, lenC, oI, oJ, oF, oA, oV, oH, oInc, oIld, oJld, oQld, oR, oLen, oIst, oBst, oJst, oQst, ciOf, rcv, oCp, cat1, cond_true, cond_false, Bool.and_self, Bool.and_true, Bool.true_and, Bool.or_true, Bool.true_or, Bool.or_false, Bool.false_or, Bool.not_false, Bool.not_true, ↓reduceIte, Nat.reduceBEq, Nat.reduceEqDiff, beq_self_eq_true, true_and, and_true, eq_self_iff_true, Nat.reduceAdd, Nat.blt, Nat.ble, z_le, z_lt, z_eq, z_cl, z_add, z_sub, z_mul, z_in, z_lt0, z_ofN, z_m1, z_ltm1, z_m1lt, z_eqm1, z_m1eq, z_m1le, z_lem1, z_beq, nI_0_1, nI_m1lt0, nI_0lem1, not_false_eq_true, not_true_eq_false, forall_const, false_implies, true_implies, implies_true, false_and, and_false, mrg, renc, tra, trv, sg, List.map_cons, List.map_nil, Option.map_some, Option.map_none, Option.toList_some, Option.toList_none, List.cons_append, List.nil_append, List.length_cons, List.length_nil, gH, gO, p6, t1, p5a, hwk, Nat.add_sub_cancel]
        refine CAL.dir (hbt _) (by omega) (Nat.zero_le _) (Nat.zero_le _) (Nat.le_of_ble_eq_true rfl) (by rw [ggn]; exact Nat.le_of_ble_eq_true rfl) hok rfl ?_
        rintro _ _ ⟨rfl, rfl⟩
        simp (disch := first | exact rfl | decide | omega) only [u_113_0, u_113_1, u_113_4, u_113_7, u_113_8, u_113_11, u_113_12, u_113_15, u_113_16, u_113_17, u_113_18, u_113_21, u_113_22, u_113_25, u_113_26, u_113_29, u_113_30, u_113_31, u_113_32, u_113_35, u_113_36, u_113_39, u_113_42, u_113_43, u_113_46, u_113_47, u_113_48, u_113_51, u_113_52, u_113_53, u_113_54, u_113_57, u_113_58, u_113_59, u_113_62, u_113_63, u_113_64, u_113_67, u_113_68, u_113_71, u_113_72, u_113_73, u_113_74, u_113_77, u_113_80, wp_stop, lget, lput1, lput2, kil, hget, hset, vget, vset, fget, fgetC, fput, fputC, iget, igetC, jget, jgetC, qget, qgetC, alen, lenC, oI, oJ, oF, oA, oV, oH, oInc, oIld, oJld, oQld, oR, oLen, oIst, oBst, oJst, oQst, ciOf, rcv, oCp, cat1, cond_true, cond_false, Bool.and_self, Bool.and_true, Bool.true_and, Bool.or_true, Bool.true_or, Bool.or_false, Bool.false_or, Bool.not_false, Bool.not_true, ↓reduceIte, Nat.reduceBEq, Nat.reduceEqDiff, beq_self_eq_true, true_and, and_true, eq_self_iff_true, Nat.reduceAdd, Nat.blt, Nat.ble, z_le, z_lt, z_eq, z_cl, z_add, z_sub, z_mul, z_in, z_lt0, z_ofN, z_m1, z_ltm1, z_m1lt, z_eqm1, z_m1eq, z_m1le, z_lem1, z_beq, nI_0_1, nI_m1lt0, nI_0lem1, not_false_eq_true, not_true_eq_false, forall_const, false_implies, true_implies, implies_true, false_and, and_false, mrg, renc, tra, trv, sg, List.map_cons, List.map_nil, Option.map_some, Option.map_none, Option.toList_some, Option.toList_none, List.cons_append, List.nil_append, List.length_cons, List.length_nil, gH, gO]
        refine CAL.dir (hbo _) (by omega) (Nat.zero_le _) (Nat.zero_le _) (Nat.le_of_ble_eq_true rfl) (by rw [ggn]; exact Nat.le_of_ble_eq_true rfl) hok rfl ?_
        rintro _ _ ⟨rfl, rfl⟩
        simp (disch := first | exact rfl | decide | omega) only [u_113_0, u_113_1, u_113_4, u_113_7, u_113_8, u_113_11, u_113_12, u_113_15, u_113_16, u_113_17, u_113_18, u_113_21, u_113_22, u_113_25, u_113_26, u_113_29, u_113_30, u_113_31, u_113_32, u_113_35, u_113_36, u_113_39, u_113_42, u_113_43, u_113_46, u_113_47, u_113_48, u_113_51, u_113_52, u_113_53, u_113_54, u_113_57, u_113_58, u_113_59, u_113_62, u_113_63, u_113_64, u_113_67, u_113_68, u_113_71, u_113_72, u_113_73, u_113_74, u_113_77, u_113_80, wp_stop, lget, lput1, lput2, kil, hget, hset, vget, vset, fget, fgetC, fput, fputC, iget, igetC, jget, jgetC, qget, qgetC, alen, lenC, oI, oJ, oF, oA, oV, oH, oInc, oIld, oJld, oQld, oR, oLen, oIst, oBst, oJst, oQst, ciOf, rcv, oCp, cat1, cond_true, cond_false, Bool.and_self, Bool.and_true, Bool.true_and, Bool.or_true, Bool.true_or, Bool.or_false, Bool.false_or, Bool.not_false, Bool.not_true, ↓reduceIte, Nat.reduceBEq, Nat.reduceEqDiff, beq_self_eq_true, true_and, and_true, eq_self_iff_true, Nat.reduceAdd, Nat.blt, Nat.ble, z_le, z_lt, z_eq, z_cl, z_add, z_sub, z_mul, z_in, z_lt0, z_ofN, z_m1, z_ltm1, z_m1lt, z_eqm1, z_m1eq, z_m1le, z_lem1, z_beq, nI_0_1, nI_m1lt0, nI_0lem1, not_false_eq_true, not_true_eq_false, forall_const, false_implies, true_implies, implies_true, false_and, and_false, mrg, renc, tra, trv, sg, List.map_cons, List.map_nil, Option.map_some, Option.map_none, Option.toList_some, Option.toList_none, List.cons_append, List.nil_append, List.length_cons, List.length_nil, gH, gO, t2]
        rw [p6] at hf
        exact hf
set_option maxRecDepth 100000 in
theorem g_reduces (d op B : Nat) (v : Int32) (ho : opO op v B) (W L : List Nat) (hW : wtO W) (h24 : W.length ≤ 24) (h16 : L.length + nzW W ≤ 16) (hp : prG gmd gop gom gwt gwm W L 1) : aSp (d + 1) 113 [.ref 0, .int v] (gH gal gps gst grf gmy gkd glf grt gpr gun gow gem ged gse gsz gtx gtl gsp gmd gop gom gwt gwm gtn gon gsh gtr gbl gbd gwh gfl gfd gfe) nomv 0 0 (fun r h' => r = none ∧ ∃ gmd gop gom gwm, h' = (gH gal gps gst grf gmy gkd glf grt gpr gun gow gem ged gse gsz gtx gtl gsp gmd gop gom gwt gwm gtn gon gsh gtr gbl gbd gwh gfl gfd gfe) ∧ prG gmd gop gom gwt gwm (popW op W L).1 (popW op W L).2 1) := by
  refine sp_of (by decide) (Nat.le_of_ble_eq_true rfl) ?_
  generalize hG : ((d + 1, _, nomv, _, _, _) : aG) = G
  have ggd : gD G = d + 1 := by subst hG; rfl
  have ggn : gN G = 21 := by subst hG; rfl
  have ggm : gM G = nomv := by subst hG; rfl
  have ggc : gC G = 0 := by subst hG; rfl
  have ggs : gS G = 0 := by subst hG; rfl
  have hret : ∀ gmd gop gom gwm, prG gmd gop gom gwt gwm (popW op W L).1 (popW op W L).2 1 → RET G none (gH gal gps gst grf gmy gkd glf grt gpr gun gow gem ged gse gsz gtx gtl gsp gmd gop gom gwt gwm gtn gon gsh gtr gbl gbd gwh gfl gfd gfe) 0 0 := by
    subst hG
    intro gmd gop gom gwm q
    exact RET.id ⟨rfl, gmd, gop, gom, gwm, rfl, q⟩ (Nat.le_refl _) (Nat.le_refl _)
  clear hG
  have hgo := l_reduces gal gps gst grf gmy gkd glf grt gpr gun gow gem ged gse gsz gtx gtl gsp gwt gtn gon gsh gtr gbl gbd gwh gfl gfd gfe op B v ho (by rw [ggd]; omega) ggn W L none none gmd gop gom gwm rfl hW h24 h16 hp hret
  clear hret
  refine wp_aw (S := fun x => x == 0) (by decide) 200 _ _ _ _ _ _ ?_
  simp (disch := first | exact rfl | decide | omega) only [u_113_0, u_113_1, u_113_4, u_113_7, u_113_8, u_113_11, u_113_12, u_113_15, u_113_16, u_113_17, u_113_18, u_113_21, u_113_22, u_113_25, u_113_26, u_113_29, u_113_30, u_113_31, u_113_32, u_113_35, u_113_36, u_113_39, u_113_42, u_113_43, u_113_46, u_113_47, u_113_48, u_113_51, u_113_52, u_113_53, u_113_54, u_113_57, u_113_58, u_113_59, u_113_62, u_113_63, u_113_64, u_113_67, u_113_68, u_113_71, u_113_72, u_113_73, u_113_74, u_113_77, u_113_80, wp_stop, lget, lput1, lput2, kil, hget, hset, vget, vset, fget, fgetC, fput, fputC, iget, igetC, jget, jgetC, qget, qgetC, alen, lenC, oI, oJ, oF, oA, oV, oH, oInc, oIld, oJld, oQld, oR, oLen, oIst, oBst, oJst, oQst, ciOf, rcv, oCp, cat1, cond_true, cond_false, Bool.and_self, Bool.and_true, Bool.true_and, Bool.or_true, Bool.true_or, Bool.or_false, Bool.false_or, Bool.not_false, Bool.not_true, ↓reduceIte, Nat.reduceBEq, Nat.reduceEqDiff, beq_self_eq_true, true_and, and_true, eq_self_iff_true, Nat.reduceAdd, Nat.blt, Nat.ble, z_le, z_lt, z_eq, z_cl, z_add, z_sub, z_mul, z_in, z_lt0, z_ofN, z_m1, z_ltm1, z_m1lt, z_eqm1, z_m1eq, z_m1le, z_lem1, z_beq, nI_0_1, nI_m1lt0, nI_0lem1, not_false_eq_true, not_true_eq_false, forall_const, false_implies, true_implies, implies_true, false_and, and_false, mrg, renc, tra, trv, sg, List.map_cons, List.map_nil, Option.map_some, Option.map_none, Option.toList_some, Option.toList_none, List.cons_append, List.nil_append, List.length_cons, List.length_nil, eL, mL_113, gH, gO]
  exact hgo
end GM
