/-! ResidualJudgeModel: here, bookFault -/
/-- blanks passed over -/
def skF : List Nat → Nat → List Nat × Nat
  | [], i => ([], i)
  | c :: cs, i => if c = 32 then skF cs (i + 1) else (c :: cs, i)
def hdV : List Nat → Int32
  | [] => -1
  | c :: _ => nI c
theorem skF_ok : ∀ (cs : List Nat) (i : Nat), i ≤ (skF cs i).2 ∧ (skF cs i).2 + (skF cs i).1.length = i + cs.length ∧ (∀ c r, (skF cs i).1 = c :: r → c ≠ 32) ∧ (skF cs i).1 = cs.drop ((skF cs i).2 - i)
  | [], i => ⟨Nat.le_refl _, rfl, fun c r h => by simp [skF] at h, by simp [skF]⟩
  | c :: cs, i => by
    unfold skF
    by_cases q : c = 32
    · rw [if_pos q]
      obtain ⟨a1, a2, a3, a4⟩ := skF_ok cs (i + 1)
      refine ⟨by omega, by rw [List.length_cons]; omega, a3, ?_⟩
      rw [show (skF cs (i + 1)).2 - i = (skF cs (i + 1)).2 - (i + 1) + 1 by omega, List.drop_succ_cons]
      exact a4
    · rw [if_neg q]
      refine ⟨Nat.le_refl _, rfl, fun c' r h => ?_, by simp⟩
      have := (List.cons.inj h).1
      omega
theorem skF_drop {T cs : List Nat} {i : Nat} (h : T.drop i = cs) : T.drop (skF cs i).2 = (skF cs i).1 := by
  subst h
  obtain ⟨a1, a2, a3, a4⟩ := skF_ok (T.drop i) i
  rw [a4, List.drop_drop]
  congr 1
  omega
theorem drop_get {T cs : List Nat} {i c : Nat} (h : T.drop i = c :: cs) : T[i]? = some c ∧ T.drop (i + 1) = cs ∧ i < T.length := by
  have h1 : (T.drop i)[0]? = some c := by rw [h]; rfl
  rw [List.getElem?_drop] at h1
  have hi := gget_lt h1
  refine ⟨h1, ?_, by omega⟩
  rw [show i + 1 = i + 1 from rfl, ← List.drop_drop, h]
  rfl
theorem drop_nil {T : List Nat} {i : Nat} (h : T.drop i = []) (hi : i ≤ T.length) : i = T.length := by
  have := congrArg List.length h
  rw [List.length_drop, List.length_nil] at this
  omega
section GM
variable (gal : Nat → Int32) (gps : Nat → Int32) (gst : Int32) (grf : Nat → Int32) (gmy : Int32) (gkd : Nat → Int32) (glf : Nat → Int32) (grt : Nat → Int32) (gpr : Nat → Int32) (gun : Nat → Int32) (gow : Nat → Int32) (gem : Nat → Int32) (ged : Nat → Int32) (gse : Nat → Int32) (gsz : Nat → Int32) (gtx : Nat → Int32) (gtl : Int32) (gsp : Int32) (gmd : Nat → Int32) (gop : Nat → Int32) (gom : Int32) (gwt : Nat → Int32) (gwm : Int32) (gtn : Int32) (gon : Int32) (gsh : Nat → Int32) (gtr : Nat → Int32) (gbl : Int32) (gbd : Int32) (gwh : Nat → Int32) (gfl : Int32) (gfd : Int32) (gfe : Int32)
set_option maxRecDepth 100000 in
set_option maxHeartbeats 8000000 in
theorem l_here {G : aG} (T : List Nat) (hT : txR gtx T) (hl : T.length ≤ 150)  :
    ∀ (cs : List Nat) (i : Nat), T.drop i = cs → i ≤ T.length →
    RET G (some (.int (hdV (skF cs i).1))) (gH gal gps gst grf gmy gkd glf grt gpr gun gow gem ged gse gsz gtx (nI T.length) (nI (skF cs i).2) gmd gop gom gwt gwm gtn gon gsh gtr gbl gbd gwh gfl gfd gfe) 0 0 →
    AW 109 G 0 [some (.ref 0)] [] (gH gal gps gst grf gmy gkd glf grt gpr gun gow gem ged gse gsz gtx (nI T.length) (nI i) gmd gop gom gwt gwm gtn gon gsh gtr gbl gbd gwh gfl gfd gfe) 0 0 := by
  intro cs
  induction cs with
  | nil =>
    intro i h hi hret
    have e := drop_nil h hi
    subst e
    have t1 : T.length ≤ T.length := Nat.le_refl _
    have hf : RET G (some (.int (-1))) (gH gal gps gst grf gmy gkd glf grt gpr gun gow gem ged gse gsz gtx (nI T.length) (nI T.length) gmd gop gom gwt gwm gtn gon gsh gtr gbl gbd gwh gfl gfd gfe) 0 0 := hret
    clear hret h
    generalize T.length = len at *
    refine wq_aw (S := fun x => x == 0) (by decide) (f := 200) ?_
    simp (disch := first | exact rfl | decide | omega) only [v_109_0, u_109_0, u_109_1, u_109_4, u_109_5, u_109_8, u_109_11, u_109_12, u_109_15, u_109_16, u_109_19, u_109_20, u_109_22, u_109_25, u_109_26, u_109_27, u_109_30, u_109_31, u_109_32, u_109_35, u_109_38, u_109_39, u_109_42, u_109_43, u_109_46, u_109_49, u_109_50, u_109_53, u_109_54, u_109_57, u_109_58, u_109_61, u_109_62, wp_stop, lget, lput1, lput2, kil, hget, hset, vget, vset, fget, fgetC, fput, fputC, iget, igetC, jget, jgetC, qget, qgetC, alen, lenC, oI, oJ, oF, oA, oV, oH, oInc, oIld, oJld, oQld, oR, oLen, oIst, oBst, oJst, oQst, ciOf, rcv, oCp, cat1, cond_true, cond_false, Bool.and_self, Bool.and_true, Bool.true_and, Bool.or_true, Bool.true_or, Bool.or_false, Bool.false_or, Bool.not_false, Bool.not_true, ↓reduceIte, Nat.reduceBEq, Nat.reduceEqDiff, beq_self_eq_true, true_and, and_true, eq_self_iff_true, Nat.reduceAdd, Nat.blt, Nat.ble, z_le, z_lt, z_eq, z_cl, z_add, z_sub, z_mul, z_in, z_lt0, z_ofN, z_m1, z_ltm1, z_m1lt, z_eqm1, z_m1eq, z_m1le, z_lem1, z_beq, nI_0_1, nI_m1lt0, nI_0lem1, not_false_eq_true, not_true_eq_false, forall_const, false_implies, true_implies, implies_true, false_and, and_false, mrg, renc, tra, trv, sg, List.map_cons, List.map_nil, Option.map_some, Option.map_none, Option.toList_some, Option.toList_none, List.cons_append, List.nil_append, List.length_cons, List.length_nil, gH, gO, t1]
    exact hf
  | cons c cs ih =>
    intro i h hi hret
    obtain ⟨g1, g2, g3⟩ := drop_get h
    obtain ⟨x1, x2⟩ := hT i c g1
    have t1 : ¬ T.length ≤ i := by omega
    unfold skF at hret
    by_cases q : c = 32
    · rw [if_pos q] at hret
      have hgo := ih (i + 1) g2 (by omega) hret
      clear ih hret h g2 g1
      subst q
      generalize T.length = len at *
      refine wq_aw (S := fun x => x == 0) (by decide) (f := 200) ?_
      simp (disch := first | exact rfl | decide | omega) only [v_109_0, u_109_0, u_109_1, u_109_4, u_109_5, u_109_8, u_109_11, u_109_12, u_109_15, u_109_16, u_109_19, u_109_20, u_109_22, u_109_25, u_109_26, u_109_27, u_109_30, u_109_31, u_109_32, u_109_35, u_109_38, u_109_39, u_109_42, u_109_43, u_109_46, u_109_49, u_109_50, u_109_53, u_109_54, u_109_57, u_109_58, u_109_61, u_109_62, wp_stop, lget, lput1, lput2, kil, hget, hset, vget, vset, fget, fgetC, fput, fputC, iget, igetC, jget, jgetC, qget, qgetC, alen, lenC, oI, oJ, oF, oA, oV, oH, oInc, oIld, oJld, oQld, oR, oLen, oIst, oBst, oJst, oQst, ciOf, rcv, oCp, cat1, cond_true, cond_false, Bool.and_self, Bool.and_true, Bool.true_and, Bool.or_true, Bool.true_or, Bool.or_false, Bool.false_or, Bool.not_false, Bool.not_true, ↓reduceIte, Nat.reduceBEq, Nat.reduceEqDiff, beq_self_eq_true, true_and, and_true, eq_self_iff_true, Nat.reduceAdd, Nat.blt, Nat.ble, z_le, z_lt, z_eq, z_cl, z_add, z_sub, z_mul, z_in, z_lt0, z_ofN, z_m1, z_ltm1, z_m1lt, z_eqm1, z_m1eq, z_m1le, z_lem1, z_beq, nI_0_1, nI_m1lt0, nI_0lem1, not_false_eq_true, not_true_eq_false, forall_const, false_implies, true_implies, implies_true, false_and, and_false, mrg, renc, tra, trv, sg, List.map_cons, List.map_nil, Option.map_some, Option.map_none, Option.toList_some, Option.toList_none, List.cons_append, List.nil_append, List.length_cons, List.length_nil, gH, gO, t1, x1]
      exact hgo
    · rw [if_neg q] at hret
      have hf : RET G (some (.int (nI c))) (gH gal gps gst grf gmy gkd glf grt gpr gun gow gem ged gse gsz gtx (nI T.length) (nI i) gmd gop gom gwt gwm gtn gon gsh gtr gbl gbd gwh gfl gfd gfe) 0 0 := hret
      clear ih hret h g2 g1
      generalize T.length = len at *
      refine wq_aw (S := fun x => x == 0) (by decide) (f := 200) ?_
      simp (disch := first | exact rfl | decide | omega) only [v_109_0, u_109_0, u_109_1, u_109_4, u_109_5, u_109_8, u_109_11, u_109_12, u_109_15, u_109_16, u_109_19, u_109_20, u_109_22, u_109_25, u_109_26, u_109_27, u_109_30, u_109_31, u_109_32, u_109_35, u_109_38, u_109_39, u_109_42, u_109_43, u_109_46, u_109_49, u_109_50, u_109_53, u_109_54, u_109_57, u_109_58, u_109_61, u_109_62, wp_stop, lget, lput1, lput2, kil, hget, hset, vget, vset, fget, fgetC, fput, fputC, iget, igetC, jget, jgetC, qget, qgetC, alen, lenC, oI, oJ, oF, oA, oV, oH, oInc, oIld, oJld, oQld, oR, oLen, oIst, oBst, oJst, oQst, ciOf, rcv, oCp, cat1, cond_true, cond_false, Bool.and_self, Bool.and_true, Bool.true_and, Bool.or_true, Bool.true_or, Bool.or_false, Bool.false_or, Bool.not_false, Bool.not_true, ↓reduceIte, Nat.reduceBEq, Nat.reduceEqDiff, beq_self_eq_true, true_and, and_true, eq_self_iff_true, Nat.reduceAdd, Nat.blt, Nat.ble, z_le, z_lt, z_eq, z_cl, z_add, z_sub, z_mul, z_in, z_lt0, z_ofN, z_m1, z_ltm1, z_m1lt, z_eqm1, z_m1eq, z_m1le, z_lem1, z_beq, nI_0_1, nI_m1lt0, nI_0lem1, not_false_eq_true, not_true_eq_false, forall_const, false_implies, true_implies, implies_true, false_and, and_false, mrg, renc, tra, trv, sg, List.map_cons, List.map_nil, Option.map_some, Option.map_none, Option.toList_some, Option.toList_none, List.cons_append, List.nil_append, List.length_cons, List.length_nil, gH, gO, t1, x1, q]
      exact hf
set_option maxRecDepth 100000 in
theorem g_here (d i : Nat) (T cs : List Nat) (hT : txR gtx T) (hl : T.length ≤ 150) (h : T.drop i = cs) (hi : i ≤ T.length) : aSp d 109 [.ref 0] (gH gal gps gst grf gmy gkd glf grt gpr gun gow gem ged gse gsz gtx (nI T.length) (nI i) gmd gop gom gwt gwm gtn gon gsh gtr gbl gbd gwh gfl gfd gfe) nomv 0 0 (fun r h' => r = some (.int (hdV (skF cs i).1)) ∧ h' = (gH gal gps gst grf gmy gkd glf grt gpr gun gow gem ged gse gsz gtx (nI T.length) (nI (skF cs i).2) gmd gop gom gwt gwm gtn gon gsh gtr gbl gbd gwh gfl gfd gfe)) := by
  refine sp_of (by decide) (Nat.le_of_ble_eq_true rfl) ?_
  generalize hG : ((d, _, nomv, _, _, _) : aG) = G
  have ggd : gD G = d := by subst hG; rfl
  have ggn : gN G = 21 := by subst hG; rfl
  have ggm : gM G = nomv := by subst hG; rfl
  have ggc : gC G = 0 := by subst hG; rfl
  have ggs : gS G = 0 := by subst hG; rfl
  have hret : RET G (some (.int (hdV (skF cs i).1))) (gH gal gps gst grf gmy gkd glf grt gpr gun gow gem ged gse gsz gtx (nI T.length) (nI (skF cs i).2) gmd gop gom gwt gwm gtn gon gsh gtr gbl gbd gwh gfl gfd gfe) 0 0 := by
    subst hG
    exact RET.id ⟨rfl, rfl⟩ (Nat.le_refl _) (Nat.le_refl _)
  clear hG
  have hgo := l_here gal gps gst grf gmy gkd glf grt gpr gun gow gem ged gse gsz gtx gmd gop gom gwt gwm gtn gon gsh gtr gbl gbd gwh gfl gfd gfe T hT hl cs i h hi hret
  clear hret
  refine wp_aw (S := fun x => x == 0) (by decide) 200 _ _ _ _ _ _ ?_
  simp (disch := first | exact rfl | decide | omega) only [u_109_0, u_109_1, u_109_4, u_109_5, u_109_8, u_109_11, u_109_12, u_109_15, u_109_16, u_109_19, u_109_20, u_109_22, u_109_25, u_109_26, u_109_27, u_109_30, u_109_31, u_109_32, u_109_35, u_109_38, u_109_39, u_109_42, u_109_43, u_109_46, u_109_49, u_109_50, u_109_53, u_109_54, u_109_57, u_109_58, u_109_61, u_109_62, wp_stop, lget, lput1, lput2, kil, hget, hset, vget, vset, fget, fgetC, fput, fputC, iget, igetC, jget, jgetC, qget, qgetC, alen, lenC, oI, oJ, oF, oA, oV, oH, oInc, oIld, oJld, oQld, oR, oLen, oIst, oBst, oJst, oQst, ciOf, rcv, oCp, cat1, cond_true, cond_false, Bool.and_self, Bool.and_true, Bool.true_and, Bool.or_true, Bool.true_or, Bool.or_false, Bool.false_or, Bool.not_false, Bool.not_true, ↓reduceIte, Nat.reduceBEq, Nat.reduceEqDiff, beq_self_eq_true, true_and, and_true, eq_self_iff_true, Nat.reduceAdd, Nat.blt, Nat.ble, z_le, z_lt, z_eq, z_cl, z_add, z_sub, z_mul, z_in, z_lt0, z_ofN, z_m1, z_ltm1, z_m1lt, z_eqm1, z_m1eq, z_m1le, z_lem1, z_beq, nI_0_1, nI_m1lt0, nI_0lem1, not_false_eq_true, not_true_eq_false, forall_const, false_implies, true_implies, implies_true, false_and, and_false, mrg, renc, tra, trv, sg, List.map_cons, List.map_nil, Option.map_some, Option.map_none, Option.toList_some, Option.toList_none, List.cons_append, List.nil_append, List.length_cons, List.length_nil, eL, mL_109, gH, gO]
  exact hgo
end GM
/-! the pass of the class, seen from the model -/
theorem kbT_32 (κ : kB) (i : Nat) : kbT κ 32 i = some κ := by
  unfold kbT
  rw [if_neg (by decide)]
  cases κ.2.1 with
  | none =>
    show (if 32 = 41 ∧ 2 ≤ κ.1.length then some (kbC κ i) else if 32 = 32 then some κ else none) = some κ
    rw [if_neg (by intro h; omega), if_pos rfl]
  | some b =>
    show (if 32 = 40 ∧ κ.1.length ≤ 8 then some (kbO κ b) else if 32 = 41 ∧ 2 ≤ κ.1.length then some (kbC κ i) else if 32 = 32 then some κ else none) = some κ
    rw [if_neg (by intro h; omega), if_neg (by intro h; omega), if_pos rfl]
theorem kbF_c (κ : kB) (c : Nat) (cs : List Nat) (i : Nat) : kbF κ (c :: cs) i = match kbT κ c i with | none => (some i, κ) | some κ' => kbF κ' cs (i + 1) := rfl
theorem kbF_sk (κ : kB) : ∀ (cs : List Nat) (i : Nat), kbF κ cs i = kbF κ (skF cs i).1 (skF cs i).2
  | [], _ => rfl
  | c :: cs, i => by
    unfold skF
    by_cases q : c = 32
    · rw [if_pos q, kbF_c, q, kbT_32]
      exact kbF_sk κ cs (i + 1)
    · rw [if_neg q]
theorem kbL_at (κ : kB) (so pl : Nat) (h : 1 ≤ κ.1.length) : (kbL κ so pl).2.2.2.1 = κ.2.2.2.1 + 1 ∧ (kbL κ so pl).2.2.2.2.1 = max κ.2.2.2.2.1 κ.1.length ∧ (kbL κ so pl).1.length = κ.1.length ∧ (kbL κ so pl).2.1 = some so ∧ ∀ y, ((kbL κ so pl).2.2.2.2.2 y).1 = (κ.2.2.2.2.2 y).1 := by
  refine ⟨?_, ?_, kbL_len so pl, kbL_br κ so pl h, fun y => ?_⟩
  all_goals
    obtain ⟨st, br, q, le, de, ν⟩ := κ
    dsimp only at h
    unfold kbL
    dsimp only
    cases ebA ν br q pl le with
    | some t => rfl
    | none =>
      cases st with
      | nil => simp at h
      | cons a R =>
        obtain ⟨x, m⟩ := a
        dsimp only
        split
        all_goals first | rfl | (dsimp only [upN]; split <;> simp_all [sY]) | rfl
/-- where a byte can't stand in a book -/
theorem kbT_w (κ : kB) (c i : Nat) : (97 ≤ c ∧ c ≤ 104 → kbT κ c i = some (kbL κ (c - 97) i)) ∧ (¬ (97 ≤ c ∧ c ≤ 104) → ¬ c = 32 → (c = 40 → (∀ b, κ.2.1 = some b → κ.1.length ≤ 8 → kbT κ c i = some (kbO κ b)) ∧ ((κ.2.1 = none ∨ ¬ κ.1.length ≤ 8) → kbT κ c i = none)) ∧ (c = 41 → (2 ≤ κ.1.length → kbT κ c i = some (kbC κ i)) ∧ (¬ 2 ≤ κ.1.length → kbT κ c i = none)) ∧ (¬ c = 40 → ¬ c = 41 → kbT κ c i = none)) := by
  unfold kbT
  refine ⟨fun h => if_pos h, fun h h32 => ?_⟩
  rw [if_neg h]
  cases κ.2.1 with
  | none =>
    refine ⟨fun e => ⟨fun b hb => by simp at hb, fun _ => ?_⟩, fun e => ⟨fun h2 => ?_, fun h2 => ?_⟩, fun h1 h2 => ?_⟩
    · dsimp only
      rw [if_neg (by omega), if_neg h32]
    · dsimp only
      rw [if_pos ⟨e, h2⟩]
    · dsimp only
      rw [if_neg (by intro w; exact h2 w.2), if_neg h32]
    · dsimp only
      rw [if_neg (by omega), if_neg h32]
  | some b =>
    refine ⟨fun e => ⟨fun b' hb h8 => ?_, fun hn => ?_⟩, fun e => ⟨fun h2 => ?_, fun h2 => ?_⟩, fun h1 h2 => ?_⟩
    · dsimp only
      have := Option.some.inj hb
      subst this
      rw [if_pos ⟨e, h8⟩]
    · dsimp only
      have h8 : ¬ κ.1.length ≤ 8 := hn.resolve_left (by simp)
      rw [if_neg (by intro w; exact h8 w.2), if_neg (by omega), if_neg h32]
    · dsimp only
      rw [if_neg (by omega), if_pos ⟨e, h2⟩]
    · dsimp only
      rw [if_neg (by omega), if_neg (by intro w; exact h2 w.2), if_neg h32]
    · dsimp only
      rw [if_neg (by omega), if_neg (by omega), if_neg h32]
/-- the fault as it is told -/
def faV : Option Nat → Int32
  | none => -1
  | some i => nI i
noncomputable def kbX (κ : kB) (cs : List Nat) (i len : Nat) : Option Nat := match (kbF κ cs i).1 with
  | some i => some i
  | none => if 2 ≤ (kbF κ cs i).2.1.length then some len else none
theorem kbX_W (κ : kB) (T : List Nat) : kbX κ T 0 T.length = kbW κ T := rfl
theorem kbX_none {κ : kB} {c : Nat} {cs : List Nat} {i len : Nat} (h : kbT κ c i = none) : kbX κ (c :: cs) i len = some i := by
  unfold kbX
  rw [kbF_c, h]
theorem kbX_some {κ κ' : kB} {c : Nat} {cs : List Nat} {i len : Nat} (h : kbT κ c i = some κ') : kbX κ (c :: cs) i len = kbX κ' cs (i + 1) len ∧ kbF κ (c :: cs) i = kbF κ' cs (i + 1) := by
  unfold kbX
  rw [kbF_c, h]
  exact ⟨rfl, rfl⟩
