/-! ResidualJudgeModel: sets of places at a depth; goes, due, mayEnd -/
/-- a set of places lies at a depth -/
def rpM (K lf : Nat → Nat) (n : Nat) (gse gsz : Nat → Int32) (d m : Nat) : Prop := m < 2 ^ psp K lf (n - 1) ∧ ∃ L, rpS gse gsz d L ∧ ∀ X, X ∈ L ↔ ∃ p, p < psp K lf (n - 1) ∧ m.testBit p = true ∧ X = phi K lf (n - 1) p
section RM
variable {K lf : Nat → Nat} {n : Nat}
theorem rpM_fr {a b a' b' : Nat → Int32} {d f m : Nat} (h : rpM K lf n a b f m) (hf : frE a b a' b' d) (hne : f ≠ d) : rpM K lf n a' b' f m := by
  obtain ⟨h1, L, h2, h3⟩ := h
  exact ⟨h1, L, rpS_fr h2 hf hne, h3⟩
theorem rpM_1 (h : wfP K lf n) {gse gsz : Nat → Int32} {d : Nat} (h1 : gsz d = nI 1) (h2 : gse (256 * d) = nI 0) : rpM K lf n gse gsz d 1 := by
  have hn := h.1
  have hp := psp_pos K lf (n - 1)
  refine ⟨?_, [0], ⟨h1, by simp, fun x hx => ?_, fun k x hx => ?_⟩, fun X => ?_⟩
  · calc 1 < 2 ^ 1 := by decide
      _ ≤ 2 ^ psp K lf (n - 1) := Nat.pow_le_pow_right (by decide) hp
  · rw [List.mem_singleton] at hx
    rw [hx]; decide
  · have hk := gget_lt hx
    have : k = 0 := by
      have : k < 1 := hk
      omega
    subst this
    rw [show x = 0 from (Option.some.inj hx).symm]
    exact h2
  · rw [List.mem_singleton]
    constructor
    · rintro rfl
      exact ⟨0, by omega, by decide, (phi_0 h (n - 1) (by omega)).symm⟩
    · rintro ⟨p, p1, p2, rfl⟩
      have : p = 0 := by
        rw [show (1 : Nat) = 2 ^ 0 by decide, Nat.testBit_two_pow] at p2
        simp only [decide_eq_true_eq] at p2
        omega
      rw [this]
      exact phi_0 h (n - 1) (by omega)
theorem gm_mem (n p : Nat) (m : Nat × Nat) : m ∈ gmP K lf n p ↔ m ∈ pmv K lf (n - 1) p := (gtP_s K lf (n - 1) p).2.1 m
theorem go_phi (h : wfP K lf n) {x p X : Nat} (hx : x < 8) (hp : p < psp K lf (n - 1)) : goX K lf n x (phi K lf (n - 1) p) n X ↔ ∃ q, q < psp K lf (n - 1) ∧ (x, q) ∈ pmv K lf (n - 1) p ∧ X = phi K lf (n - 1) q := by
  have hn := h.1
  constructor
  · rintro ⟨j, -, j2, j3, j4⟩
    obtain ⟨q, q1, q2, q3⟩ := (tg_iff h hp j2 (by omega) X).mp j4
    refine ⟨q, q1, ?_, q3⟩
    rw [pml_pmv h (n - 1) (by omega) p]
    exact List.mem_map.mpr ⟨(j, q), q2, by show (K j - 1, q) = (x, q); rw [j3, Nat.add_sub_cancel]⟩
  · rintro ⟨q, q1, q2, q3⟩
    rw [pml_pmv h (n - 1) (by omega) p] at q2
    obtain ⟨⟨j, q'⟩, m1, m2⟩ := List.mem_map.mp q2
    obtain ⟨e1, e2⟩ := Prod.mk.inj m2
    dsimp only at e1 e2
    subst e2
    obtain ⟨i1, i2, i3⟩ := pml_in h (n - 1) (by omega) p _ m1
    dsimp only at i1 i2 i3
    have hk1 := (h.2.2.1 j (by omega)).1
    exact ⟨j, by omega, by omega, by omega, (tg_iff h hp (by omega) i3 X).mpr ⟨q', q1, m1, q3⟩⟩
theorem rpM_go (h : wfP K lf n) {gse gsz gse' gsz' : Nat → Int32} {a e x m : Nat} {La L' : List Nat} (hx : x < 8) (hm : m < 2 ^ psp K lf (n - 1)) (hA : ∀ X, X ∈ La ↔ ∃ p, p < psp K lf (n - 1) ∧ m.testBit p = true ∧ X = phi K lf (n - 1) p) (hL : rpS gse' gsz' e L') (hX : ∀ X, X ∈ L' ↔ ∃ S ∈ La, goX K lf n x S n X) : rpM K lf n gse' gsz' e (dltM (gmP K lf n) x m) ∧ (!L'.isEmpty) = !(dltM (gmP K lf n) x m == 0) := by
  have hn := h.1
  have hgm : ∀ p, p < psp K lf (n - 1) → ∀ m ∈ gmP K lf n p, m.2 < psp K lf (n - 1) := fun p hp m hm => (pmv_ok h (n - 1) (by omega) p hp m ((gm_mem n p m).mp hm)).2.2
  have hlt := dltM_lt (x := x) hm hgm
  have hw : ∀ X, X ∈ L' ↔ ∃ q, q < psp K lf (n - 1) ∧ (dltM (gmP K lf n) x m).testBit q = true ∧ X = phi K lf (n - 1) q := by
    intro X
    rw [hX X]
    constructor
    · rintro ⟨S, s1, s2⟩
      obtain ⟨p, p1, p2, rfl⟩ := (hA S).mp s1
      obtain ⟨q, q1, q2, q3⟩ := (go_phi h hx p1).mp s2
      have := wf_sp h (show n - 1 < n by omega)
      exact ⟨q, q1, dltM_bit.mpr ⟨p, by omega, p2, (gm_mem n p _).mpr q2⟩, q3⟩
    · rintro ⟨q, q1, q2, q3⟩
      obtain ⟨p, p1, p2, p3⟩ := dltM_bit.mp q2
      have hp := tb_lt hm p2
      exact ⟨_, (hA _).mpr ⟨p, hp, p2, rfl⟩, (go_phi h hx hp).mpr ⟨q, q1, (gm_mem n p _).mp p3, q3⟩⟩
  refine ⟨⟨hlt, L', hL, hw⟩, ?_⟩
  congr 1
  rw [Bool.eq_iff_iff, List.isEmpty_iff, beq_iff_eq]
  constructor
  · intro e0
    apply Nat.eq_of_testBit_eq
    intro b
    rw [Nat.zero_testBit, ← Bool.not_eq_true]
    intro q
    have := (hw (phi K lf (n - 1) b)).mpr ⟨b, tb_lt hlt q, q, rfl⟩
    rw [e0] at this
    exact absurd this List.not_mem_nil
  · intro e0
    rw [List.eq_nil_iff_forall_not_mem]
    intro X hX2
    obtain ⟨q, -, q2, -⟩ := (hw X).mp hX2
    rw [e0, Nat.zero_testBit] at q2
    exact absurd q2 (by decide)
theorem rpM_u (h : wfP K lf n) {m : Nat} {La : List Nat} (hA : ∀ X, X ∈ La ↔ ∃ p, p < psp K lf (n - 1) ∧ m.testBit p = true ∧ X = phi K lf (n - 1) p) : ∀ S ∈ La, S &&& unM K lf (n - 1) = S := by
  intro S hS
  obtain ⟨p, -, -, rfl⟩ := (hA S).mp hS
  have hn := h.1
  exact phi_sub h (n - 1) (by omega) p
/-- bits of the traits -/
theorem tr_due (h : wfP K lf n) {m x : Nat} (hm : m < 2 ^ psp K lf (n - 1)) (hx : x < 8) : (trM (tP K lf n) m).testBit x = !(dltM (gmP K lf n) x m == 0) := by
  have hn := h.1
  have hgm : ∀ p, p < psp K lf (n - 1) → ∀ m ∈ gmP K lf n p, m.2 < psp K lf (n - 1) := fun p hp m hm => (pmv_ok h (n - 1) (by omega) p hp m ((gm_mem n p m).mp hm)).2.2
  rw [Bool.eq_iff_iff, trM_bit]
  simp only [Bool.not_eq_true', beq_eq_false_iff_ne, ne_eq]
  constructor
  · rintro ⟨p, p1, p2, p3⟩ e0
    obtain ⟨t, ht⟩ := (gt_due hx).mp p3
    have := (dltM_bit (gm := gmP K lf n) (x := x) (m := m) (t := t)).mpr ⟨p, p1, p2, (gm_mem n p _).mpr ht⟩
    rw [e0, Nat.zero_testBit] at this
    exact absurd this (by decide)
  · intro e0
    have : ∃ t, (dltM (gmP K lf n) x m).testBit t = true := by
      refine Classical.byContradiction fun w => e0 ?_
      apply Nat.eq_of_testBit_eq
      intro b
      rw [Nat.zero_testBit, ← Bool.not_eq_true]
      exact fun q => w ⟨b, q⟩
    obtain ⟨t, ht⟩ := this
    obtain ⟨p, p1, p2, p3⟩ := dltM_bit.mp ht
    exact ⟨p, p1, p2, (gt_due hx).mpr ⟨t, (gm_mem n p _).mp p3⟩⟩
theorem tr_end (h : wfP K lf n) {m : Nat} {La : List Nat} (hm : m < 2 ^ psp K lf (n - 1)) (hA : ∀ X, X ∈ La ↔ ∃ p, p < psp K lf (n - 1) ∧ m.testBit p = true ∧ X = phi K lf (n - 1) p) : (trM (tP K lf n) m).testBit 8 = La.any (fun S => enM K lf S (n - 1)) := by
  have hn := h.1
  have hsp := wf_sp h (show n - 1 < n by omega)
  rw [Bool.eq_iff_iff, trM_bit, List.any_eq_true]
  constructor
  · rintro ⟨p, p1, p2, p3⟩
    have hp := tb_lt hm p2
    refine ⟨phi K lf (n - 1) p, (hA _).mpr ⟨p, hp, p2, rfl⟩, ?_⟩
    rw [en_pal h (n - 1) (by omega) p hp (phi_sub h (n - 1) (by omega) p)]
    have := gt_end (K := K) (lf := lf) (i := n - 1) (p := p) (fun m hm => (pmv_ok h (n - 1) (by omega) p hp m hm).1)
    rw [← this]
    exact p3
  · rintro ⟨S, s1, s2⟩
    obtain ⟨p, hp, p2, rfl⟩ := (hA S).mp s1
    rw [en_pal h (n - 1) (by omega) p hp (phi_sub h (n - 1) (by omega) p)] at s2
    refine ⟨p, by omega, p2, ?_⟩
    have := gt_end (K := K) (lf := lf) (i := n - 1) (p := p) (fun m hm => (pmv_ok h (n - 1) (by omega) p hp m hm).1)
    exact this.trans s2
end RM
section GM
variable (gal : Nat → Int32) (gps : Nat → Int32) (gst : Int32) (grf : Nat → Int32) (gmy : Int32) (gkd : Nat → Int32) (glf : Nat → Int32) (grt : Nat → Int32) (gpr : Nat → Int32) (gun : Nat → Int32) (gow : Nat → Int32) (gem : Nat → Int32) (ged : Nat → Int32) (gse : Nat → Int32) (gsz : Nat → Int32) (gtx : Nat → Int32) (gtl : Int32) (gsp : Int32) (gmd : Nat → Int32) (gop : Nat → Int32) (gom : Int32) (gwt : Nat → Int32) (gwm : Int32) (gtn : Int32) (gon : Int32) (gsh : Nat → Int32) (gtr : Nat → Int32) (gbl : Int32) (gbd : Int32) (gwh : Nat → Int32) (gfl : Int32) (gfd : Int32) (gfe : Int32)
theorem g_goM (d n a e x m : Nat) (K lf : Nat → Nat) (hw : wfP K lf n) (hL : pLd K lf n gmy gkd glf grt gpr gun gow gem) (ha : a < 21) (he : e < 21) (hae : a ≠ e) (hx : x < 8) (hM : rpM K lf n gse gsz a m) :
    aSp (d + 2) 128 [.ref 0, .int (nI a), .int (nI x), .int (nI e)] (gH gal gps gst grf gmy gkd glf grt gpr gun gow gem ged gse gsz gtx gtl gsp gmd gop gom gwt gwm gtn gon gsh gtr gbl gbd gwh gfl gfd gfe) nomv 0 0 (fun r h' => ∃ ged' gse' gsz', r = some (.int (bN (!(dltM (gmP K lf n) x m == 0)))) ∧ h' = (gH gal gps gst grf gmy gkd glf grt gpr gun gow gem ged' gse' gsz' gtx gtl gsp gmd gop gom gwt gwm gtn gon gsh gtr gbl gbd gwh gfl gfd gfe) ∧ rpM K lf n gse' gsz' e (dltM (gmP K lf n) x m) ∧ frE gse gsz gse' gsz' e) := by
  obtain ⟨hm, La, hA, hX⟩ := hM
  refine sp_weaken (g_goes gal gps gst grf gmy gkd glf grt gpr gun gow gem ged gse gsz gtx gtl gsp gmd gop gom gwt gwm gtn gon gsh gtr gbl gbd gwh gfl gfd gfe d n a e x K lf hw hL ha he hae hx La hA (rpM_u hw hX)) ?_
  rintro r h' ⟨ged', gse', gsz', L', rfl, rfl, q1, q2, q3⟩
  obtain ⟨r1, r2⟩ := rpM_go (gse := gse) (gsz := gsz) (a := a) hw hx hm hX q1 q2
  exact ⟨ged', gse', gsz', by rw [r2], rfl, r1, q3⟩
set_option maxRecDepth 100000 in
set_option maxHeartbeats 8000000 in
theorem l_mayEnd {G : aG} (n a : Nat) (K lf : Nat → Nat) (hw : wfP K lf n) (hL : pLd K lf n gmy gkd glf grt gpr gun gow gem) (ha : a < 21) (hd : 1 ≤ gD G) (ggn : gN G = 21) (La : List Nat) (hA : rpS gse gsz a La)
    (hret : ∀ ged, RET G (some (.int (bN (La.any (fun S => enM K lf S (n - 1)))))) (gH gal gps gst grf gmy gkd glf grt gpr gun gow gem ged gse gsz gtx gtl gsp gmd gop gom gwt gwm gtn gon gsh gtr gbl gbd gwh gfl gfd gfe) 0 0) :
    ∀ (m k : Nat) (ged : Nat → Int32), k + m = La.length →
    AW 135 G 4 [some (.ref 0), some (.int (nI a)), some (.int (bN ((La.take k).any (fun S => enM K lf S (n - 1))))), some (.int (nI k))] [] (gH gal gps gst grf gmy gkd glf grt gpr gun gow gem ged gse gsz gtx gtl gsp gmd gop gom gwt gwm gtn gon gsh gtr gbl gbd gwh gfl gfd gfe) 0 0 := by
  have hlA := rpS_len hA
  have r1 := hA.1
  intro m
  induction m with
  | zero =>
    intro k ged hm
    have hk : k = La.length := by omega
    have hf := hret ged
    clear hret
    rw [hk, List.take_length]
    have t1 : La.length ≤ La.length := Nat.le_refl _
    generalize La.any (fun S => enM K lf S (n - 1)) = z at *
    generalize La.length = len at *
    refine wq_aw (S := fun x => x == 4) (by decide) (f := 200) ?_
    simp (disch := first | exact rfl | decide | omega) only [v_135_4, u_135_0, u_135_1, u_135_2, u_135_3, u_135_4, u_135_5, u_135_6, u_135_9, u_135_10, u_135_11, u_135_14, u_135_15, u_135_16, u_135_19, u_135_22, u_135_23, u_135_24, u_135_25, u_135_26, u_135_27, u_135_30, u_135_33, u_135_34, u_135_37, u_135_38, u_135_41, u_135_42, u_135_43, u_135_46, u_135_49, u_135_50, wp_stop, lget, lput1, lput2, kil, hget, hset, vget, vset, fget, fgetC, fput, fputC, iget, igetC, jget, jgetC, qget, qgetC, alen, lenC, oI, oJ, oF, oA, oV, oH, oInc, oIld, oJld, oQld, oR, oLen, oIst, oBst, oJst, oQst, ciOf, rcv, oCp, cat1, cond_true, cond_false, Bool.and_self, Bool.and_true, Bool.true_and, Bool.or_true, Bool.true_or, Bool.or_false, Bool.false_or, Bool.not_false, Bool.not_true, ↓reduceIte, Nat.reduceBEq, Nat.reduceEqDiff, beq_self_eq_true, true_and, and_true, eq_self_iff_true, Nat.reduceAdd, Nat.blt, Nat.ble, z_le, z_lt, z_eq, z_cl, z_add, z_sub, z_mul, z_in, z_lt0, z_ofN, z_m1, z_ltm1, z_m1lt, z_eqm1, z_m1eq, z_m1le, z_lem1, z_beq, nI_0_1, nI_m1lt0, nI_0lem1, not_false_eq_true, not_true_eq_false, forall_const, false_implies, true_implies, implies_true, false_and, and_false, mrg, renc, tra, trv, sg, List.map_cons, List.map_nil, Option.map_some, Option.map_none, Option.toList_some, Option.toList_none, List.cons_append, List.nil_append, List.length_cons, List.length_nil, gH, gO, r1, t1, bNb]
    exact hf
  | succ m ih =>
    intro k ged hm
    have hk : k < La.length := by omega
    have hg := hA.2.2.2 k _ (List.getElem?_eq_getElem hk)
    have hgo := fun ged => ih (k + 1) ged (by omega)
    clear ih hret
    have htk : La.take (k + 1) = La.take k ++ [La[k]] := by rw [List.take_succ_eq_append_getElem hk]
    rw [htk, List.any_append] at hgo
    have hk256 : k < 256 := by omega
    have t1 : ¬ La.length ≤ k := by omega
    clear htk
    generalize La[k] = S at *
    have hgo2 : ∀ ged, AW 135 G 4 [some (.ref 0), some (.int (nI a)), some (.int (bN ((La.take k).any (fun S => enM K lf S (n - 1)) || enM K lf S (n - 1)))), some (.int (nI (k + 1)))] [] (gH gal gps gst grf gmy gkd glf grt gpr gun gow gem ged gse gsz gtx gtl gsp gmd gop gom gwt gwm gtn gon gsh gtr gbl gbd gwh gfl gfd gfe) 0 0 := fun ged => by
      have := hgo ged
      rw [List.any_cons, List.any_nil, Bool.or_false] at this
      exact this
    clear hgo
    have hen := g_ends gal gps gst grf gmy gkd glf grt gpr gun gow gem ged gse gsz gtx gtl gsp gmd gop gom gwt gwm gtn gon gsh gtr gbl gbd gwh gfl gfd gfe 0 n S K lf hw hL
    generalize (La.take k).any (fun S => enM K lf S (n - 1)) = z at *
    generalize enM K lf S (n - 1) = y at *
    generalize La.length = len at *
    cases z
    · refine wq_aw (S := fun x => x == 4) (by decide) (f := 200) ?_
      simp (disch := first | exact rfl | decide | omega) only [v_135_4, u_135_0, u_135_1, u_135_2, u_135_3, u_135_4, u_135_5, u_135_6, u_135_9, u_135_10, u_135_11, u_135_14, u_135_15, u_135_16, u_135_19, u_135_22, u_135_23, u_135_24, u_135_25, u_135_26, u_135_27, u_135_30, u_135_33, u_135_34, u_135_37, u_135_38, u_135_41, u_135_42, u_135_43, u_135_46, u_135_49, u_135_50, wp_stop, lget, lput1, lput2, kil, hget, hset, vget, vset, fget, fgetC, fput, fputC, iget, igetC, jget, jgetC, qget, qgetC, alen, lenC, oI, oJ, oF, oA, oV, oH, oInc, oIld, oJld, oQld, oR, oLen, oIst, oBst, oJst, oQst, ciOf, rcv, oCp, cat1, cond_true, cond_false, Bool.and_self, Bool.and_true, Bool.true_and, Bool.or_true, Bool.true_or, Bool.or_false, Bool.false_or, Bool.not_false, Bool.not_true, ↓reduceIte, Nat.reduceBEq, Nat.reduceEqDiff, beq_self_eq_true, true_and, and_true, eq_self_iff_true, Nat.reduceAdd, Nat.blt, Nat.ble, z_le, z_lt, z_eq, z_cl, z_add, z_sub, z_mul, z_in, z_lt0, z_ofN, z_m1, z_ltm1, z_m1lt, z_eqm1, z_m1eq, z_m1le, z_lem1, z_beq, nI_0_1, nI_m1lt0, nI_0lem1, not_false_eq_true, not_true_eq_false, forall_const, false_implies, true_implies, implies_true, false_and, and_false, mrg, renc, tra, trv, sg, List.map_cons, List.map_nil, Option.map_some, Option.map_none, Option.toList_some, Option.toList_none, List.cons_append, List.nil_append, List.length_cons, List.length_nil, gH, gO, r1, t1, hg, bNf]
      refine CAL.dir hen (by omega) (Nat.zero_le _) (Nat.zero_le _) (Nat.le_of_ble_eq_true rfl) (by rw [ggn]; exact Nat.le_of_ble_eq_true rfl) rfl rfl ?_
      rintro _ _ ⟨rfl, ged', rfl, -⟩
      have hgo := hgo2 ged'
      clear hgo2
      cases y
      · simp (disch := first | exact rfl | decide | omega) only [u_135_0, u_135_1, u_135_2, u_135_3, u_135_4, u_135_5, u_135_6, u_135_9, u_135_10, u_135_11, u_135_14, u_135_15, u_135_16, u_135_19, u_135_22, u_135_23, u_135_24, u_135_25, u_135_26, u_135_27, u_135_30, u_135_33, u_135_34, u_135_37, u_135_38, u_135_41, u_135_42, u_135_43, u_135_46, u_135_49, u_135_50, wp_stop, lget, lput1, lput2, kil, hget, hset, vget, vset, fget, fgetC, fput, fputC, iget, igetC, jget, jgetC, qget, qgetC, alen, lenC, oI, oJ, oF, oA, oV, oH, oInc, oIld, oJld, oQld, oR, oLen, oIst, oBst, oJst, oQst, ciOf, rcv, oCp, cat1, cond_true, cond_false, Bool.and_self, Bool.and_true, Bool.true_and, Bool.or_true, Bool.true_or, Bool.or_false, Bool.false_or, Bool.not_false, Bool.not_true, ↓reduceIte, Nat.reduceBEq, Nat.reduceEqDiff, beq_self_eq_true, true_and, and_true, eq_self_iff_true, Nat.reduceAdd, Nat.blt, Nat.ble, z_le, z_lt, z_eq, z_cl, z_add, z_sub, z_mul, z_in, z_lt0, z_ofN, z_m1, z_ltm1, z_m1lt, z_eqm1, z_m1eq, z_m1le, z_lem1, z_beq, nI_0_1, nI_m1lt0, nI_0lem1, not_false_eq_true, not_true_eq_false, forall_const, false_implies, true_implies, implies_true, false_and, and_false, mrg, renc, tra, trv, sg, List.map_cons, List.map_nil, Option.map_some, Option.map_none, Option.toList_some, Option.toList_none, List.cons_append, List.nil_append, List.length_cons, List.length_nil, gH, gO, bNf]
        exact hgo
      · simp (disch := first | exact rfl | decide | omega) only [u_135_0, u_135_1, u_135_2, u_135_3, u_135_4, u_135_5, u_135_6, u_135_9, u_135_10, u_135_11, u_135_14, u_135_15, u_135_16, u_135_19, u_135_22, u_135_23, u_135_24, u_135_25, u_135_26, u_135_27, u_135_30, u_135_33, u_135_34, u_135_37, u_135_38, u_135_41, u_135_42, u_135_43, u_135_46, u_135_49, u_135_50, wp_stop, lget, lput1, lput2, kil, hget, hset, vget, vset, fget, fgetC, fput, fputC, iget, igetC, jget, jgetC, qget, qgetC, alen, lenC, oI, oJ, oF, oA, oV, oH, oInc, oIld, oJld, oQld, oR, oLen, oIst, oBst, oJst, oQst, ciOf, rcv, oCp, cat1, cond_true, cond_false, Bool.and_self, Bool.and_true, Bool.true_and, Bool.or_true, Bool.true_or, Bool.or_false, Bool.false_or, Bool.not_false, Bool.not_true, ↓reduceIte, Nat.reduceBEq, Nat.reduceEqDiff, beq_self_eq_true, true_and, and_true, eq_self_iff_true, Nat.reduceAdd, Nat.blt, Nat.ble, z_le, z_lt, z_eq, z_cl, z_add, z_sub, z_mul, z_in, z_lt0, z_ofN, z_m1, z_ltm1, z_m1lt, z_eqm1, z_m1eq, z_m1le, z_lem1, z_beq, nI_0_1, nI_m1lt0, nI_0lem1, not_false_eq_true, not_true_eq_false, forall_const, false_implies, true_implies, implies_true, false_and, and_false, mrg, renc, tra, trv, sg, List.map_cons, List.map_nil, Option.map_some, Option.map_none, Option.toList_some, Option.toList_none, List.cons_append, List.nil_append, List.length_cons, List.length_nil, gH, gO, bNt, n10]
        exact hgo
    · refine wq_aw (S := fun x => x == 4) (by decide) (f := 200) ?_
      simp (disch := first | exact rfl | decide | omega) only [v_135_4, u_135_0, u_135_1, u_135_2, u_135_3, u_135_4, u_135_5, u_135_6, u_135_9, u_135_10, u_135_11, u_135_14, u_135_15, u_135_16, u_135_19, u_135_22, u_135_23, u_135_24, u_135_25, u_135_26, u_135_27, u_135_30, u_135_33, u_135_34, u_135_37, u_135_38, u_135_41, u_135_42, u_135_43, u_135_46, u_135_49, u_135_50, wp_stop, lget, lput1, lput2, kil, hget, hset, vget, vset, fget, fgetC, fput, fputC, iget, igetC, jget, jgetC, qget, qgetC, alen, lenC, oI, oJ, oF, oA, oV, oH, oInc, oIld, oJld, oQld, oR, oLen, oIst, oBst, oJst, oQst, ciOf, rcv, oCp, cat1, cond_true, cond_false, Bool.and_self, Bool.and_true, Bool.true_and, Bool.or_true, Bool.true_or, Bool.or_false, Bool.false_or, Bool.not_false, Bool.not_true, ↓reduceIte, Nat.reduceBEq, Nat.reduceEqDiff, beq_self_eq_true, true_and, and_true, eq_self_iff_true, Nat.reduceAdd, Nat.blt, Nat.ble, z_le, z_lt, z_eq, z_cl, z_add, z_sub, z_mul, z_in, z_lt0, z_ofN, z_m1, z_ltm1, z_m1lt, z_eqm1, z_m1eq, z_m1le, z_lem1, z_beq, nI_0_1, nI_m1lt0, nI_0lem1, not_false_eq_true, not_true_eq_false, forall_const, false_implies, true_implies, implies_true, false_and, and_false, mrg, renc, tra, trv, sg, List.map_cons, List.map_nil, Option.map_some, Option.map_none, Option.toList_some, Option.toList_none, List.cons_append, List.nil_append, List.length_cons, List.length_nil, gH, gO, r1, t1, hg, bNt]
      refine CAL.dir hen (by omega) (Nat.zero_le _) (Nat.zero_le _) (Nat.le_of_ble_eq_true rfl) (by rw [ggn]; exact Nat.le_of_ble_eq_true rfl) rfl rfl ?_
      rintro _ _ ⟨rfl, ged', rfl, -⟩
      have hgo := hgo2 ged'
      clear hgo2
      cases y
      · simp (disch := first | exact rfl | decide | omega) only [u_135_0, u_135_1, u_135_2, u_135_3, u_135_4, u_135_5, u_135_6, u_135_9, u_135_10, u_135_11, u_135_14, u_135_15, u_135_16, u_135_19, u_135_22, u_135_23, u_135_24, u_135_25, u_135_26, u_135_27, u_135_30, u_135_33, u_135_34, u_135_37, u_135_38, u_135_41, u_135_42, u_135_43, u_135_46, u_135_49, u_135_50, wp_stop, lget, lput1, lput2, kil, hget, hset, vget, vset, fget, fgetC, fput, fputC, iget, igetC, jget, jgetC, qget, qgetC, alen, lenC, oI, oJ, oF, oA, oV, oH, oInc, oIld, oJld, oQld, oR, oLen, oIst, oBst, oJst, oQst, ciOf, rcv, oCp, cat1, cond_true, cond_false, Bool.and_self, Bool.and_true, Bool.true_and, Bool.or_true, Bool.true_or, Bool.or_false, Bool.false_or, Bool.not_false, Bool.not_true, ↓reduceIte, Nat.reduceBEq, Nat.reduceEqDiff, beq_self_eq_true, true_and, and_true, eq_self_iff_true, Nat.reduceAdd, Nat.blt, Nat.ble, z_le, z_lt, z_eq, z_cl, z_add, z_sub, z_mul, z_in, z_lt0, z_ofN, z_m1, z_ltm1, z_m1lt, z_eqm1, z_m1eq, z_m1le, z_lem1, z_beq, nI_0_1, nI_m1lt0, nI_0lem1, not_false_eq_true, not_true_eq_false, forall_const, false_implies, true_implies, implies_true, false_and, and_false, mrg, renc, tra, trv, sg, List.map_cons, List.map_nil, Option.map_some, Option.map_none, Option.toList_some, Option.toList_none, List.cons_append, List.nil_append, List.length_cons, List.length_nil, gH, gO, bNf, n10]
        exact hgo
      · simp (disch := first | exact rfl | decide | omega) only [u_135_0, u_135_1, u_135_2, u_135_3, u_135_4, u_135_5, u_135_6, u_135_9, u_135_10, u_135_11, u_135_14, u_135_15, u_135_16, u_135_19, u_135_22, u_135_23, u_135_24, u_135_25, u_135_26, u_135_27, u_135_30, u_135_33, u_135_34, u_135_37, u_135_38, u_135_41, u_135_42, u_135_43, u_135_46, u_135_49, u_135_50, wp_stop, lget, lput1, lput2, kil, hget, hset, vget, vset, fget, fgetC, fput, fputC, iget, igetC, jget, jgetC, qget, qgetC, alen, lenC, oI, oJ, oF, oA, oV, oH, oInc, oIld, oJld, oQld, oR, oLen, oIst, oBst, oJst, oQst, ciOf, rcv, oCp, cat1, cond_true, cond_false, Bool.and_self, Bool.and_true, Bool.true_and, Bool.or_true, Bool.true_or, Bool.or_false, Bool.false_or, Bool.not_false, Bool.not_true, ↓reduceIte, Nat.reduceBEq, Nat.reduceEqDiff, beq_self_eq_true, true_and, and_true, eq_self_iff_true, Nat.reduceAdd, Nat.blt, Nat.ble, z_le, z_lt, z_eq, z_cl, z_add, z_sub, z_mul, z_in, z_lt0, z_ofN, z_m1, z_ltm1, z_m1lt, z_eqm1, z_m1eq, z_m1le, z_lem1, z_beq, nI_0_1, nI_m1lt0, nI_0lem1, not_false_eq_true, not_true_eq_false, forall_const, false_implies, true_implies, implies_true, false_and, and_false, mrg, renc, tra, trv, sg, List.map_cons, List.map_nil, Option.map_some, Option.map_none, Option.toList_some, Option.toList_none, List.cons_append, List.nil_append, List.length_cons, List.length_nil, gH, gO, bNt, n10]
        exact hgo
set_option maxRecDepth 100000 in
theorem g_mayEnd (d n a m : Nat) (K lf : Nat → Nat) (hw : wfP K lf n) (hL : pLd K lf n gmy gkd glf grt gpr gun gow gem) (ha : a < 21) (hM : rpM K lf n gse gsz a m) :
    aSp (d + 1) 135 [.ref 0, .int (nI a)] (gH gal gps gst grf gmy gkd glf grt gpr gun gow gem ged gse gsz gtx gtl gsp gmd gop gom gwt gwm gtn gon gsh gtr gbl gbd gwh gfl gfd gfe) nomv 0 0 (fun r h' => r = some (.int (bN ((trM (tP K lf n) m).testBit 8))) ∧ ∃ ged', h' = (gH gal gps gst grf gmy gkd glf grt gpr gun gow gem ged' gse gsz gtx gtl gsp gmd gop gom gwt gwm gtn gon gsh gtr gbl gbd gwh gfl gfd gfe)) := by
  obtain ⟨hm, La, hA, hX⟩ := hM
  rw [tr_end hw hm hX]
  refine sp_of (by decide) (Nat.le_of_ble_eq_true rfl) ?_
  generalize hG : ((d + 1, _, nomv, _, _, _) : aG) = G
  have ggd : gD G = d + 1 := by subst hG; rfl
  have ggn : gN G = 21 := by subst hG; rfl
  have ggm : gM G = nomv := by subst hG; rfl
  have ggc : gC G = 0 := by subst hG; rfl
  have ggs : gS G = 0 := by subst hG; rfl
  have hret : ∀ ged', RET G (some (.int (bN (La.any (fun S => enM K lf S (n - 1)))))) (gH gal gps gst grf gmy gkd glf grt gpr gun gow gem ged' gse gsz gtx gtl gsp gmd gop gom gwt gwm gtn gon gsh gtr gbl gbd gwh gfl gfd gfe) 0 0 := by
    subst hG
    intro ged'
    exact RET.id ⟨rfl, ged', rfl⟩ (Nat.le_refl _) (Nat.le_refl _)
  clear hG
  have hgo := l_mayEnd gal gps gst grf gmy gkd glf grt gpr gun gow gem gse gsz gtx gtl gsp gmd gop gom gwt gwm gtn gon gsh gtr gbl gbd gwh gfl gfd gfe n a K lf hw hL ha (by rw [ggd]; omega) ggn La hA hret La.length 0 ged (by omega)
  have e0 : bN ((La.take 0).any (fun S => enM K lf S (n - 1))) = nI 0 := by rw [List.take_zero]; rfl
  rw [e0] at hgo
  clear hret
  refine wp_aw (S := fun x => x == 4) (by decide) 200 _ _ _ _ _ _ ?_
  simp (disch := first | exact rfl | decide | omega) only [u_135_0, u_135_1, u_135_2, u_135_3, u_135_4, u_135_5, u_135_6, u_135_9, u_135_10, u_135_11, u_135_14, u_135_15, u_135_16, u_135_19, u_135_22, u_135_23, u_135_24, u_135_25, u_135_26, u_135_27, u_135_30, u_135_33, u_135_34, u_135_37, u_135_38, u_135_41, u_135_42, u_135_43, u_135_46, u_135_49, u_135_50, wp_stop, lget, lput1, lput2, kil, hget, hset, vget, vset, fget, fgetC, fput, fputC, iget, igetC, jget, jgetC, qget, qgetC, alen, lenC, oI, oJ, oF, oA, oV, oH, oInc, oIld, oJld, oQld, oR, oLen, oIst, oBst, oJst, oQst, ciOf, rcv, oCp, cat1, cond_true, cond_false, Bool.and_self, Bool.and_true, Bool.true_and, Bool.or_true, Bool.true_or, Bool.or_false, Bool.false_or, Bool.not_false, Bool.not_true, ↓reduceIte, Nat.reduceBEq, Nat.reduceEqDiff, beq_self_eq_true, true_and, and_true, eq_self_iff_true, Nat.reduceAdd, Nat.blt, Nat.ble, z_le, z_lt, z_eq, z_cl, z_add, z_sub, z_mul, z_in, z_lt0, z_ofN, z_m1, z_ltm1, z_m1lt, z_eqm1, z_m1eq, z_m1le, z_lem1, z_beq, nI_0_1, nI_m1lt0, nI_0lem1, not_false_eq_true, not_true_eq_false, forall_const, false_implies, true_implies, implies_true, false_and, and_false, mrg, renc, tra, trv, sg, List.map_cons, List.map_nil, Option.map_some, Option.map_none, Option.toList_some, Option.toList_none, List.cons_append, List.nil_append, List.length_cons, List.length_nil, eL, mL_135, gH, gO]
  exact hgo
/-- what is due, sort by sort -/
def duB (gm : Nat → List (Nat × Nat)) (m k v : Nat) : Prop := v < 2 ^ k ∧ ∀ b, b < k → v.testBit b = !(dltM gm b m == 0)
theorem duB_s {gm : Nat → List (Nat × Nat)} {m k v : Nat} (h : duB gm m k v) : duB gm m (k + 1) (v ||| (if dltM gm k m = 0 then 0 else 2 ^ k)) := by
  refine ⟨?_, fun b hb => ?_⟩
  · refine Nat.or_lt_two_pow (Nat.lt_of_lt_of_le h.1 (Nat.pow_le_pow_right (by decide) (by omega))) ?_
    split
    · exact Nat.two_pow_pos _
    · exact Nat.pow_lt_pow_right (by decide) (by omega)
  · rw [Nat.testBit_or]
    by_cases q : b = k
    · subst q
      rw [Nat.testBit_lt_two_pow h.1, Bool.false_or]
      by_cases z : dltM gm b m = 0
      · rw [if_pos z, z, Nat.zero_testBit]
        rfl
      · rw [if_neg z, Nat.testBit_two_pow_self, beq_eq_false_iff_ne.mpr z]
        rfl
    · rw [h.2 b (by omega)]
      split
      · rw [Nat.zero_testBit, Bool.or_false]
      · rw [Nat.testBit_two_pow_of_ne (fun w => q w.symm), Bool.or_false]
set_option maxRecDepth 100000 in
set_option maxHeartbeats 8000000 in
theorem l_due {G : aG} (n a m : Nat) (K lf : Nat → Nat) (hw : wfP K lf n) (hL : pLd K lf n gmy gkd glf grt gpr gun gow gem) (ha : a < 20) (hd : 3 ≤ gD G) (ggn : gN G = 21) (gse0 gsz0 : Nat → Int32) (hM : rpM K lf n gse0 gsz0 a m)
    (hret : ∀ ged gse gsz v, duB (gmP K lf n) m 8 v → frE gse0 gsz0 gse gsz 20 → RET G (some (.int (nI v))) (gH gal gps gst grf gmy gkd glf grt gpr gun gow gem ged gse gsz gtx gtl gsp gmd gop gom gwt gwm gtn gon gsh gtr gbl gbd gwh gfl gfd gfe) 0 0) :
    ∀ (j x v : Nat) (ged gse gsz : Nat → Int32), x + j = 8 → duB (gmP K lf n) m x v → frE gse0 gsz0 gse gsz 20 →
    AW 127 G 4 [some (.ref 0), some (.int (nI a)), some (.int (nI v)), some (.int (nI x))] [] (gH gal gps gst grf gmy gkd glf grt gpr gun gow gem ged gse gsz gtx gtl gsp gmd gop gom gwt gwm gtn gon gsh gtr gbl gbd gwh gfl gfd gfe) 0 0 := by
  intro j
  induction j with
  | zero =>
    intro x v ged gse gsz hj hv hF
    have hx : x = 8 := by omega
    subst hx
    have hf := hret ged gse gsz v hv hF
    clear hret
    refine wq_aw (S := fun x => x == 4) (by decide) (f := 200) ?_
    simp (disch := first | exact rfl | decide | omega) only [v_127_4, u_127_0, u_127_1, u_127_2, u_127_3, u_127_4, u_127_5, u_127_7, u_127_10, u_127_11, u_127_12, u_127_13, u_127_14, u_127_16, u_127_19, u_127_22, u_127_23, u_127_24, u_127_25, u_127_28, u_127_29, u_127_30, u_127_31, u_127_34, u_127_37, u_127_38, wp_stop, lget, lput1, lput2, kil, hget, hset, vget, vset, fget, fgetC, fput, fputC, iget, igetC, jget, jgetC, qget, qgetC, alen, lenC, oI, oJ, oF, oA, oV, oH, oInc, oIld, oJld, oQld, oR, oLen, oIst, oBst, oJst, oQst, ciOf, rcv, oCp, cat1, cond_true, cond_false, Bool.and_self, Bool.and_true, Bool.true_and, Bool.or_true, Bool.true_or, Bool.or_false, Bool.false_or, Bool.not_false, Bool.not_true, ↓reduceIte, Nat.reduceBEq, Nat.reduceEqDiff, beq_self_eq_true, true_and, and_true, eq_self_iff_true, Nat.reduceAdd, Nat.blt, Nat.ble, z_le, z_lt, z_eq, z_cl, z_add, z_sub, z_mul, z_in, z_lt0, z_ofN, z_m1, z_ltm1, z_m1lt, z_eqm1, z_m1eq, z_m1le, z_lem1, z_beq, nI_0_1, nI_m1lt0, nI_0lem1, not_false_eq_true, not_true_eq_false, forall_const, false_implies, true_implies, implies_true, false_and, and_false, mrg, renc, tra, trv, sg, List.map_cons, List.map_nil, Option.map_some, Option.map_none, Option.toList_some, Option.toList_none, List.cons_append, List.nil_append, List.length_cons, List.length_nil, gH, gO, show (8 : Nat) ≤ 8 by decide]
    exact hf
  | succ j ih =>
    intro x v ged gse gsz hj hv hF
    have hx : x < 8 := by omega
    have hgo := fun ged gse gsz q => ih (x + 1) _ ged gse gsz (by omega) (duB_s hv) q
    clear ih hret
    have t1 : ¬ 8 ≤ x := by omega
    have f1 := shl1b x (by omega)
    have hcall := g_goM gal gps gst grf gmy gkd glf grt gpr gun gow gem ged gse gsz gtx gtl gsp gmd gop gom gwt gwm gtn gon gsh gtr gbl gbd gwh gfl gfd gfe 0 n a 20 x m K lf hw hL (by omega) (by omega) (by omega) hx (rpM_fr hM hF (by omega))
    refine wq_aw (S := fun x => x == 4) (by decide) (f := 200) ?_
    simp (disch := first | exact rfl | decide | omega) only [v_127_4, u_127_0, u_127_1, u_127_2, u_127_3, u_127_4, u_127_5, u_127_7, u_127_10, u_127_11, u_127_12, u_127_13, u_127_14, u_127_16, u_127_19, u_127_22, u_127_23, u_127_24, u_127_25, u_127_28, u_127_29, u_127_30, u_127_31, u_127_34, u_127_37, u_127_38, wp_stop, lget, lput1, lput2, kil, hget, hset, vget, vset, fget, fgetC, fput, fputC, iget, igetC, jget, jgetC, qget, qgetC, alen, lenC, oI, oJ, oF, oA, oV, oH, oInc, oIld, oJld, oQld, oR, oLen, oIst, oBst, oJst, oQst, ciOf, rcv, oCp, cat1, cond_true, cond_false, Bool.and_self, Bool.and_true, Bool.true_and, Bool.or_true, Bool.true_or, Bool.or_false, Bool.false_or, Bool.not_false, Bool.not_true, ↓reduceIte, Nat.reduceBEq, Nat.reduceEqDiff, beq_self_eq_true, true_and, and_true, eq_self_iff_true, Nat.reduceAdd, Nat.blt, Nat.ble, z_le, z_lt, z_eq, z_cl, z_add, z_sub, z_mul, z_in, z_lt0, z_ofN, z_m1, z_ltm1, z_m1lt, z_eqm1, z_m1eq, z_m1le, z_lem1, z_beq, nI_0_1, nI_m1lt0, nI_0lem1, not_false_eq_true, not_true_eq_false, forall_const, false_implies, true_implies, implies_true, false_and, and_false, mrg, renc, tra, trv, sg, List.map_cons, List.map_nil, Option.map_some, Option.map_none, Option.toList_some, Option.toList_none, List.cons_append, List.nil_append, List.length_cons, List.length_nil, gH, gO, t1]
    refine CAL.dir hcall (by omega) (Nat.zero_le _) (Nat.zero_le _) (Nat.le_of_ble_eq_true rfl) (by rw [ggn]; exact Nat.le_of_ble_eq_true rfl) rfl rfl ?_
    rintro _ _ ⟨ged', gse', gsz', rfl, rfl, -, q3⟩
    have hgo2 := hgo ged' gse' gsz' (frE_tr hF q3)
    clear hgo
    by_cases z : dltM (gmP K lf n) x m = 0
    · rw [if_pos z] at hgo2
      rw [z]
      have ez : bN (!((0 : Nat) == 0)) = nI 0 := rfl
      simp (disch := first | exact rfl | decide | omega) only [u_127_0, u_127_1, u_127_2, u_127_3, u_127_4, u_127_5, u_127_7, u_127_10, u_127_11, u_127_12, u_127_13, u_127_14, u_127_16, u_127_19, u_127_22, u_127_23, u_127_24, u_127_25, u_127_28, u_127_29, u_127_30, u_127_31, u_127_34, u_127_37, u_127_38, wp_stop, lget, lput1, lput2, kil, hget, hset, vget, vset, fget, fgetC, fput, fputC, iget, igetC, jget, jgetC, qget, qgetC, alen, lenC, oI, oJ, oF, oA, oV, oH, oInc, oIld, oJld, oQld, oR, oLen, oIst, oBst, oJst, oQst, ciOf, rcv, oCp, cat1, cond_true, cond_false, Bool.and_self, Bool.and_true, Bool.true_and, Bool.or_true, Bool.true_or, Bool.or_false, Bool.false_or, Bool.not_false, Bool.not_true, ↓reduceIte, Nat.reduceBEq, Nat.reduceEqDiff, beq_self_eq_true, true_and, and_true, eq_self_iff_true, Nat.reduceAdd, Nat.blt, Nat.ble, z_le, z_lt, z_eq, z_cl, z_add, z_sub, z_mul, z_in, z_lt0, z_ofN, z_m1, z_ltm1, z_m1lt, z_eqm1, z_m1eq, z_m1le, z_lem1, z_beq, nI_0_1, nI_m1lt0, nI_0lem1, not_false_eq_true, not_true_eq_false, forall_const, false_implies, true_implies, implies_true, false_and, and_false, mrg, renc, tra, trv, sg, List.map_cons, List.map_nil, Option.map_some, Option.map_none, Option.toList_some, Option.toList_none, List.cons_append, List.nil_append, List.length_cons, List.length_nil, gH, gO, ez, fa_or]
      exact hgo2
    · rw [if_neg z] at hgo2
      have ez : bN (!(dltM (gmP K lf n) x m == 0)) = nI 1 := by rw [beq_eq_false_iff_ne.mpr z]; rfl
      simp (disch := first | exact rfl | decide | omega) only [u_127_0, u_127_1, u_127_2, u_127_3, u_127_4, u_127_5, u_127_7, u_127_10, u_127_11, u_127_12, u_127_13, u_127_14, u_127_16, u_127_19, u_127_22, u_127_23, u_127_24, u_127_25, u_127_28, u_127_29, u_127_30, u_127_31, u_127_34, u_127_37, u_127_38, wp_stop, lget, lput1, lput2, kil, hget, hset, vget, vset, fget, fgetC, fput, fputC, iget, igetC, jget, jgetC, qget, qgetC, alen, lenC, oI, oJ, oF, oA, oV, oH, oInc, oIld, oJld, oQld, oR, oLen, oIst, oBst, oJst, oQst, ciOf, rcv, oCp, cat1, cond_true, cond_false, Bool.and_self, Bool.and_true, Bool.true_and, Bool.or_true, Bool.true_or, Bool.or_false, Bool.false_or, Bool.not_false, Bool.not_true, ↓reduceIte, Nat.reduceBEq, Nat.reduceEqDiff, beq_self_eq_true, true_and, and_true, eq_self_iff_true, Nat.reduceAdd, Nat.blt, Nat.ble, z_le, z_lt, z_eq, z_cl, z_add, z_sub, z_mul, z_in, z_lt0, z_ofN, z_m1, z_ltm1, z_m1lt, z_eqm1, z_m1eq, z_m1le, z_lem1, z_beq, nI_0_1, nI_m1lt0, nI_0lem1, not_false_eq_true, not_true_eq_false, forall_const, false_implies, true_implies, implies_true, false_and, and_false, mrg, renc, tra, trv, sg, List.map_cons, List.map_nil, Option.map_some, Option.map_none, Option.toList_some, Option.toList_none, List.cons_append, List.nil_append, List.length_cons, List.length_nil, gH, gO, ez, n10, f1, fa_or]
      exact hgo2
theorem duB_8 {K lf : Nat → Nat} {n m v : Nat} (hw : wfP K lf n) (hm : m < 2 ^ psp K lf (n - 1)) (h : duB (gmP K lf n) m 8 v) : v = trM (tP K lf n) m &&& 255 := by
  apply Nat.eq_of_testBit_eq
  intro b
  rw [Nat.testBit_and, show (255 : Nat) = 2 ^ 8 - 1 by decide, Nat.testBit_two_pow_sub_one]
  by_cases q : b < 8
  · rw [h.2 b q, tr_due hw hm q]
    simp [q]
  · rw [Nat.testBit_lt_two_pow (Nat.lt_of_lt_of_le h.1 (Nat.pow_le_pow_right (by decide) (by omega)))]
    simp [q]
set_option maxRecDepth 100000 in
theorem g_due (d n a m : Nat) (K lf : Nat → Nat) (hw : wfP K lf n) (hL : pLd K lf n gmy gkd glf grt gpr gun gow gem) (ha : a < 20) (hM : rpM K lf n gse gsz a m) :
    aSp (d + 3) 127 [.ref 0, .int (nI a)] (gH gal gps gst grf gmy gkd glf grt gpr gun gow gem ged gse gsz gtx gtl gsp gmd gop gom gwt gwm gtn gon gsh gtr gbl gbd gwh gfl gfd gfe) nomv 0 0 (fun r h' => r = some (.int (nI (trM (tP K lf n) m &&& 255))) ∧ ∃ ged' gse' gsz', h' = (gH gal gps gst grf gmy gkd glf grt gpr gun gow gem ged' gse' gsz' gtx gtl gsp gmd gop gom gwt gwm gtn gon gsh gtr gbl gbd gwh gfl gfd gfe) ∧ frE gse gsz gse' gsz' 20) := by
  refine sp_of (by decide) (Nat.le_of_ble_eq_true rfl) ?_
  generalize hG : ((d + 3, _, nomv, _, _, _) : aG) = G
  have ggd : gD G = d + 3 := by subst hG; rfl
  have ggn : gN G = 21 := by subst hG; rfl
  have ggm : gM G = nomv := by subst hG; rfl
  have ggc : gC G = 0 := by subst hG; rfl
  have ggs : gS G = 0 := by subst hG; rfl
  have hret : ∀ ged' gse' gsz' v, duB (gmP K lf n) m 8 v → frE gse gsz gse' gsz' 20 → RET G (some (.int (nI v))) (gH gal gps gst grf gmy gkd glf grt gpr gun gow gem ged' gse' gsz' gtx gtl gsp gmd gop gom gwt gwm gtn gon gsh gtr gbl gbd gwh gfl gfd gfe) 0 0 := by
    subst hG
    intro ged' gse' gsz' v q1 q2
    rw [duB_8 hw hM.1 q1]
    exact RET.id ⟨rfl, ged', gse', gsz', rfl, q2⟩ (Nat.le_refl _) (Nat.le_refl _)
  clear hG
  have hgo := l_due gal gps gst grf gmy gkd glf grt gpr gun gow gem gtx gtl gsp gmd gop gom gwt gwm gtn gon gsh gtr gbl gbd gwh gfl gfd gfe n a m K lf hw hL ha (by rw [ggd]; omega) ggn gse gsz hM hret 8 0 0 ged gse gsz (by omega) ⟨by decide, fun b hb => absurd hb (Nat.not_lt_zero b)⟩ (frE_rf _ _ _)
  clear hret
  refine wp_aw (S := fun x => x == 4) (by decide) 200 _ _ _ _ _ _ ?_
  simp (disch := first | exact rfl | decide | omega) only [u_127_0, u_127_1, u_127_2, u_127_3, u_127_4, u_127_5, u_127_7, u_127_10, u_127_11, u_127_12, u_127_13, u_127_14, u_127_16, u_127_19, u_127_22, u_127_23, u_127_24, u_127_25, u_127_28, u_127_29, u_127_30, u_127_31, u_127_34, u_127_37, u_127_38, wp_stop, lget, lput1, lput2, kil, hget, hset, vget, vset, fget, fgetC, fput, fputC, iget, igetC, jget, jgetC, qget, qgetC, alen, lenC, oI, oJ, oF, oA, oV, oH, oInc, oIld, oJld, oQld, oR, oLen, oIst, oBst, oJst, oQst, ciOf, rcv, oCp, cat1, cond_true, cond_false, Bool.and_self, Bool.and_true, Bool.true_and, Bool.or_true, Bool.true_or, Bool.or_false, Bool.false_or, Bool.not_false, Bool.not_true, ↓reduceIte, Nat.reduceBEq, Nat.reduceEqDiff, beq_self_eq_true, true_and, and_true, eq_self_iff_true, Nat.reduceAdd, Nat.blt, Nat.ble, z_le, z_lt, z_eq, z_cl, z_add, z_sub, z_mul, z_in, z_lt0, z_ofN, z_m1, z_ltm1, z_m1lt, z_eqm1, z_m1eq, z_m1le, z_lem1, z_beq, nI_0_1, nI_m1lt0, nI_0lem1, not_false_eq_true, not_true_eq_false, forall_const, false_implies, true_implies, implies_true, false_and, and_false, mrg, renc, tra, trv, sg, List.map_cons, List.map_nil, Option.map_some, Option.map_none, Option.toList_some, Option.toList_none, List.cons_append, List.nil_append, List.length_cons, List.length_nil, eL, mL_127, gH, gO]
  exact hgo
end GM
