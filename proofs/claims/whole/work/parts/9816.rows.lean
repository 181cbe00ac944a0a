/-! ResidualJudgeModel.rowsOf -/
/-- how many rows of a length lead on from a set to an end -/
def cR (gm : Nat → List (Nat × Nat)) (T : Nat → Nat) : Nat → Nat → Nat
  | 0, m => if (trM T m).testBit 8 = true then 1 else 0
  | k + 1, m => ((List.range 8).map (fun x => if dltM gm x m = 0 then 0 else cR gm T k (dltM gm x m))).sum
def cRF (gm : Nat → List (Nat × Nat)) (T : Nat → Nat) (k m x : Nat) : Nat := if dltM gm x m = 0 then 0 else cR gm T k (dltM gm x m)
theorem sum_fl (f : Nat → Nat) (g : Nat → Nat) : ∀ L : List Nat, (((L.map g).filter (fun m => !(m == 0))).map f).sum = (L.map (fun x => if g x = 0 then 0 else f (g x))).sum
  | [] => rfl
  | x :: L => by
    have ih := sum_fl f g L
    rw [List.map_cons, List.map_cons, List.sum_cons, ← ih]
    by_cases q : g x = 0
    · rw [if_pos q, List.filter_cons_of_neg (by rw [q]; decide)]
      omega
    · rw [if_neg q, List.filter_cons_of_pos (by rw [beq_eq_false_iff_ne.mpr q]; rfl), List.map_cons, List.sum_cons]
theorem sum_fm (f : Nat → Nat) (g : Nat → List Nat) : ∀ L : List Nat, ((L.flatMap g).map f).sum = (L.map (fun m => ((g m).map f).sum)).sum
  | [] => rfl
  | x :: L => by
    rw [List.flatMap_cons, List.map_append, List.sum_append, sum_fm f g L, List.map_cons, List.sum_cons]
theorem len_fl (q : Nat → Bool) : ∀ L : List Nat, (L.filter q).length = (L.map (fun x => if q x = true then 1 else 0)).sum
  | [] => rfl
  | x :: L => by
    rw [List.map_cons, List.sum_cons, ← len_fl q L]
    by_cases h : q x = true
    · rw [if_pos h, List.filter_cons_of_pos h, List.length_cons]
      omega
    · rw [if_neg h, List.filter_cons_of_neg h]
      omega
theorem cR_nx (gm : Nat → List (Nat × Nat)) (T : Nat → Nat) (k m : Nat) : ((nxL gm m).map (cR gm T k)).sum = cR gm T (k + 1) m := sum_fl (cR gm T k) (fun x => dltM gm x m) (List.range 8)
theorem cR_lv (gm : Nat → List (Nat × Nat)) (T : Nat → Nat) : ∀ (l k : Nat), ((lvL gm l).map (cR gm T k)).sum = cR gm T (k + l) 1
  | 0, k => by
    show cR gm T k 1 + 0 = _
    rfl
  | l + 1, k => by
    show (((lvL gm l).flatMap (nxL gm)).map (cR gm T k)).sum = _
    rw [sum_fm]
    have : (fun m => ((nxL gm m).map (cR gm T k)).sum) = cR gm T (k + 1) := funext fun m => cR_nx gm T k m
    rw [this, cR_lv gm T l (k + 1), show k + 1 + l = k + (l + 1) by omega]
theorem lvS_lt {gm : Nat → List (Nat × Nat)} {S : Nat} (hS : 1 ≤ S) (hg : ∀ p, p < S → ∀ m ∈ gm p, m.2 < S) : ∀ l, ∀ m ∈ lvL gm l, m < 2 ^ S
  | 0, m, h => by
    have : m = 1 := by simpa [lvL] using h
    rw [this]
    exact Nat.lt_of_lt_of_le (show 1 < 2 ^ 1 by decide) (Nat.pow_le_pow_right (by decide) hS)
  | l + 1, m, h => by
    obtain ⟨a, h1, h2⟩ := List.mem_flatMap.mp h
    obtain ⟨x, -, h3⟩ := List.mem_map.mp (List.mem_filter.mp h2).1
    rw [← h3]
    exact dltM_lt (lvS_lt hS hg l a h1) hg
theorem tr_last {K lf : Nat → Nat} {n m x : Nat} (h : wfP K lf n) (hm : m < 2 ^ psp K lf (n - 1)) : (trM (tP K lf n) m).testBit (9 + x) = (trM (tP K lf n) (dltM (gmP K lf n) x m)).testBit 8 := by
  have hn := h.1
  have hsp := wf_sp h (show n - 1 < n by omega)
  have ok : ∀ p, p < psp K lf (n - 1) → ∀ m ∈ pmv K lf (n - 1) p, m.1 < 8 := fun p hp m hm => (pmv_ok h (n - 1) (by omega) p hp m hm).1
  rw [Bool.eq_iff_iff, trM_bit, trM_bit]
  constructor
  · rintro ⟨p, p1, p2, p3⟩
    have hp := tb_lt hm p2
    obtain ⟨t, t1, t2⟩ := (gt_last (ok p hp)).mp p3
    have ht := (pmv_ok h (n - 1) (by omega) p hp _ t1).2.2
    dsimp only at ht
    exact ⟨t, by omega, dltM_bit.mpr ⟨p, p1, p2, (gm_mem n p _).mpr t1⟩, (gt_end (ok t ht)).trans t2⟩
  · rintro ⟨t, t1, t2, t3⟩
    obtain ⟨p, p1, p2, p3⟩ := dltM_bit.mp t2
    have hp := tb_lt hm p2
    have t4 := (gm_mem n p _).mp p3
    have ht := (pmv_ok h (n - 1) (by omega) p hp _ t4).2.2
    dsimp only at ht
    exact ⟨p, p1, p2, (gt_last (ok p hp)).mpr ⟨t, t4, (gt_end (ok t ht)).symm.trans t3⟩⟩
theorem cnt_cR {p : Int64} (hp : okP p) (n : Nat) : cntR p n = cR (dG p) (dT p) n 1 := by
  have hw := dwf hp
  have hn := hw.1
  cases n with
  | zero => rfl
  | succ l =>
    show ((lvL (dG p) l).map (fun m => pcN (trM (dT p) m / 512))).sum = _
    rw [show l + 1 = 1 + l by omega, ← cR_lv]
    congr 1
    apply List.map_congr_left
    intro m hm
    have hgm : ∀ q, q < psp (dK p) (dL p) (dN p - 1) → ∀ m ∈ gmP (dK p) (dL p) (dN p) q, m.2 < psp (dK p) (dL p) (dN p - 1) := fun q hq m hm => (pmv_ok hw (dN p - 1) (by omega) q hq m ((gm_mem (dN p) q m).mp hm)).2.2
    have hlt := lvS_lt (psp_pos (dK p) (dL p) (dN p - 1)) hgm l m hm
    unfold pcN
    rw [len_fl]
    show _ = ((List.range 8).map (fun x => if dltM (dG p) x m = 0 then 0 else (if (trM (dT p) (dltM (dG p) x m)).testBit 8 = true then 1 else 0))).sum
    congr 1
    apply List.map_congr_left
    intro x _
    have e1 : (trM (dT p) m / 512).testBit x = (trM (dT p) (dltM (dG p) x m)).testBit 8 := by
      rw [show (512 : Nat) = 2 ^ 9 by decide, Nat.testBit_div_two_pow, Nat.add_comm]
      exact tr_last hw hlt
    rw [e1]
    by_cases z : dltM (dG p) x m = 0
    · rw [if_pos z, z]
      have : (trM (dT p) 0).testBit 8 = false := by
        rw [← Bool.not_eq_true, trM_bit]
        rintro ⟨q, -, q2, -⟩
        rw [Nat.zero_testBit] at q2
        exact absurd q2 (by decide)
      rw [this]
      rfl
    · rw [if_neg z]
/-- the levels above lie as they are -/
def SI (K lf : Nat → Nat) (N d : Nat) (gse gsz gtr : Nat → Int32) (ms : Nat → Nat) (ts : Nat → Int32) : Prop := ∀ l, l < d → rpM K lf N gse gsz l (ms l) ∧ gtr l = ts l
theorem SI_s {K lf : Nat → Nat} {N d m : Nat} {gse gsz gse' gsz' gtr gtr' : Nat → Int32} {ms : Nat → Nat} {ts : Nat → Int32} {v : Int32} (h : SI K lf N d gse gsz gtr ms ts) (hm : rpM K lf N gse gsz d m) (hf : frE gse gsz gse' gsz' (d + 1)) (h1 : gtr' d = v) (h2 : ∀ l, l < d → gtr' l = gtr l) : SI K lf N (d + 1) gse' gsz' gtr' (fun l => if l = d then m else ms l) (fun l => if l = d then v else ts l) := by
  intro l hl
  by_cases q : l = d
  · subst q
    simp only [if_pos]
    exact ⟨rpM_fr hm hf (by omega), h1⟩
  · simp only [if_neg q]
    exact ⟨rpM_fr (h l (by omega)).1 hf (by omega), (h2 l (by omega)).trans (h l (by omega)).2⟩
section GM
variable (gal : Nat → Int32) (gps : Nat → Int32) (gst : Int32) (grf : Nat → Int32) (gmy : Int32) (gkd : Nat → Int32) (glf : Nat → Int32) (grt : Nat → Int32) (gpr : Nat → Int32) (gun : Nat → Int32) (gow : Nat → Int32) (gem : Nat → Int32) (ged : Nat → Int32) (gse : Nat → Int32) (gsz : Nat → Int32) (gtx : Nat → Int32) (gtl : Int32) (gsp : Int32) (gmd : Nat → Int32) (gop : Nat → Int32) (gom : Int32) (gwt : Nat → Int32) (gwm : Int32) (gtn : Int32) (gon : Int32) (gsh : Nat → Int32) (gtr : Nat → Int32) (gbl : Int32) (gbd : Int32) (gwh : Nat → Int32) (gfl : Int32) (gfd : Int32) (gfe : Int32)
set_option maxRecDepth 100000 in
set_option maxHeartbeats 8000000 in
theorem l_rows {G : aG} (N x n : Nat) (K lf : Nat → Nat) (hw : wfP K lf N) (hL : pLd K lf N gmy gkd glf grt gpr gun gow gem) (hn6 : n ≤ 6) (hd : 3 ≤ gD G) (ggn : gN G = 21) :
    ∀ (k d : Nat) (D : Int32) (ms : Nat → Nat) (ts : Nat → Int32) (m : Nat), d + 1 + k = n → nI d + (-1) = D →
    ∀ (j y f : Nat) (ged gse gsz gtr : Nat → Int32), y + j = 8 → SI K lf N d gse gsz gtr ms ts → rpM K lf N gse gsz d m → gtr d + nI 1 = nI y →
    (∀ ged gse gsz gtr, SI K lf N d gse gsz gtr ms ts → AW 134 G 40 [some (.ref 0), some (.int (nI x)), some (.int (nI n)), some (.int (nI (f + ((List.range' y j).map (cRF (gmP K lf N) (tP K lf N) k m)).sum))), some (.int D)] [] (gH gal gps gst grf gmy gkd glf grt gpr gun gow gem ged gse gsz gtx gtl gsp gmd gop gom gwt gwm gtn gon gsh gtr gbl gbd gwh gfl gfd gfe) 0 0) →
    AW 134 G 40 [some (.ref 0), some (.int (nI x)), some (.int (nI n)), some (.int (nI f)), some (.int (nI d))] [] (gH gal gps gst grf gmy gkd glf grt gpr gun gow gem ged gse gsz gtx gtl gsp gmd gop gom gwt gwm gtn gon gsh gtr gbl gbd gwh gfl gfd gfe) 0 0 := by
  intro k
  induction k with
  | zero =>
    intro d D ms ts m hdn hD j
    induction j with
    | zero =>
      intro y f ged gse gsz gtr hy hS hM ht hK
      have e8 : y = 8 := by omega
      subst e8
      have hgo := hK ged gse gsz (upd gtr d (nI 8)) (fun l hl => ⟨(hS l hl).1, by rw [upd_n (by omega)]; exact (hS l hl).2⟩)
      clear hK
      rw [List.range'_zero, List.map_nil, List.sum_nil, Nat.add_zero] at hgo
      have hdb : d < 6 := by omega
      refine wq_aw (S := fun x => x == 40) (by decide) (f := 200) ?_
      simp (disch := first | exact rfl | decide | omega) only [v_134_40, u_134_0, u_134_1, u_134_2, u_134_5, u_134_6, u_134_7, u_134_10, u_134_11, u_134_14, u_134_15, u_134_16, u_134_19, u_134_22, u_134_23, u_134_26, u_134_27, u_134_28, u_134_29, u_134_30, u_134_31, u_134_33, u_134_34, u_134_37, u_134_38, u_134_39, u_134_40, u_134_42, u_134_45, u_134_46, u_134_49, u_134_51, u_134_52, u_134_53, u_134_54, u_134_55, u_134_56, u_134_57, u_134_60, u_134_62, u_134_63, u_134_65, u_134_68, u_134_71, u_134_74, u_134_75, u_134_77, u_134_78, u_134_81, u_134_83, u_134_84, u_134_86, u_134_87, u_134_88, u_134_91, u_134_94, u_134_96, u_134_97, u_134_98, u_134_99, u_134_102, u_134_103, u_134_104, u_134_105, u_134_108, u_134_111, u_134_112, u_134_115, u_134_116, u_134_117, u_134_118, u_134_121, u_134_124, u_134_125, u_134_128, u_134_130, u_134_131, u_134_132, u_134_135, u_134_136, wp_stop, lget, lput1, lput2, kil, hget, hset, vget, vset, fget, fgetC, fput, fputC, iget, igetC, jget, jgetC, qget, qgetC, alen, lenC, oI, oJ, oF, oA, oV, oH, oInc, oIld, oJld, oQld, oR, oLen, oIst, oBst, oJst, oQst, ciOf, rcv, oCp, cat1, cond_true, cond_false, Bool.and_self, Bool.and_true, Bool.true_and, Bool.or_true, Bool.true_or, Bool.or_false, Bool.false_or, Bool.not_false, Bool.not_true, ↓reduceIte, Nat.reduceBEq, Nat.reduceEqDiff, beq_self_eq_true, true_and, and_true, eq_self_iff_true, Nat.reduceAdd, Nat.blt, Nat.ble, z_le, z_lt, z_eq, z_cl, z_add, z_sub, z_mul, z_in, z_lt0, z_ofN, z_m1, z_ltm1, z_m1lt, z_eqm1, z_m1eq, z_m1le, z_lem1, z_beq, nI_0_1, nI_m1lt0, nI_0lem1, not_false_eq_true, not_true_eq_false, forall_const, false_implies, true_implies, implies_true, false_and, and_false, mrg, renc, tra, trv, sg, List.map_cons, List.map_nil, Option.map_some, Option.map_none, Option.toList_some, Option.toList_none, List.cons_append, List.nil_append, List.length_cons, List.length_nil, gH, gO, ht, upd_s, hD]
      exact hgo
    | succ j ih =>
      intro y f ged gse gsz gtr hy hS hM ht hK
      have hy8 : y < 8 := by omega
      have t8 : ¬ y = 8 := by omega
      have hdb : d < 6 := by omega
      have hcall := fun gtr => g_goM gal gps gst grf gmy gkd glf grt gpr gun gow gem ged gse gsz gtx gtl gsp gmd gop gom gwt gwm gtn gon gsh gtr gbl gbd gwh gfl gfd gfe 0 N d (d + 1) y m K lf hw hL (by omega) (by omega) (by omega) hy8 hM
      have hS2 : ∀ gse' gsz', frE gse gsz gse' gsz' (d + 1) → SI K lf N d gse' gsz' (upd gtr d (nI y)) ms ts := fun gse' gsz' q l hl => ⟨rpM_fr (hS l hl).1 q (by omega), by rw [upd_n (by omega)]; exact (hS l hl).2⟩
      have hgo := fun f ged gse' gsz' (q : frE gse gsz gse' gsz' (d + 1)) hK => ih (y + 1) f ged gse' gsz' (upd gtr d (nI y)) (by omega) (hS2 gse' gsz' q) (rpM_fr hM q (by omega)) (by rw [upd_s, z_add]) hK
      clear ih
      rw [List.range'_succ, List.map_cons, List.sum_cons] at hK
      refine wq_aw (S := fun x => x == 40) (by decide) (f := 200) ?_
      simp (disch := first | exact rfl | decide | omega) only [v_134_40, u_134_0, u_134_1, u_134_2, u_134_5, u_134_6, u_134_7, u_134_10, u_134_11, u_134_14, u_134_15, u_134_16, u_134_19, u_134_22, u_134_23, u_134_26, u_134_27, u_134_28, u_134_29, u_134_30, u_134_31, u_134_33, u_134_34, u_134_37, u_134_38, u_134_39, u_134_40, u_134_42, u_134_45, u_134_46, u_134_49, u_134_51, u_134_52, u_134_53, u_134_54, u_134_55, u_134_56, u_134_57, u_134_60, u_134_62, u_134_63, u_134_65, u_134_68, u_134_71, u_134_74, u_134_75, u_134_77, u_134_78, u_134_81, u_134_83, u_134_84, u_134_86, u_134_87, u_134_88, u_134_91, u_134_94, u_134_96, u_134_97, u_134_98, u_134_99, u_134_102, u_134_103, u_134_104, u_134_105, u_134_108, u_134_111, u_134_112, u_134_115, u_134_116, u_134_117, u_134_118, u_134_121, u_134_124, u_134_125, u_134_128, u_134_130, u_134_131, u_134_132, u_134_135, u_134_136, wp_stop, lget, lput1, lput2, kil, hget, hset, vget, vset, fget, fgetC, fput, fputC, iget, igetC, jget, jgetC, qget, qgetC, alen, lenC, oI, oJ, oF, oA, oV, oH, oInc, oIld, oJld, oQld, oR, oLen, oIst, oBst, oJst, oQst, ciOf, rcv, oCp, cat1, cond_true, cond_false, Bool.and_self, Bool.and_true, Bool.true_and, Bool.or_true, Bool.true_or, Bool.or_false, Bool.false_or, Bool.not_false, Bool.not_true, ↓reduceIte, Nat.reduceBEq, Nat.reduceEqDiff, beq_self_eq_true, true_and, and_true, eq_self_iff_true, Nat.reduceAdd, Nat.blt, Nat.ble, z_le, z_lt, z_eq, z_cl, z_add, z_sub, z_mul, z_in, z_lt0, z_ofN, z_m1, z_ltm1, z_m1lt, z_eqm1, z_m1eq, z_m1le, z_lem1, z_beq, nI_0_1, nI_m1lt0, nI_0lem1, not_false_eq_true, not_true_eq_false, forall_const, false_implies, true_implies, implies_true, false_and, and_false, mrg, renc, tra, trv, sg, List.map_cons, List.map_nil, Option.map_some, Option.map_none, Option.toList_some, Option.toList_none, List.cons_append, List.nil_append, List.length_cons, List.length_nil, gH, gO, ht, upd_s, t8]
      refine CAL.dir (hcall _) (by omega) (Nat.zero_le _) (Nat.zero_le _) (Nat.le_of_ble_eq_true rfl) (by rw [ggn]; exact Nat.le_of_ble_eq_true rfl) rfl rfl ?_
      rintro _ _ ⟨ged', gse', gsz', rfl, rfl, q2, q3⟩
      by_cases z : dltM (gmP K lf N) y m = 0
      · have eF : cRF (gmP K lf N) (tP K lf N) 0 m y = 0 := if_pos z
        rw [eF, Nat.zero_add] at hK
        have hgo2 := hgo f ged' gse' gsz' q3 hK
        clear hgo hK
        rw [z]
        have ez : bN (!((0 : Nat) == 0)) = nI 0 := rfl
        simp (disch := first | exact rfl | decide | omega) only [u_134_0, u_134_1, u_134_2, u_134_5, u_134_6, u_134_7, u_134_10, u_134_11, u_134_14, u_134_15, u_134_16, u_134_19, u_134_22, u_134_23, u_134_26, u_134_27, u_134_28, u_134_29, u_134_30, u_134_31, u_134_33, u_134_34, u_134_37, u_134_38, u_134_39, u_134_40, u_134_42, u_134_45, u_134_46, u_134_49, u_134_51, u_134_52, u_134_53, u_134_54, u_134_55, u_134_56, u_134_57, u_134_60, u_134_62, u_134_63, u_134_65, u_134_68, u_134_71, u_134_74, u_134_75, u_134_77, u_134_78, u_134_81, u_134_83, u_134_84, u_134_86, u_134_87, u_134_88, u_134_91, u_134_94, u_134_96, u_134_97, u_134_98, u_134_99, u_134_102, u_134_103, u_134_104, u_134_105, u_134_108, u_134_111, u_134_112, u_134_115, u_134_116, u_134_117, u_134_118, u_134_121, u_134_124, u_134_125, u_134_128, u_134_130, u_134_131, u_134_132, u_134_135, u_134_136, wp_stop, lget, lput1, lput2, kil, hget, hset, vget, vset, fget, fgetC, fput, fputC, iget, igetC, jget, jgetC, qget, qgetC, alen, lenC, oI, oJ, oF, oA, oV, oH, oInc, oIld, oJld, oQld, oR, oLen, oIst, oBst, oJst, oQst, ciOf, rcv, oCp, cat1, cond_true, cond_false, Bool.and_self, Bool.and_true, Bool.true_and, Bool.or_true, Bool.true_or, Bool.or_false, Bool.false_or, Bool.not_false, Bool.not_true, ↓reduceIte, Nat.reduceBEq, Nat.reduceEqDiff, beq_self_eq_true, true_and, and_true, eq_self_iff_true, Nat.reduceAdd, Nat.blt, Nat.ble, z_le, z_lt, z_eq, z_cl, z_add, z_sub, z_mul, z_in, z_lt0, z_ofN, z_m1, z_ltm1, z_m1lt, z_eqm1, z_m1eq, z_m1le, z_lem1, z_beq, nI_0_1, nI_m1lt0, nI_0lem1, not_false_eq_true, not_true_eq_false, forall_const, false_implies, true_implies, implies_true, false_and, and_false, mrg, renc, tra, trv, sg, List.map_cons, List.map_nil, Option.map_some, Option.map_none, Option.toList_some, Option.toList_none, List.cons_append, List.nil_append, List.length_cons, List.length_nil, gH, gO, ez]
        exact hgo2
      · have ez : bN (!(dltM (gmP K lf N) y m == 0)) = nI 1 := by rw [beq_eq_false_iff_ne.mpr z]; rfl
        have hme := g_mayEnd gal gps gst grf gmy gkd glf grt gpr gun gow gem ged' gse' gsz' gtx gtl gsp gmd gop gom gwt gwm gtn gon gsh (upd gtr d (nI y)) gbl gbd gwh gfl gfd gfe 0 N (d + 1) (dltM (gmP K lf N) y m) K lf hw hL (by omega) q2
        have hn : n = d + 1 := by omega
        subst hn
        simp (disch := first | exact rfl | decide | omega) only [u_134_0, u_134_1, u_134_2, u_134_5, u_134_6, u_134_7, u_134_10, u_134_11, u_134_14, u_134_15, u_134_16, u_134_19, u_134_22, u_134_23, u_134_26, u_134_27, u_134_28, u_134_29, u_134_30, u_134_31, u_134_33, u_134_34, u_134_37, u_134_38, u_134_39, u_134_40, u_134_42, u_134_45, u_134_46, u_134_49, u_134_51, u_134_52, u_134_53, u_134_54, u_134_55, u_134_56, u_134_57, u_134_60, u_134_62, u_134_63, u_134_65, u_134_68, u_134_71, u_134_74, u_134_75, u_134_77, u_134_78, u_134_81, u_134_83, u_134_84, u_134_86, u_134_87, u_134_88, u_134_91, u_134_94, u_134_96, u_134_97, u_134_98, u_134_99, u_134_102, u_134_103, u_134_104, u_134_105, u_134_108, u_134_111, u_134_112, u_134_115, u_134_116, u_134_117, u_134_118, u_134_121, u_134_124, u_134_125, u_134_128, u_134_130, u_134_131, u_134_132, u_134_135, u_134_136, wp_stop, lget, lput1, lput2, kil, hget, hset, vget, vset, fget, fgetC, fput, fputC, iget, igetC, jget, jgetC, qget, qgetC, alen, lenC, oI, oJ, oF, oA, oV, oH, oInc, oIld, oJld, oQld, oR, oLen, oIst, oBst, oJst, oQst, ciOf, rcv, oCp, cat1, cond_true, cond_false, Bool.and_self, Bool.and_true, Bool.true_and, Bool.or_true, Bool.true_or, Bool.or_false, Bool.false_or, Bool.not_false, Bool.not_true, ↓reduceIte, Nat.reduceBEq, Nat.reduceEqDiff, beq_self_eq_true, true_and, and_true, eq_self_iff_true, Nat.reduceAdd, Nat.blt, Nat.ble, z_le, z_lt, z_eq, z_cl, z_add, z_sub, z_mul, z_in, z_lt0, z_ofN, z_m1, z_ltm1, z_m1lt, z_eqm1, z_m1eq, z_m1le, z_lem1, z_beq, nI_0_1, nI_m1lt0, nI_0lem1, not_false_eq_true, not_true_eq_false, forall_const, false_implies, true_implies, implies_true, false_and, and_false, mrg, renc, tra, trv, sg, List.map_cons, List.map_nil, Option.map_some, Option.map_none, Option.toList_some, Option.toList_none, List.cons_append, List.nil_append, List.length_cons, List.length_nil, gH, gO, ez, n10]
        refine CAL.dir hme (by omega) (Nat.zero_le _) (Nat.zero_le _) (Nat.le_of_ble_eq_true rfl) (by rw [ggn]; exact Nat.le_of_ble_eq_true rfl) rfl rfl ?_
        rintro _ _ ⟨rfl, ged2, rfl⟩
        cases hb : (trM (tP K lf N) (dltM (gmP K lf N) y m)).testBit 8
        · have eF : cRF (gmP K lf N) (tP K lf N) 0 m y = 0 := by
            unfold cRF
            rw [if_neg z]
            show (if _ = true then 1 else 0) = 0
            rw [hb]; rfl
          rw [eF, Nat.zero_add] at hK
          have hgo2 := hgo f ged2 gse' gsz' q3 hK
          clear hgo hK
          simp (disch := first | exact rfl | decide | omega) only [u_134_0, u_134_1, u_134_2, u_134_5, u_134_6, u_134_7, u_134_10, u_134_11, u_134_14, u_134_15, u_134_16, u_134_19, u_134_22, u_134_23, u_134_26, u_134_27, u_134_28, u_134_29, u_134_30, u_134_31, u_134_33, u_134_34, u_134_37, u_134_38, u_134_39, u_134_40, u_134_42, u_134_45, u_134_46, u_134_49, u_134_51, u_134_52, u_134_53, u_134_54, u_134_55, u_134_56, u_134_57, u_134_60, u_134_62, u_134_63, u_134_65, u_134_68, u_134_71, u_134_74, u_134_75, u_134_77, u_134_78, u_134_81, u_134_83, u_134_84, u_134_86, u_134_87, u_134_88, u_134_91, u_134_94, u_134_96, u_134_97, u_134_98, u_134_99, u_134_102, u_134_103, u_134_104, u_134_105, u_134_108, u_134_111, u_134_112, u_134_115, u_134_116, u_134_117, u_134_118, u_134_121, u_134_124, u_134_125, u_134_128, u_134_130, u_134_131, u_134_132, u_134_135, u_134_136, wp_stop, lget, lput1, lput2, kil, hget, hset, vget, vset, fget, fgetC, fput, fputC, iget, igetC, jget, jgetC, qget, qgetC, alen, lenC, oI, oJ, oF, oA, oV, oH, oInc, oIld, oJld, oQld, oR, oLen, oIst, oBst, oJst, oQst, ciOf, rcv, oCp, cat1, cond_true, cond_false, Bool.and_self, Bool.and_true, Bool.true_and, Bool.or_true, Bool.true_or, Bool.or_false, Bool.false_or, Bool.not_false, Bool.not_true, ↓reduceIte, Nat.reduceBEq, Nat.reduceEqDiff, beq_self_eq_true, true_and, and_true, eq_self_iff_true, Nat.reduceAdd, Nat.blt, Nat.ble, z_le, z_lt, z_eq, z_cl, z_add, z_sub, z_mul, z_in, z_lt0, z_ofN, z_m1, z_ltm1, z_m1lt, z_eqm1, z_m1eq, z_m1le, z_lem1, z_beq, nI_0_1, nI_m1lt0, nI_0lem1, not_false_eq_true, not_true_eq_false, forall_const, false_implies, true_implies, implies_true, false_and, and_false, mrg, renc, tra, trv, sg, List.map_cons, List.map_nil, Option.map_some, Option.map_none, Option.toList_some, Option.toList_none, List.cons_append, List.nil_append, List.length_cons, List.length_nil, gH, gO, bNf, Nat.add_zero]
          exact hgo2
        · have eF : cRF (gmP K lf N) (tP K lf N) 0 m y = 1 := by
            unfold cRF
            rw [if_neg z]
            show (if _ = true then 1 else 0) = 1
            rw [hb]; rfl
          rw [eF] at hK
          have hgo2 := hgo (f + 1) ged2 gse' gsz' q3 (fun ged gse gsz gtr q => by
            have := hK ged gse gsz gtr q
            rw [← Nat.add_assoc] at this
            exact this)
          clear hgo hK
          simp (disch := first | exact rfl | decide | omega) only [u_134_0, u_134_1, u_134_2, u_134_5, u_134_6, u_134_7, u_134_10, u_134_11, u_134_14, u_134_15, u_134_16, u_134_19, u_134_22, u_134_23, u_134_26, u_134_27, u_134_28, u_134_29, u_134_30, u_134_31, u_134_33, u_134_34, u_134_37, u_134_38, u_134_39, u_134_40, u_134_42, u_134_45, u_134_46, u_134_49, u_134_51, u_134_52, u_134_53, u_134_54, u_134_55, u_134_56, u_134_57, u_134_60, u_134_62, u_134_63, u_134_65, u_134_68, u_134_71, u_134_74, u_134_75, u_134_77, u_134_78, u_134_81, u_134_83, u_134_84, u_134_86, u_134_87, u_134_88, u_134_91, u_134_94, u_134_96, u_134_97, u_134_98, u_134_99, u_134_102, u_134_103, u_134_104, u_134_105, u_134_108, u_134_111, u_134_112, u_134_115, u_134_116, u_134_117, u_134_118, u_134_121, u_134_124, u_134_125, u_134_128, u_134_130, u_134_131, u_134_132, u_134_135, u_134_136, wp_stop, lget, lput1, lput2, kil, hget, hset, vget, vset, fget, fgetC, fput, fputC, iget, igetC, jget, jgetC, qget, qgetC, alen, lenC, oI, oJ, oF, oA, oV, oH, oInc, oIld, oJld, oQld, oR, oLen, oIst, oBst, oJst, oQst, ciOf, rcv, oCp, cat1, cond_true, cond_false, Bool.and_self, Bool.and_true, Bool.true_and, Bool.or_true, Bool.true_or, Bool.or_false, Bool.false_or, Bool.not_false, Bool.not_true, ↓reduceIte, Nat.reduceBEq, Nat.reduceEqDiff, beq_self_eq_true, true_and, and_true, eq_self_iff_true, Nat.reduceAdd, Nat.blt, Nat.ble, z_le, z_lt, z_eq, z_cl, z_add, z_sub, z_mul, z_in, z_lt0, z_ofN, z_m1, z_ltm1, z_m1lt, z_eqm1, z_m1eq, z_m1le, z_lem1, z_beq, nI_0_1, nI_m1lt0, nI_0lem1, not_false_eq_true, not_true_eq_false, forall_const, false_implies, true_implies, implies_true, false_and, and_false, mrg, renc, tra, trv, sg, List.map_cons, List.map_nil, Option.map_some, Option.map_none, Option.toList_some, Option.toList_none, List.cons_append, List.nil_append, List.length_cons, List.length_nil, gH, gO, bNt, n10]
          exact hgo2
  | succ k ihk =>
    intro d D ms ts m hdn hD j
    induction j with
    | zero =>
      intro y f ged gse gsz gtr hy hS hM ht hK
      have e8 : y = 8 := by omega
      subst e8
      have hgo := hK ged gse gsz (upd gtr d (nI 8)) (fun l hl => ⟨(hS l hl).1, by rw [upd_n (by omega)]; exact (hS l hl).2⟩)
      clear hK ihk
      rw [List.range'_zero, List.map_nil, List.sum_nil, Nat.add_zero] at hgo
      have hdb : d < 6 := by omega
      refine wq_aw (S := fun x => x == 40) (by decide) (f := 200) ?_
      simp (disch := first | exact rfl | decide | omega) only [v_134_40, u_134_0, u_134_1, u_134_2, u_134_5, u_134_6, u_134_7, u_134_10, u_134_11, u_134_14, u_134_15, u_134_16, u_134_19, u_134_22, u_134_23, u_134_26, u_134_27, u_134_28, u_134_29, u_134_30, u_134_31, u_134_33, u_134_34, u_134_37, u_134_38, u_134_39, u_134_40, u_134_42, u_134_45, u_134_46, u_134_49, u_134_51, u_134_52, u_134_53, u_134_54, u_134_55, u_134_56, u_134_57, u_134_60, u_134_62, u_134_63, u_134_65, u_134_68, u_134_71, u_134_74, u_134_75, u_134_77, u_134_78, u_134_81, u_134_83, u_134_84, u_134_86, u_134_87, u_134_88, u_134_91, u_134_94, u_134_96, u_134_97, u_134_98, u_134_99, u_134_102, u_134_103, u_134_104, u_134_105, u_134_108, u_134_111, u_134_112, u_134_115, u_134_116, u_134_117, u_134_118, u_134_121, u_134_124, u_134_125, u_134_128, u_134_130, u_134_131, u_134_132, u_134_135, u_134_136, wp_stop, lget, lput1, lput2, kil, hget, hset, vget, vset, fget, fgetC, fput, fputC, iget, igetC, jget, jgetC, qget, qgetC, alen, lenC, oI, oJ, oF, oA, oV, oH, oInc, oIld, oJld, oQld, oR, oLen, oIst, oBst, oJst, oQst, ciOf, rcv, oCp, cat1, cond_true, cond_false, Bool.and_self, Bool.and_true, Bool.true_and, Bool.or_true, Bool.true_or, Bool.or_false, Bool.false_or, Bool.not_false, Bool.not_true, ↓reduceIte, Nat.reduceBEq, Nat.reduceEqDiff, beq_self_eq_true, true_and, and_true, eq_self_iff_true, Nat.reduceAdd, Nat.blt, Nat.ble, z_le, z_lt, z_eq, z_cl, z_add, z_sub, z_mul, z_in, z_lt0, z_ofN, z_m1, z_ltm1, z_m1lt, z_eqm1, z_m1eq, z_m1le, z_lem1, z_beq, nI_0_1, nI_m1lt0, nI_0lem1, not_false_eq_true, not_true_eq_false, forall_const, false_implies, true_implies, implies_true, false_and, and_false, mrg, renc, tra, trv, sg, List.map_cons, List.map_nil, Option.map_some, Option.map_none, Option.toList_some, Option.toList_none, List.cons_append, List.nil_append, List.length_cons, List.length_nil, gH, gO, ht, upd_s, hD]
      exact hgo
    | succ j ih =>
      intro y f ged gse gsz gtr hy hS hM ht hK
      have hy8 : y < 8 := by omega
      have t8 : ¬ y = 8 := by omega
      have hdb : d < 6 := by omega
      have hcall := fun gtr => g_goM gal gps gst grf gmy gkd glf grt gpr gun gow gem ged gse gsz gtx gtl gsp gmd gop gom gwt gwm gtn gon gsh gtr gbl gbd gwh gfl gfd gfe 0 N d (d + 1) y m K lf hw hL (by omega) (by omega) (by omega) hy8 hM
      have hS2 : ∀ gse' gsz', frE gse gsz gse' gsz' (d + 1) → SI K lf N d gse' gsz' (upd gtr d (nI y)) ms ts := fun gse' gsz' q l hl => ⟨rpM_fr (hS l hl).1 q (by omega), by rw [upd_n (by omega)]; exact (hS l hl).2⟩
      rw [List.range'_succ, List.map_cons, List.sum_cons] at hK
      refine wq_aw (S := fun x => x == 40) (by decide) (f := 200) ?_
      simp (disch := first | exact rfl | decide | omega) only [v_134_40, u_134_0, u_134_1, u_134_2, u_134_5, u_134_6, u_134_7, u_134_10, u_134_11, u_134_14, u_134_15, u_134_16, u_134_19, u_134_22, u_134_23, u_134_26, u_134_27, u_134_28, u_134_29, u_134_30, u_134_31, u_134_33, u_134_34, u_134_37, u_134_38, u_134_39, u_134_40, u_134_42, u_134_45, u_134_46, u_134_49, u_134_51, u_134_52, u_134_53, u_134_54, u_134_55, u_134_56, u_134_57, u_134_60, u_134_62, u_134_63, u_134_65, u_134_68, u_134_71, u_134_74, u_134_75, u_134_77, u_134_78, u_134_81, u_134_83, u_134_84, u_134_86, u_134_87, u_134_88, u_134_91, u_134_94, u_134_96, u_134_97, u_134_98, u_134_99, u_134_102, u_134_103, u_134_104, u_134_105, u_134_108, u_134_111, u_134_112, u_134_115, u_134_116, u_134_117, u_134_118, u_134_121, u_134_124, u_134_125, u_134_128, u_134_130, u_134_131, u_134_132, u_134_135, u_134_136, wp_stop, lget, lput1, lput2, kil, hget, hset, vget, vset, fget, fgetC, fput, fputC, iget, igetC, jget, jgetC, qget, qgetC, alen, lenC, oI, oJ, oF, oA, oV, oH, oInc, oIld, oJld, oQld, oR, oLen, oIst, oBst, oJst, oQst, ciOf, rcv, oCp, cat1, cond_true, cond_false, Bool.and_self, Bool.and_true, Bool.true_and, Bool.or_true, Bool.true_or, Bool.or_false, Bool.false_or, Bool.not_false, Bool.not_true, ↓reduceIte, Nat.reduceBEq, Nat.reduceEqDiff, beq_self_eq_true, true_and, and_true, eq_self_iff_true, Nat.reduceAdd, Nat.blt, Nat.ble, z_le, z_lt, z_eq, z_cl, z_add, z_sub, z_mul, z_in, z_lt0, z_ofN, z_m1, z_ltm1, z_m1lt, z_eqm1, z_m1eq, z_m1le, z_lem1, z_beq, nI_0_1, nI_m1lt0, nI_0lem1, not_false_eq_true, not_true_eq_false, forall_const, false_implies, true_implies, implies_true, false_and, and_false, mrg, renc, tra, trv, sg, List.map_cons, List.map_nil, Option.map_some, Option.map_none, Option.toList_some, Option.toList_none, List.cons_append, List.nil_append, List.length_cons, List.length_nil, gH, gO, ht, upd_s, t8]
      refine CAL.dir (hcall _) (by omega) (Nat.zero_le _) (Nat.zero_le _) (Nat.le_of_ble_eq_true rfl) (by rw [ggn]; exact Nat.le_of_ble_eq_true rfl) rfl rfl ?_
      rintro _ _ ⟨ged', gse', gsz', rfl, rfl, q2, q3⟩
      by_cases z : dltM (gmP K lf N) y m = 0
      · have eF : cRF (gmP K lf N) (tP K lf N) (k + 1) m y = 0 := if_pos z
        rw [eF, Nat.zero_add] at hK
        have hgo2 := ih (y + 1) f ged' gse' gsz' (upd gtr d (nI y)) (by omega) (hS2 gse' gsz' q3) (rpM_fr hM q3 (by omega)) (by rw [upd_s, z_add]) hK
        clear ih hK ihk
        rw [z]
        have ez : bN (!((0 : Nat) == 0)) = nI 0 := rfl
        simp (disch := first | exact rfl | decide | omega) only [u_134_0, u_134_1, u_134_2, u_134_5, u_134_6, u_134_7, u_134_10, u_134_11, u_134_14, u_134_15, u_134_16, u_134_19, u_134_22, u_134_23, u_134_26, u_134_27, u_134_28, u_134_29, u_134_30, u_134_31, u_134_33, u_134_34, u_134_37, u_134_38, u_134_39, u_134_40, u_134_42, u_134_45, u_134_46, u_134_49, u_134_51, u_134_52, u_134_53, u_134_54, u_134_55, u_134_56, u_134_57, u_134_60, u_134_62, u_134_63, u_134_65, u_134_68, u_134_71, u_134_74, u_134_75, u_134_77, u_134_78, u_134_81, u_134_83, u_134_84, u_134_86, u_134_87, u_134_88, u_134_91, u_134_94, u_134_96, u_134_97, u_134_98, u_134_99, u_134_102, u_134_103, u_134_104, u_134_105, u_134_108, u_134_111, u_134_112, u_134_115, u_134_116, u_134_117, u_134_118, u_134_121, u_134_124, u_134_125, u_134_128, u_134_130, u_134_131, u_134_132, u_134_135, u_134_136, wp_stop, lget, lput1, lput2, kil, hget, hset, vget, vset, fget, fgetC, fput, fputC, iget, igetC, jget, jgetC, qget, qgetC, alen, lenC, oI, oJ, oF, oA, oV, oH, oInc, oIld, oJld, oQld, oR, oLen, oIst, oBst, oJst, oQst, ciOf, rcv, oCp, cat1, cond_true, cond_false, Bool.and_self, Bool.and_true, Bool.true_and, Bool.or_true, Bool.true_or, Bool.or_false, Bool.false_or, Bool.not_false, Bool.not_true, ↓reduceIte, Nat.reduceBEq, Nat.reduceEqDiff, beq_self_eq_true, true_and, and_true, eq_self_iff_true, Nat.reduceAdd, Nat.blt, Nat.ble, z_le, z_lt, z_eq, z_cl, z_add, z_sub, z_mul, z_in, z_lt0, z_ofN, z_m1, z_ltm1, z_m1lt, z_eqm1, z_m1eq, z_m1le, z_lem1, z_beq, nI_0_1, nI_m1lt0, nI_0lem1, not_false_eq_true, not_true_eq_false, forall_const, false_implies, true_implies, implies_true, false_and, and_false, mrg, renc, tra, trv, sg, List.map_cons, List.map_nil, Option.map_some, Option.map_none, Option.toList_some, Option.toList_none, List.cons_append, List.nil_append, List.length_cons, List.length_nil, gH, gO, ez]
        exact hgo2
      · have ez : bN (!(dltM (gmP K lf N) y m == 0)) = nI 1 := by rw [beq_eq_false_iff_ne.mpr z]; rfl
        have tn : ¬ d + 1 = n := by omega
        have eF : cRF (gmP K lf N) (tP K lf N) (k + 1) m y = cR (gmP K lf N) (tP K lf N) (k + 1) (dltM (gmP K lf N) y m) := if_neg z
        have hS3 := SI_s (gtr' := upd (upd gtr d (nI y)) (d + 1) (-1)) (v := nI y) hS hM q3 (by rw [upd_n (by omega), upd_s]) (fun l hl => by rw [upd_n (by omega), upd_n (by omega)])
        have hgo2 := ihk (d + 1) (nI d) _ _ (dltM (gmP K lf N) y m) (by omega) (z_m1 (by omega)) 8 0 f ged' gse' gsz' (upd (upd gtr d (nI y)) (d + 1) (-1)) (by omega) hS3 q2 (by rw [upd_s]; decide) (fun ged2 gse2 gsz2 gtr2 hS4 => by
          have hl := hS4 d (by omega)
          simp only [if_pos] at hl
          refine ih (y + 1) _ ged2 gse2 gsz2 gtr2 (by omega) (fun l hl => by
            have := hS4 l (by omega)
            simp only [if_neg (show ¬ l = d by omega)] at this
            exact this) hl.1 (by rw [hl.2, z_add]) (fun ged gse gsz gtr q => by
            have := hK ged gse gsz gtr q
            rw [eF, ← Nat.add_assoc] at this
            rw [← List.range_eq_range']
            exact this))
        clear ih hK ihk
        simp (disch := first | exact rfl | decide | omega) only [u_134_0, u_134_1, u_134_2, u_134_5, u_134_6, u_134_7, u_134_10, u_134_11, u_134_14, u_134_15, u_134_16, u_134_19, u_134_22, u_134_23, u_134_26, u_134_27, u_134_28, u_134_29, u_134_30, u_134_31, u_134_33, u_134_34, u_134_37, u_134_38, u_134_39, u_134_40, u_134_42, u_134_45, u_134_46, u_134_49, u_134_51, u_134_52, u_134_53, u_134_54, u_134_55, u_134_56, u_134_57, u_134_60, u_134_62, u_134_63, u_134_65, u_134_68, u_134_71, u_134_74, u_134_75, u_134_77, u_134_78, u_134_81, u_134_83, u_134_84, u_134_86, u_134_87, u_134_88, u_134_91, u_134_94, u_134_96, u_134_97, u_134_98, u_134_99, u_134_102, u_134_103, u_134_104, u_134_105, u_134_108, u_134_111, u_134_112, u_134_115, u_134_116, u_134_117, u_134_118, u_134_121, u_134_124, u_134_125, u_134_128, u_134_130, u_134_131, u_134_132, u_134_135, u_134_136, wp_stop, lget, lput1, lput2, kil, hget, hset, vget, vset, fget, fgetC, fput, fputC, iget, igetC, jget, jgetC, qget, qgetC, alen, lenC, oI, oJ, oF, oA, oV, oH, oInc, oIld, oJld, oQld, oR, oLen, oIst, oBst, oJst, oQst, ciOf, rcv, oCp, cat1, cond_true, cond_false, Bool.and_self, Bool.and_true, Bool.true_and, Bool.or_true, Bool.true_or, Bool.or_false, Bool.false_or, Bool.not_false, Bool.not_true, ↓reduceIte, Nat.reduceBEq, Nat.reduceEqDiff, beq_self_eq_true, true_and, and_true, eq_self_iff_true, Nat.reduceAdd, Nat.blt, Nat.ble, z_le, z_lt, z_eq, z_cl, z_add, z_sub, z_mul, z_in, z_lt0, z_ofN, z_m1, z_ltm1, z_m1lt, z_eqm1, z_m1eq, z_m1le, z_lem1, z_beq, nI_0_1, nI_m1lt0, nI_0lem1, not_false_eq_true, not_true_eq_false, forall_const, false_implies, true_implies, implies_true, false_and, and_false, mrg, renc, tra, trv, sg, List.map_cons, List.map_nil, Option.map_some, Option.map_none, Option.toList_some, Option.toList_none, List.cons_append, List.nil_append, List.length_cons, List.length_nil, gH, gO, ez, n10, tn]
        exact hgo2
set_option maxRecDepth 100000 in
set_option maxHeartbeats 8000000 in
theorem g_rowsOf (d x n : Nat) (hx : x < 9) (hn6 : n ≤ 6) (p : Int64) (hp : paP gal x p) : aSp (d + 3) 134 [.ref 0, .int (nI x), .int (nI n)] (gH gal gps gst grf gmy gkd glf grt gpr gun gow gem ged gse gsz gtx gtl gsp gmd gop gom gwt gwm gtn gon gsh gtr gbl gbd gwh gfl gfd gfe) nomv 0 0 (fun r h' => r = some (.int (nI (cntR p n))) ∧ gHx gal gps gst grf gtx gtl h') := by
  have hw := dwf hp.1
  have hld := g_loads gal gps gst grf gmy gkd glf grt gpr gun gow gem ged gse gsz gtx gtl gsp gmd gop gom gwt gwm gtn gon gsh gtr gbl gbd gwh gfl gfd gfe 0 x (dN p) hx (dK p) (dL p) hw hp.2
  rw [cnt_cR hp.1]
  refine sp_of (by decide) (Nat.le_of_ble_eq_true rfl) ?_
  generalize hG : ((d + 3, _, nomv, _, _, _) : aG) = G
  have ggd : gD G = d + 3 := by subst hG; rfl
  have ggn : gN G = 21 := by subst hG; rfl
  have ggm : gM G = nomv := by subst hG; rfl
  have ggc : gC G = 0 := by subst hG; rfl
  have ggs : gS G = 0 := by subst hG; rfl
  have hret : ∀ h', gHx gal gps gst grf gtx gtl h' → RET G (some (.int (nI (cR (dG p) (dT p) n 1)))) h' 0 0 := by
    subst hG
    intro h' q
    exact RET.id ⟨rfl, q⟩ (Nat.le_refl _) (Nat.le_refl _)
  clear hG
  have hd4 : 3 ≤ gD G := by rw [ggd]; omega
  refine wp_aw (S := fun x => x == 40) (by decide) 200 _ _ _ _ _ _ ?_
  simp (disch := first | exact rfl | decide | omega) only [u_134_0, u_134_1, u_134_2, u_134_5, u_134_6, u_134_7, u_134_10, u_134_11, u_134_14, u_134_15, u_134_16, u_134_19, u_134_22, u_134_23, u_134_26, u_134_27, u_134_28, u_134_29, u_134_30, u_134_31, u_134_33, u_134_34, u_134_37, u_134_38, u_134_39, u_134_40, u_134_42, u_134_45, u_134_46, u_134_49, u_134_51, u_134_52, u_134_53, u_134_54, u_134_55, u_134_56, u_134_57, u_134_60, u_134_62, u_134_63, u_134_65, u_134_68, u_134_71, u_134_74, u_134_75, u_134_77, u_134_78, u_134_81, u_134_83, u_134_84, u_134_86, u_134_87, u_134_88, u_134_91, u_134_94, u_134_96, u_134_97, u_134_98, u_134_99, u_134_102, u_134_103, u_134_104, u_134_105, u_134_108, u_134_111, u_134_112, u_134_115, u_134_116, u_134_117, u_134_118, u_134_121, u_134_124, u_134_125, u_134_128, u_134_130, u_134_131, u_134_132, u_134_135, u_134_136, wp_stop, lget, lput1, lput2, kil, hget, hset, vget, vset, fget, fgetC, fput, fputC, iget, igetC, jget, jgetC, qget, qgetC, alen, lenC, oI, oJ, oF, oA, oV, oH, oInc, oIld, oJld, oQld, oR, oLen, oIst, oBst, oJst, oQst, ciOf, rcv, oCp, cat1, cond_true, cond_false, Bool.and_self, Bool.and_true, Bool.true_and, Bool.or_true, Bool.true_or, Bool.or_false, Bool.false_or, Bool.not_false, Bool.not_true, ↓reduceIte, Nat.reduceBEq, Nat.reduceEqDiff, beq_self_eq_true, true_and, and_true, eq_self_iff_true, Nat.reduceAdd, Nat.blt, Nat.ble, z_le, z_lt, z_eq, z_cl, z_add, z_sub, z_mul, z_in, z_lt0, z_ofN, z_m1, z_ltm1, z_m1lt, z_eqm1, z_m1eq, z_m1le, z_lem1, z_beq, nI_0_1, nI_m1lt0, nI_0lem1, not_false_eq_true, not_true_eq_false, forall_const, false_implies, true_implies, implies_true, false_and, and_false, mrg, renc, tra, trv, sg, List.map_cons, List.map_nil, Option.map_some, Option.map_none, Option.toList_some, Option.toList_none, List.cons_append, List.nil_append, List.length_cons, List.length_nil, eL, mL_134, gH, gO]
  refine CAL.dir hld (by omega) (Nat.zero_le _) (Nat.zero_le _) (Nat.le_of_ble_eq_true rfl) (by rw [ggn]; exact Nat.le_of_ble_eq_true rfl) rfl rfl ?_
  rintro _ _ ⟨rfl, gmy, gkd, glf, grt, gpr, gun, gow, gem, rfl, hL⟩
  have hst := g_starts gal gps gst grf gmy gkd glf grt gpr gun gow gem ged gse gsz gtx gtl gsp gmd gop gom gwt gwm gtn gon gsh gtr gbl gbd gwh gfl gfd gfe 0 0 (by decide)
  simp (disch := first | exact rfl | decide | omega) only [u_134_0, u_134_1, u_134_2, u_134_5, u_134_6, u_134_7, u_134_10, u_134_11, u_134_14, u_134_15, u_134_16, u_134_19, u_134_22, u_134_23, u_134_26, u_134_27, u_134_28, u_134_29, u_134_30, u_134_31, u_134_33, u_134_34, u_134_37, u_134_38, u_134_39, u_134_40, u_134_42, u_134_45, u_134_46, u_134_49, u_134_51, u_134_52, u_134_53, u_134_54, u_134_55, u_134_56, u_134_57, u_134_60, u_134_62, u_134_63, u_134_65, u_134_68, u_134_71, u_134_74, u_134_75, u_134_77, u_134_78, u_134_81, u_134_83, u_134_84, u_134_86, u_134_87, u_134_88, u_134_91, u_134_94, u_134_96, u_134_97, u_134_98, u_134_99, u_134_102, u_134_103, u_134_104, u_134_105, u_134_108, u_134_111, u_134_112, u_134_115, u_134_116, u_134_117, u_134_118, u_134_121, u_134_124, u_134_125, u_134_128, u_134_130, u_134_131, u_134_132, u_134_135, u_134_136, wp_stop, lget, lput1, lput2, kil, hget, hset, vget, vset, fget, fgetC, fput, fputC, iget, igetC, jget, jgetC, qget, qgetC, alen, lenC, oI, oJ, oF, oA, oV, oH, oInc, oIld, oJld, oQld, oR, oLen, oIst, oBst, oJst, oQst, ciOf, rcv, oCp, cat1, cond_true, cond_false, Bool.and_self, Bool.and_true, Bool.true_and, Bool.or_true, Bool.true_or, Bool.or_false, Bool.false_or, Bool.not_false, Bool.not_true, ↓reduceIte, Nat.reduceBEq, Nat.reduceEqDiff, beq_self_eq_true, true_and, and_true, eq_self_iff_true, Nat.reduceAdd, Nat.blt, Nat.ble, z_le, z_lt, z_eq, z_cl, z_add, z_sub, z_mul, z_in, z_lt0, z_ofN, z_m1, z_ltm1, z_m1lt, z_eqm1, z_m1eq, z_m1le, z_lem1, z_beq, nI_0_1, nI_m1lt0, nI_0lem1, not_false_eq_true, not_true_eq_false, forall_const, false_implies, true_implies, implies_true, false_and, and_false, mrg, renc, tra, trv, sg, List.map_cons, List.map_nil, Option.map_some, Option.map_none, Option.toList_some, Option.toList_none, List.cons_append, List.nil_append, List.length_cons, List.length_nil, gH, gO]
  refine CAL.dir hst (by omega) (Nat.zero_le _) (Nat.zero_le _) (Nat.le_of_ble_eq_true rfl) (by rw [ggn]; exact Nat.le_of_ble_eq_true rfl) rfl rfl ?_
  rintro _ _ ⟨rfl, rfl⟩
  have hM : rpM (dK p) (dL p) (dN p) (upd gse (256 * 0) (nI 0)) (upd gsz 0 (nI 1)) 0 1 := rpM_1 hw upd_s upd_s
  generalize upd gse (256 * 0) (nI 0) = gse at *
  generalize upd gsz 0 (nI 1) = gsz at *
  by_cases e : n = 0
  · subst e
    have hme := g_mayEnd gal gps gst grf gmy gkd glf grt gpr gun gow gem ged gse gsz gtx gtl gsp gmd gop gom gwt gwm gtn gon gsh gtr gbl gbd gwh gfl gfd gfe 0 (dN p) 0 1 (dK p) (dL p) hw hL (by decide) hM
    simp (disch := first | exact rfl | decide | omega) only [u_134_0, u_134_1, u_134_2, u_134_5, u_134_6, u_134_7, u_134_10, u_134_11, u_134_14, u_134_15, u_134_16, u_134_19, u_134_22, u_134_23, u_134_26, u_134_27, u_134_28, u_134_29, u_134_30, u_134_31, u_134_33, u_134_34, u_134_37, u_134_38, u_134_39, u_134_40, u_134_42, u_134_45, u_134_46, u_134_49, u_134_51, u_134_52, u_134_53, u_134_54, u_134_55, u_134_56, u_134_57, u_134_60, u_134_62, u_134_63, u_134_65, u_134_68, u_134_71, u_134_74, u_134_75, u_134_77, u_134_78, u_134_81, u_134_83, u_134_84, u_134_86, u_134_87, u_134_88, u_134_91, u_134_94, u_134_96, u_134_97, u_134_98, u_134_99, u_134_102, u_134_103, u_134_104, u_134_105, u_134_108, u_134_111, u_134_112, u_134_115, u_134_116, u_134_117, u_134_118, u_134_121, u_134_124, u_134_125, u_134_128, u_134_130, u_134_131, u_134_132, u_134_135, u_134_136, wp_stop, lget, lput1, lput2, kil, hget, hset, vget, vset, fget, fgetC, fput, fputC, iget, igetC, jget, jgetC, qget, qgetC, alen, lenC, oI, oJ, oF, oA, oV, oH, oInc, oIld, oJld, oQld, oR, oLen, oIst, oBst, oJst, oQst, ciOf, rcv, oCp, cat1, cond_true, cond_false, Bool.and_self, Bool.and_true, Bool.true_and, Bool.or_true, Bool.true_or, Bool.or_false, Bool.false_or, Bool.not_false, Bool.not_true, ↓reduceIte, Nat.reduceBEq, Nat.reduceEqDiff, beq_self_eq_true, true_and, and_true, eq_self_iff_true, Nat.reduceAdd, Nat.blt, Nat.ble, z_le, z_lt, z_eq, z_cl, z_add, z_sub, z_mul, z_in, z_lt0, z_ofN, z_m1, z_ltm1, z_m1lt, z_eqm1, z_m1eq, z_m1le, z_lem1, z_beq, nI_0_1, nI_m1lt0, nI_0lem1, not_false_eq_true, not_true_eq_false, forall_const, false_implies, true_implies, implies_true, false_and, and_false, mrg, renc, tra, trv, sg, List.map_cons, List.map_nil, Option.map_some, Option.map_none, Option.toList_some, Option.toList_none, List.cons_append, List.nil_append, List.length_cons, List.length_nil, gH, gO]
    refine CAL.dir hme (by omega) (Nat.zero_le _) (Nat.zero_le _) (Nat.le_of_ble_eq_true rfl) (by rw [ggn]; exact Nat.le_of_ble_eq_true rfl) rfl rfl ?_
    rintro _ _ ⟨rfl, ged', rfl⟩
    have hf := hret _ (gHx_i gal gps gst grf gmy gkd glf grt gpr gun gow gem ged' gse gsz gtx gtl gsp gmd gop gom gwt gwm gtn gon gsh gtr gbl gbd gwh gfl gfd gfe)
    clear hret
    have ec : cR (dG p) (dT p) 0 1 = if (trM (tP (dK p) (dL p) (dN p)) 1).testBit 8 = true then 1 else 0 := rfl
    rw [ec] at hf
    cases hb : (trM (tP (dK p) (dL p) (dN p)) 1).testBit 8
    · rw [hb] at hf
      have hf2 : RET G (some (.int (nI 0))) (gH gal gps gst grf gmy gkd glf grt gpr gun gow gem ged' gse gsz gtx gtl gsp gmd gop gom gwt gwm gtn gon gsh gtr gbl gbd gwh gfl gfd gfe) 0 0 := hf
      simp (disch := first | exact rfl | decide | omega) only [u_134_0, u_134_1, u_134_2, u_134_5, u_134_6, u_134_7, u_134_10, u_134_11, u_134_14, u_134_15, u_134_16, u_134_19, u_134_22, u_134_23, u_134_26, u_134_27, u_134_28, u_134_29, u_134_30, u_134_31, u_134_33, u_134_34, u_134_37, u_134_38, u_134_39, u_134_40, u_134_42, u_134_45, u_134_46, u_134_49, u_134_51, u_134_52, u_134_53, u_134_54, u_134_55, u_134_56, u_134_57, u_134_60, u_134_62, u_134_63, u_134_65, u_134_68, u_134_71, u_134_74, u_134_75, u_134_77, u_134_78, u_134_81, u_134_83, u_134_84, u_134_86, u_134_87, u_134_88, u_134_91, u_134_94, u_134_96, u_134_97, u_134_98, u_134_99, u_134_102, u_134_103, u_134_104, u_134_105, u_134_108, u_134_111, u_134_112, u_134_115, u_134_116, u_134_117, u_134_118, u_134_121, u_134_124, u_134_125, u_134_128, u_134_130, u_134_131, u_134_132, u_134_135, u_134_136, wp_stop, lget, lput1, lput2, kil, hget, hset, vget, vset, fget, fgetC, fput, fputC, iget, igetC, jget, jgetC, qget, qgetC, alen, lenC, oI, oJ, oF, oA, oV, oH, oInc, oIld, oJld, oQld, oR, oLen, oIst, oBst, oJst, oQst, ciOf, rcv, oCp, cat1, cond_true, cond_false, Bool.and_self, Bool.and_true, Bool.true_and, Bool.or_true, Bool.true_or, Bool.or_false, Bool.false_or, Bool.not_false, Bool.not_true, ↓reduceIte, Nat.reduceBEq, Nat.reduceEqDiff, beq_self_eq_true, true_and, and_true, eq_self_iff_true, Nat.reduceAdd, Nat.blt, Nat.ble, z_le, z_lt, z_eq, z_cl, z_add, z_sub, z_mul, z_in, z_lt0, z_ofN, z_m1, z_ltm1, z_m1lt, z_eqm1, z_m1eq, z_m1le, z_lem1, z_beq, nI_0_1, nI_m1lt0, nI_0lem1, not_false_eq_true, not_true_eq_false, forall_const, false_implies, true_implies, implies_true, false_and, and_false, mrg, renc, tra, trv, sg, List.map_cons, List.map_nil, Option.map_some, Option.map_none, Option.toList_some, Option.toList_none, List.cons_append, List.nil_append, List.length_cons, List.length_nil, gH, gO, bNf]
      exact hf2
    · rw [hb] at hf
      have hf2 : RET G (some (.int (nI 1))) (gH gal gps gst grf gmy gkd glf grt gpr gun gow gem ged' gse gsz gtx gtl gsp gmd gop gom gwt gwm gtn gon gsh gtr gbl gbd gwh gfl gfd gfe) 0 0 := hf
      simp (disch := first | exact rfl | decide | omega) only [u_134_0, u_134_1, u_134_2, u_134_5, u_134_6, u_134_7, u_134_10, u_134_11, u_134_14, u_134_15, u_134_16, u_134_19, u_134_22, u_134_23, u_134_26, u_134_27, u_134_28, u_134_29, u_134_30, u_134_31, u_134_33, u_134_34, u_134_37, u_134_38, u_134_39, u_134_40, u_134_42, u_134_45, u_134_46, u_134_49, u_134_51, u_134_52, u_134_53, u_134_54, u_134_55, u_134_56, u_134_57, u_134_60, u_134_62, u_134_63, u_134_65, u_134_68, u_134_71, u_134_74, u_134_75, u_134_77, u_134_78, u_134_81, u_134_83, u_134_84, u_134_86, u_134_87, u_134_88, u_134_91, u_134_94, u_134_96, u_134_97, u_134_98, u_134_99, u_134_102, u_134_103, u_134_104, u_134_105, u_134_108, u_134_111, u_134_112, u_134_115, u_134_116, u_134_117, u_134_118, u_134_121, u_134_124, u_134_125, u_134_128, u_134_130, u_134_131, u_134_132, u_134_135, u_134_136, wp_stop, lget, lput1, lput2, kil, hget, hset, vget, vset, fget, fgetC, fput, fputC, iget, igetC, jget, jgetC, qget, qgetC, alen, lenC, oI, oJ, oF, oA, oV, oH, oInc, oIld, oJld, oQld, oR, oLen, oIst, oBst, oJst, oQst, ciOf, rcv, oCp, cat1, cond_true, cond_false, Bool.and_self, Bool.and_true, Bool.true_and, Bool.or_true, Bool.true_or, Bool.or_false, Bool.false_or, Bool.not_false, Bool.not_true, ↓reduceIte, Nat.reduceBEq, Nat.reduceEqDiff, beq_self_eq_true, true_and, and_true, eq_self_iff_true, Nat.reduceAdd, Nat.blt, Nat.ble, z_le, z_lt, z_eq, z_cl, z_add, z_sub, z_mul, z_in, z_lt0, z_ofN, z_m1, z_ltm1, z_m1lt, z_eqm1, z_m1eq, z_m1le, z_lem1, z_beq, nI_0_1, nI_m1lt0, nI_0lem1, not_false_eq_true, not_true_eq_false, forall_const, false_implies, true_implies, implies_true, false_and, and_false, mrg, renc, tra, trv, sg, List.map_cons, List.map_nil, Option.map_some, Option.map_none, Option.toList_some, Option.toList_none, List.cons_append, List.nil_append, List.length_cons, List.length_nil, gH, gO, bNt, n10]
      exact hf2
  · obtain ⟨k, rfl⟩ : ∃ k, n = k + 1 := ⟨n - 1, by omega⟩
    have hgo := l_rows gal gps gst grf gmy gkd glf grt gpr gun gow gem gtx gtl gsp gmd gop gom gwt gwm gtn gon gsh gbl gbd gwh gfl gfd gfe (dN p) x (k + 1) (dK p) (dL p) hw hL hn6 hd4 ggn k 0 (-1) (fun _ => 0) (fun _ => 0) 1 (by omega) (by decide) 8 0 0 ged gse gsz (upd gtr 0 (-1)) (by omega) (fun l hl => absurd hl (Nat.not_lt_zero l)) hM (by rw [upd_s]; decide) (fun ged gse gsz gtr _ => by
      have hf := hret _ (gHx_i gal gps gst grf gmy gkd glf grt gpr gun gow gem ged gse gsz gtx gtl gsp gmd gop gom gwt gwm gtn gon gsh gtr gbl gbd gwh gfl gfd gfe)
      have ec : 0 + ((List.range' 0 8).map (cRF (gmP (dK p) (dL p) (dN p)) (tP (dK p) (dL p) (dN p)) k 1)).sum = cR (dG p) (dT p) (k + 1) 1 := by
        rw [Nat.zero_add, ← List.range_eq_range']
        rfl
      rw [ec]
      generalize cR (dG p) (dT p) (k + 1) 1 = v at *
      refine wq_aw (S := fun x => x == 40) (by decide) (f := 200) ?_
      simp (disch := first | exact rfl | decide | omega) only [v_134_40, u_134_0, u_134_1, u_134_2, u_134_5, u_134_6, u_134_7, u_134_10, u_134_11, u_134_14, u_134_15, u_134_16, u_134_19, u_134_22, u_134_23, u_134_26, u_134_27, u_134_28, u_134_29, u_134_30, u_134_31, u_134_33, u_134_34, u_134_37, u_134_38, u_134_39, u_134_40, u_134_42, u_134_45, u_134_46, u_134_49, u_134_51, u_134_52, u_134_53, u_134_54, u_134_55, u_134_56, u_134_57, u_134_60, u_134_62, u_134_63, u_134_65, u_134_68, u_134_71, u_134_74, u_134_75, u_134_77, u_134_78, u_134_81, u_134_83, u_134_84, u_134_86, u_134_87, u_134_88, u_134_91, u_134_94, u_134_96, u_134_97, u_134_98, u_134_99, u_134_102, u_134_103, u_134_104, u_134_105, u_134_108, u_134_111, u_134_112, u_134_115, u_134_116, u_134_117, u_134_118, u_134_121, u_134_124, u_134_125, u_134_128, u_134_130, u_134_131, u_134_132, u_134_135, u_134_136, wp_stop, lget, lput1, lput2, kil, hget, hset, vget, vset, fget, fgetC, fput, fputC, iget, igetC, jget, jgetC, qget, qgetC, alen, lenC, oI, oJ, oF, oA, oV, oH, oInc, oIld, oJld, oQld, oR, oLen, oIst, oBst, oJst, oQst, ciOf, rcv, oCp, cat1, cond_true, cond_false, Bool.and_self, Bool.and_true, Bool.true_and, Bool.or_true, Bool.true_or, Bool.or_false, Bool.false_or, Bool.not_false, Bool.not_true, ↓reduceIte, Nat.reduceBEq, Nat.reduceEqDiff, beq_self_eq_true, true_and, and_true, eq_self_iff_true, Nat.reduceAdd, Nat.blt, Nat.ble, z_le, z_lt, z_eq, z_cl, z_add, z_sub, z_mul, z_in, z_lt0, z_ofN, z_m1, z_ltm1, z_m1lt, z_eqm1, z_m1eq, z_m1le, z_lem1, z_beq, nI_0_1, nI_m1lt0, nI_0lem1, not_false_eq_true, not_true_eq_false, forall_const, false_implies, true_implies, implies_true, false_and, and_false, mrg, renc, tra, trv, sg, List.map_cons, List.map_nil, Option.map_some, Option.map_none, Option.toList_some, Option.toList_none, List.cons_append, List.nil_append, List.length_cons, List.length_nil, gH, gO, show (-1 : Int32) < 0 by decide]
      exact hf)
    clear hret
    simp (disch := first | exact rfl | decide | omega) only [u_134_0, u_134_1, u_134_2, u_134_5, u_134_6, u_134_7, u_134_10, u_134_11, u_134_14, u_134_15, u_134_16, u_134_19, u_134_22, u_134_23, u_134_26, u_134_27, u_134_28, u_134_29, u_134_30, u_134_31, u_134_33, u_134_34, u_134_37, u_134_38, u_134_39, u_134_40, u_134_42, u_134_45, u_134_46, u_134_49, u_134_51, u_134_52, u_134_53, u_134_54, u_134_55, u_134_56, u_134_57, u_134_60, u_134_62, u_134_63, u_134_65, u_134_68, u_134_71, u_134_74, u_134_75, u_134_77, u_134_78, u_134_81, u_134_83, u_134_84, u_134_86, u_134_87, u_134_88, u_134_91, u_134_94, u_134_96, u_134_97, u_134_98, u_134_99, u_134_102, u_134_103, u_134_104, u_134_105, u_134_108, u_134_111, u_134_112, u_134_115, u_134_116, u_134_117, u_134_118, u_134_121, u_134_124, u_134_125, u_134_128, u_134_130, u_134_131, u_134_132, u_134_135, u_134_136, wp_stop, lget, lput1, lput2, kil, hget, hset, vget, vset, fget, fgetC, fput, fputC, iget, igetC, jget, jgetC, qget, qgetC, alen, lenC, oI, oJ, oF, oA, oV, oH, oInc, oIld, oJld, oQld, oR, oLen, oIst, oBst, oJst, oQst, ciOf, rcv, oCp, cat1, cond_true, cond_false, Bool.and_self, Bool.and_true, Bool.true_and, Bool.or_true, Bool.true_or, Bool.or_false, Bool.false_or, Bool.not_false, Bool.not_true, ↓reduceIte, Nat.reduceBEq, Nat.reduceEqDiff, beq_self_eq_true, true_and, and_true, eq_self_iff_true, Nat.reduceAdd, Nat.blt, Nat.ble, z_le, z_lt, z_eq, z_cl, z_add, z_sub, z_mul, z_in, z_lt0, z_ofN, z_m1, z_ltm1, z_m1lt, z_eqm1, z_m1eq, z_m1le, z_lem1, z_beq, nI_0_1, nI_m1lt0, nI_0lem1, not_false_eq_true, not_true_eq_false, forall_const, false_implies, true_implies, implies_true, false_and, and_false, mrg, renc, tra, trv, sg, List.map_cons, List.map_nil, Option.map_some, Option.map_none, Option.toList_some, Option.toList_none, List.cons_append, List.nil_append, List.length_cons, List.length_nil, gH, gO, e]
    exact hgo
end GM
