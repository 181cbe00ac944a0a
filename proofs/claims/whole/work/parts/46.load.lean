/-! Machine.load -/
def okCB (n : Nat) (mv : Nat → Bool) : aC → Bool
  | .inl (_, _, .inr (.inr (.inr (.inr _)))) => false
  | .inl _ => true
  | .inr (_, fs) => okS n mv fs
theorem okCB_ok {n : Nat} {mv : Nat → Bool} : ∀ {c : aC}, okCB n mv c = true → okC n mv c
  | .inl (_, _, .inr (.inr (.inr (.inr _)))), q => by simp [okCB] at q
  | .inl (_, _, .inl _), _ => trivial
  | .inl (_, _, .inr (.inl _)), _ => trivial
  | .inl (_, _, .inr (.inr (.inl _))), _ => trivial
  | .inl (_, _, .inr (.inr (.inr (.inl _)))), _ => trivial
  | .inr (_, _), q => q
/-- all cells but those of a list keep to the names that stay -/
def okHJ (n : Nat) (mv : Nat → Bool) (js : List Nat) : Nat → aH → Bool
  | _, [] => true
  | i, c :: h => (js.contains i || okCB n mv c) && okHJ n mv js (i + 1) h
theorem okHJ_ok {n : Nat} {mv : Nat → Bool} {js : List Nat} : ∀ {h : aH} {i : Nat}, okHJ n mv js i h = true → ∀ j c, hget h j = some c → i + j ∉ js → okC n mv c
  | [], _, _, j, c, q, _ => by simp [hget] at q
  | b :: h, i, w, 0, c, q, hj => by
    simp only [hget, Option.some.injEq] at q
    subst q
    simp only [okHJ, Bool.and_eq_true, Bool.or_eq_true] at w
    rcases w.1 with z | z
    · exact absurd (List.contains_iff_mem.mp z) hj
    · exact okCB_ok z
  | b :: h, i, w, j + 1, c, q, hj => by
    simp only [okHJ, Bool.and_eq_true] at w
    exact okHJ_ok (h := h) (i := i + 1) w.2 j c q (by rw [show i + 1 + j = i + (j + 1) by omega]; exact hj)
theorem okHJ_0 {h : aH} {mv : Nat → Bool} {js : List Nat} {n : Nat} (w : okHJ n mv js 0 h = true) : ∀ j c, hget h j = some c → j ∉ js → okC n mv c := fun j c q hj => okHJ_ok w j c q (by rw [Nat.zero_add]; exact hj)
/-- words for S places -/
def wdN (S : Nat) : Nat := max 1 (min 4 ((S + 63) / 64))
theorem wdN_ok {S : Nat} (h : S ≤ 256) : 1 ≤ wdN S ∧ wdN S ≤ 4 ∧ S ≤ 64 * wdN S := by
  unfold wdN
  omega
theorem shr6 {t : Nat} (h : t < 2 ^ 31) : nI t >>> (nI 6 &&& 31) = nI (t / 64) := pk_shrN h _ 6 (by decide)
theorem wdN_i {S : Nat} (h : S ≤ 256) : (if nI 1 < (if 4 ≤ (S + 63) / 64 then nI 4 else nI ((S + 63) / 64)) then (if 4 ≤ (S + 63) / 64 then nI 4 else nI ((S + 63) / 64)) else nI 1) = nI (wdN S) := by
  have h1 : (if 4 ≤ (S + 63) / 64 then nI 4 else nI ((S + 63) / 64)) = nI (min 4 ((S + 63) / 64)) := by
    by_cases q : 4 ≤ (S + 63) / 64
    · rw [if_pos q, Nat.min_eq_left q]
    · rw [if_neg q, Nat.min_eq_right (by omega)]
  rw [h1]
  unfold wdN
  by_cases q : 1 < min 4 ((S + 63) / 64)
  · rw [if_pos ((z_lt (by omega) (by omega)).mpr q), Nat.max_eq_right (by omega)]
  · rw [if_neg (fun z => q ((z_lt (by omega) (by omega)).mp z)), Nat.max_eq_left (by omega)]
theorem plG_of {K lf : Nat → Nat} {n nm N : Nat} {tr mo ms me : Nat → Int32} (hw : wfP K lf n) (h : ∀ q, q < psp K lf (n - 1) → tr q = if pal K lf (n - 1) q = true then nI 256 else nI 0) (hI : fmI K lf n nm tr (psp K lf (n - 1)) mo ms me) (hG : fmG K lf n nm tr (psp K lf (n - 1))) (hN : psp K lf (n - 1) ≤ N) (hN2 : N < 2 ^ 20) : plG (psp K lf (n - 1)) N (nmF K lf n nm) mo ms me (gmP K lf n) ∧ ∀ t, t < psp K lf (n - 1) → (fmS K lf n nm tr (psp K lf (n - 1))).2.2 t = nI (tP K lf n t) := by
  have hn := hw.1
  obtain ⟨h1, h2⟩ := fmS_v (nm := nm) hw h (psp K lf (n - 1)) (Nat.le_refl _)
  have e := (fmS_nm K lf n nm tr (fun _ => 0) (psp K lf (n - 1))).2
  refine ⟨⟨wf_sp hw (by omega), hN, hN2, by unfold nmF; rw [← e]; exact hG.2.2, fun p hp => ?_⟩, fun t ht => ?_⟩
  · obtain ⟨a1, a2, a3⟩ := hI p hp
    rw [h2 p hp] at a3
    have e2 : (fmS K lf n nm tr (p + 1)).1 = (fmS K lf n nm tr p).1 + (gmP K lf n p).length := by
      rw [fmS_s, ← h2 p hp]
    rw [e2] at a2
    refine ⟨_, a1, a2, ?_, a3, fun m hm => ?_⟩
    · have := fmS_off hw nm tr (psp K lf (n - 1) - (p + 1)) (p + 1)
      rw [show p + 1 + (psp K lf (n - 1) - (p + 1)) = psp K lf (n - 1) by omega] at this
      unfold nmF
      rw [← e, ← e2]
      exact Nat.le_trans this hG.1
    · have hm2 := ((gtP_s K lf (n - 1) p).2.1 m).mp hm
      exact (pmv_ok hw (n - 1) (by omega) p hp m hm2).2.2
  · have := (h1 t ht).1
    simp only [if_pos ht] at this
    exact this
def ldC (S N nm nm' nt nse : Nat) : Nat := (if N < S then 3 else 0) + (nm' - nm) + rmC 0 nt nse (wdN S)
def ldS (S N nm nm' nt nse : Nat) : Nat := (if N < S then 3 * S else 0) + 2 * (nm' - nm) + rmS 0 nt nse (wdN S)
theorem rep1 {T : Nat → Nat} {fo : Nat → Int64} {ft : Int32} (h0 : fo 0 = lN 1) (h : ∀ j, 0 < j → j < 4 → fo j = lN 0) (hf : ft = nI (T 0)) : repS (fo, ft) 1 (trM T 1) := by
  refine ⟨fun j hj => ?_, ?_⟩
  · show fo j = _
    by_cases q : j = 0
    · subst q
      exact h0
    · rw [h j (by omega) hj]
      unfold wdM
      rw [Nat.div_eq_of_lt (Nat.one_lt_two_pow (by omega))]
  · show ft = _
    rw [hf]
    congr 1
    unfold trM
    rw [show bitsOf 256 1 = [0] by decide +kernel]
    simp
section LD
variable (K lf : Nat → Nat) (n : Nat) (root places sorts mc lv : Int32) (kd sa la sp sh : Nat → Int32) (N : Nat) (ptr : Nat → Int32) (nm : Nat) (mo ms me : Nat → Int32)
variable (pat : Int64) (words known ft counted : Int32) (nse : Nat) (se : Nat → Int64) (nt : Nat) (nx tr ol nw : Nat → Int32) (fo : Nat → Int64) (co : Nat → Int32)
/-- the cells of a machine that has a pattern's plan -/
def ldP (wanted : Int64) (h' : aH) : Prop := ∃ mc lv kd sa la sp sh ptr mo ms me ft se nx tr ol nw fo, h' = mA (nI (n - 1)) (psp K lf (n - 1)) (soB K n) mc lv kd sa la sp sh (max N (psp K lf (n - 1))) ptr (nmF K lf n nm) mo ms me wanted (wdN (psp K lf (n - 1))) (-1) co (stA (wdN (psp K lf (n - 1))) ([], nt, nse) 1) ft se nx tr ol nw fo ∧ plG (psp K lf (n - 1)) (max N (psp K lf (n - 1))) (nmF K lf n nm) mo ms me (gmP K lf n) ∧ (∀ t, t < psp K lf (n - 1) → ptr t = nI (tP K lf n t)) ∧ gdN K lf n sa la sp sh ∧ mcI (psp K lf (n - 1)) (wdN (psp K lf (n - 1))) (gmP K lf n) (tP K lf n) (stA (wdN (psp K lf (n - 1))) ([], nt, nse) 1) se nx tr ol nw
set_option maxRecDepth 100000 in
theorem c_load (d : Nat) (hw : wfP K lf n) (wanted : Int64) (he : encP wanted K n) (hne : ¬ pat = wanted) (hN : N ≤ 256) (hnm : 0 < nm) (hnm2 : nm < 2 ^ 21) (hnt : pw2 nt) (hnse : pw3 nse) (hnt2 : nt ≤ 2 ^ 14) (hnse2 : nse ≤ 2 ^ 16) (CC SS : Nat) (hCC : ldC (psp K lf (n - 1)) N nm (nmF K lf n nm) nt nse ≤ CC) (hSS0 : ldS (psp K lf (n - 1)) N nm (nmF K lf n nm) nt nse ≤ SS) :
    aSp (d + 49) 9 [.ref 0, .long wanted] (mH (root, places, sorts, mc, lv, kd, sa, la, sp, sh, N, ptr, nm, mo, N, ms, N, me) (pat, words, known, ft, counted, nse, se, 8 * nt, nx, nt, tr, nt, ol, nw, fo, co)) mvM CC SS
      (fun r h' => r = none ∧ ldP K lf n N nm nse nt co wanted h') := by
  have hn := hw.1
  have hS := wf_sp hw (show n - 1 < n by omega)
  have hS1 := psp_pos K lf (n - 1)
  obtain ⟨w1, w4, wS⟩ := wdN_ok hS
  have hnt1 : 8 ≤ nt := by
    obtain ⟨j, q⟩ := hnt
    have := Nat.two_pow_pos j
    omega
  refine sp_of (by decide) (Nat.le_of_ble_eq_true rfl) ?_
  generalize hG : ((d + 49, _, mvM, _, _, _) : aG) = G
  have ggd : gD G = d + 49 := by subst hG; rfl
  have ggn : gN G = 18 := by subst hG; rfl
  have ggm : gM G = mvM := by subst hG; rfl
  have ggc : gC G = CC := by subst hG; rfl
  have ggs : gS G = SS := by subst hG; rfl
  have hret : ∀ h' k0 n0, ldP K lf n N nm nse nt co wanted h' → k0 ≤ gC G → n0 ≤ gS G → RET G none h' k0 n0 := by
    subst hG
    exact fun h' k0 n0 q1 q2 q3 => RET.id ⟨rfl, q1⟩ q2 q3
  clear hG
  have hcmp : ¬ lg_cmp pat wanted = nI 0 := fun z => hne (lcmp_0.mp z)
  have hmvs : ∀ j, mvM j = false → mvs mvP [1, 2, 3, 4, 5, 6, 7, 8, 9, 10] 0 j = false := by
    intro j h
    simp only [mvM, Bool.or_eq_false_iff, beq_eq_false_iff_ne] at h
    simp only [mvs, mvP]
    simp [h, Ne.symm]
  refine wp_aw (S := fun _ => false) (by decide) 200 _ _ _ _ _ _ ?_
  simp (disch := first | exact rfl | decide | omega) only [u_9_0, u_9_1, u_9_4, u_9_5, u_9_6, u_9_9, u_9_10, u_9_11, u_9_12, u_9_15, u_9_16, u_9_19, u_9_20, u_9_23, u_9_24, u_9_27, u_9_30, u_9_31, u_9_34, u_9_37, u_9_38, u_9_39, u_9_40, u_9_41, u_9_44, u_9_47, u_9_49, u_9_50, u_9_52, u_9_53, u_9_56, u_9_59, u_9_62, u_9_63, u_9_64, u_9_67, u_9_68, u_9_69, u_9_72, u_9_73, u_9_76, u_9_77, u_9_80, u_9_81, u_9_84, u_9_85, u_9_88, u_9_89, u_9_92, u_9_93, u_9_94, u_9_95, u_9_96, u_9_97, u_9_100, u_9_103, u_9_104, u_9_105, u_9_108, u_9_109, u_9_112, u_9_113, wp_stop, lget, lput1, lput2, kil, hget, hset, vget, vset, fget, fgetC, fput, fputC, iget, igetC, jget, jgetC, qget, qgetC, alen, lenC, oI, oJ, oF, oA, oV, oH, oInc, oIld, oJld, oQld, oR, oLen, oIst, oBst, oJst, oQst, ciOf, rcv, oCp, cat1, cond_true, cond_false, Bool.and_self, Bool.and_true, Bool.true_and, Bool.or_true, Bool.true_or, Bool.or_false, Bool.false_or, Bool.not_false, Bool.not_true, ↓reduceIte, Nat.reduceBEq, Nat.reduceEqDiff, beq_self_eq_true, true_and, and_true, eq_self_iff_true, Nat.reduceAdd, Nat.blt, Nat.ble, z_le, z_lt, z_eq, z_cl, z_add, z_sub, z_mul, z_in, z_lt0, z_ofN, z_m1, z_ltm1, z_m1lt, z_eqm1, z_m1eq, z_m1le, z_lem1, z_beq, nI_0_1, nI_m1lt0, nI_0lem1, not_false_eq_true, not_true_eq_false, forall_const, false_implies, true_implies, implies_true, false_and, and_false, mrg, renc, tra, trv, sg, List.map_cons, List.map_nil, Option.map_some, Option.map_none, Option.toList_some, Option.toList_none, List.cons_append, List.nil_append, List.length_cons, List.length_nil, eL, mL_9, mH, mO, mPO, MS.pat, MS.words, MS.known, MS.ft, MS.counted, MS.nse, MS.se, MS.nnx, MS.nx, MS.ntr, MS.tr, MS.nol, MS.ol, MS.nw, MS.fo, MS.co, PS.root, PS.places, PS.sorts, PS.mc, PS.lv, PS.kd, PS.sa, PS.la, PS.sp, PS.sh, PS.nt, PS.tr, PS.nm, PS.mo, PS.ns, PS.ms, PS.ne, PS.me, hcmp]
  refine CAL.nm (c_findNodes d K lf n hw wanted he root places sorts mc lv kd sa la sp sh N ptr nm mo N ms N me) [1, 2, 3, 4, 5, 6, 7, 8, 9, 10] rfl rfl rfl (by decide) rfl ?_ (by rw [ggd]; omega) (by rw [ggc]; omega) (by rw [ggs]; omega) (Nat.le_of_ble_eq_true rfl) (by rw [ggn]; exact Nat.le_of_ble_eq_true rfl) rfl rfl ?_
  · rintro r hc' ⟨-, a, b, c, e, f, rfl, -⟩
    exact Nat.le_of_ble_eq_true rfl
  rintro _ _ ⟨rfl, kd1, sa1, la1, sp1, sh1, rfl, hk1, hg1⟩
  unfold ldC at hCC
  unfold ldS at hSS0
  generalize hcp : (if N < psp K lf (n - 1) then 3 else 0) = cp at hCC
  generalize hsp : (if N < psp K lf (n - 1) then 3 * psp K lf (n - 1) else 0) = spc at hSS0
  have hfp := c_findPlaces d K lf n hw places (soB K n) mc lv kd1 sa1 la1 sp1 sh1 hk1 hg1 N hN ptr nm mo ms me
  rw [hcp, hsp] at hfp
  simp (disch := first | exact rfl | decide | omega) only [u_9_0, u_9_1, u_9_4, u_9_5, u_9_6, u_9_9, u_9_10, u_9_11, u_9_12, u_9_15, u_9_16, u_9_19, u_9_20, u_9_23, u_9_24, u_9_27, u_9_30, u_9_31, u_9_34, u_9_37, u_9_38, u_9_39, u_9_40, u_9_41, u_9_44, u_9_47, u_9_49, u_9_50, u_9_52, u_9_53, u_9_56, u_9_59, u_9_62, u_9_63, u_9_64, u_9_67, u_9_68, u_9_69, u_9_72, u_9_73, u_9_76, u_9_77, u_9_80, u_9_81, u_9_84, u_9_85, u_9_88, u_9_89, u_9_92, u_9_93, u_9_94, u_9_95, u_9_96, u_9_97, u_9_100, u_9_103, u_9_104, u_9_105, u_9_108, u_9_109, u_9_112, u_9_113, wp_stop, lget, lput1, lput2, kil, hget, hset, vget, vset, fget, fgetC, fput, fputC, iget, igetC, jget, jgetC, qget, qgetC, alen, lenC, oI, oJ, oF, oA, oV, oH, oInc, oIld, oJld, oQld, oR, oLen, oIst, oBst, oJst, oQst, ciOf, rcv, oCp, cat1, cond_true, cond_false, Bool.and_self, Bool.and_true, Bool.true_and, Bool.or_true, Bool.true_or, Bool.or_false, Bool.false_or, Bool.not_false, Bool.not_true, ↓reduceIte, Nat.reduceBEq, Nat.reduceEqDiff, beq_self_eq_true, true_and, and_true, eq_self_iff_true, Nat.reduceAdd, Nat.blt, Nat.ble, z_le, z_lt, z_eq, z_cl, z_add, z_sub, z_mul, z_in, z_lt0, z_ofN, z_m1, z_ltm1, z_m1lt, z_eqm1, z_m1eq, z_m1le, z_lem1, z_beq, nI_0_1, nI_m1lt0, nI_0lem1, not_false_eq_true, not_true_eq_false, forall_const, false_implies, true_implies, implies_true, false_and, and_false, mrg, renc, tra, trv, sg, List.map_cons, List.map_nil, Option.map_some, Option.map_none, Option.toList_some, Option.toList_none, List.cons_append, List.nil_append, List.length_cons, List.length_nil, pH, pO]
  refine CAL.mv hfp [1, 2, 3, 4, 5, 6, 7, 8, 9, 10] rfl rfl rfl (by decide) (okHJ_0 rfl) ?_ (by rw [ggd]; omega) (by rw [ggc]; omega) (by rw [ggs]; omega) (Nat.le_of_ble_eq_true rfl) (by rw [ggn]; exact Nat.le_of_ble_eq_true rfl) (fun j _ q => hmvs j (by rw [← ggm]; exact q)) rfl rfl ?_
  · rintro r hc' ⟨-, a, b, c, rfl, -⟩
    exact Nat.le_of_ble_eq_true rfl
  rintro _ _ ⟨rfl, tr1, ms1, me1, rfl, htr1⟩
  have e2 : (fmS K lf n nm tr1 (psp K lf (n - 1))).2.1 = nmF K lf n nm := (fmS_nm K lf n nm tr1 (fun _ => 0) (psp K lf (n - 1))).2
  have hmx : max N (psp K lf (n - 1)) < 2 ^ 20 := by omega
  have hmx1 : 0 < max N (psp K lf (n - 1)) := by omega
  have hfm := c_findMoves d K lf n hw (soB K n) mc lv kd1 sa1 la1 sp1 sh1 hk1 hg1 (max N (psp K lf (n - 1))) nm tr1 mo ms1 me1 (Nat.le_max_right _ _) hmx hnm hnm2
  simp only [e2] at hfm
  simp (disch := first | exact rfl | decide | omega) only [u_9_0, u_9_1, u_9_4, u_9_5, u_9_6, u_9_9, u_9_10, u_9_11, u_9_12, u_9_15, u_9_16, u_9_19, u_9_20, u_9_23, u_9_24, u_9_27, u_9_30, u_9_31, u_9_34, u_9_37, u_9_38, u_9_39, u_9_40, u_9_41, u_9_44, u_9_47, u_9_49, u_9_50, u_9_52, u_9_53, u_9_56, u_9_59, u_9_62, u_9_63, u_9_64, u_9_67, u_9_68, u_9_69, u_9_72, u_9_73, u_9_76, u_9_77, u_9_80, u_9_81, u_9_84, u_9_85, u_9_88, u_9_89, u_9_92, u_9_93, u_9_94, u_9_95, u_9_96, u_9_97, u_9_100, u_9_103, u_9_104, u_9_105, u_9_108, u_9_109, u_9_112, u_9_113, wp_stop, lget, lput1, lput2, kil, hget, hset, vget, vset, fget, fgetC, fput, fputC, iget, igetC, jget, jgetC, qget, qgetC, alen, lenC, oI, oJ, oF, oA, oV, oH, oInc, oIld, oJld, oQld, oR, oLen, oIst, oBst, oJst, oQst, ciOf, rcv, oCp, cat1, cond_true, cond_false, Bool.and_self, Bool.and_true, Bool.true_and, Bool.or_true, Bool.true_or, Bool.or_false, Bool.false_or, Bool.not_false, Bool.not_true, ↓reduceIte, Nat.reduceBEq, Nat.reduceEqDiff, beq_self_eq_true, true_and, and_true, eq_self_iff_true, Nat.reduceAdd, Nat.blt, Nat.ble, z_le, z_lt, z_eq, z_cl, z_add, z_sub, z_mul, z_in, z_lt0, z_ofN, z_m1, z_ltm1, z_m1lt, z_eqm1, z_m1eq, z_m1le, z_lem1, z_beq, nI_0_1, nI_m1lt0, nI_0lem1, not_false_eq_true, not_true_eq_false, forall_const, false_implies, true_implies, implies_true, false_and, and_false, mrg, renc, tra, trv, sg, List.map_cons, List.map_nil, Option.map_some, Option.map_none, Option.toList_some, Option.toList_none, List.cons_append, List.nil_append, List.length_cons, List.length_nil, pH, pO]
  refine CAL.mv hfm [1, 2, 3, 4, 5, 6, 7, 8, 9, 10] rfl rfl rfl (by decide) (okHJ_0 rfl) ?_ (by rw [ggd]; omega) (by rw [ggc]; omega) (by rw [ggs]; omega) (Nat.le_of_ble_eq_true rfl) (by rw [ggn]; exact Nat.le_of_ble_eq_true rfl) (fun j _ q => hmvs j (by rw [← ggm]; exact q)) rfl rfl ?_
  · rintro r hc' ⟨-, a, b, c, e, rfl, -⟩
    exact Nat.le_of_ble_eq_true rfl
  rintro _ _ ⟨rfl, lv2, mo2, ms2, me2, rfl, hI2, hG2⟩
  obtain ⟨hpl, hT⟩ := plG_of hw htr1 hI2 hG2 (Nat.le_max_right N _) hmx
  generalize (fmS K lf n nm tr1 (psp K lf (n - 1))).2.2 = ptr2 at hT ⊢
  have e3 := shr6 (t := psp K lf (n - 1) + 63) (by omega)
  generalize hSS : psp K lf (n - 1) = S at *
  simp (disch := first | exact rfl | decide | omega) only [u_9_0, u_9_1, u_9_4, u_9_5, u_9_6, u_9_9, u_9_10, u_9_11, u_9_12, u_9_15, u_9_16, u_9_19, u_9_20, u_9_23, u_9_24, u_9_27, u_9_30, u_9_31, u_9_34, u_9_37, u_9_38, u_9_39, u_9_40, u_9_41, u_9_44, u_9_47, u_9_49, u_9_50, u_9_52, u_9_53, u_9_56, u_9_59, u_9_62, u_9_63, u_9_64, u_9_67, u_9_68, u_9_69, u_9_72, u_9_73, u_9_76, u_9_77, u_9_80, u_9_81, u_9_84, u_9_85, u_9_88, u_9_89, u_9_92, u_9_93, u_9_94, u_9_95, u_9_96, u_9_97, u_9_100, u_9_103, u_9_104, u_9_105, u_9_108, u_9_109, u_9_112, u_9_113, wp_stop, lget, lput1, lput2, kil, hget, hset, vget, vset, fget, fgetC, fput, fputC, iget, igetC, jget, jgetC, qget, qgetC, alen, lenC, oI, oJ, oF, oA, oV, oH, oInc, oIld, oJld, oQld, oR, oLen, oIst, oBst, oJst, oQst, ciOf, rcv, oCp, cat1, cond_true, cond_false, Bool.and_self, Bool.and_true, Bool.true_and, Bool.or_true, Bool.true_or, Bool.or_false, Bool.false_or, Bool.not_false, Bool.not_true, ↓reduceIte, Nat.reduceBEq, Nat.reduceEqDiff, beq_self_eq_true, true_and, and_true, eq_self_iff_true, Nat.reduceAdd, Nat.blt, Nat.ble, z_le, z_lt, z_eq, z_cl, z_add, z_sub, z_mul, z_in, z_lt0, z_ofN, z_m1, z_ltm1, z_m1lt, z_eqm1, z_m1eq, z_m1le, z_lem1, z_beq, nI_0_1, nI_m1lt0, nI_0lem1, not_false_eq_true, not_true_eq_false, forall_const, false_implies, true_implies, implies_true, false_and, and_false, mrg, renc, tra, trv, sg, List.map_cons, List.map_nil, Option.map_some, Option.map_none, Option.toList_some, Option.toList_none, List.cons_append, List.nil_append, List.length_cons, List.length_nil, pH, pO, e3]
  refine CAL.dir (c_min d _ _ _) (by rw [ggd]; omega) (by rw [ggc]; omega) (by rw [ggs]; omega) (Nat.le_of_ble_eq_true rfl) (by rw [ggn]; exact Nat.le_of_ble_eq_true rfl) rfl rfl ?_
  rintro _ _ ⟨rfl, rfl⟩
  simp (disch := first | exact rfl | decide | omega) only [u_9_0, u_9_1, u_9_4, u_9_5, u_9_6, u_9_9, u_9_10, u_9_11, u_9_12, u_9_15, u_9_16, u_9_19, u_9_20, u_9_23, u_9_24, u_9_27, u_9_30, u_9_31, u_9_34, u_9_37, u_9_38, u_9_39, u_9_40, u_9_41, u_9_44, u_9_47, u_9_49, u_9_50, u_9_52, u_9_53, u_9_56, u_9_59, u_9_62, u_9_63, u_9_64, u_9_67, u_9_68, u_9_69, u_9_72, u_9_73, u_9_76, u_9_77, u_9_80, u_9_81, u_9_84, u_9_85, u_9_88, u_9_89, u_9_92, u_9_93, u_9_94, u_9_95, u_9_96, u_9_97, u_9_100, u_9_103, u_9_104, u_9_105, u_9_108, u_9_109, u_9_112, u_9_113, wp_stop, lget, lput1, lput2, kil, hget, hset, vget, vset, fget, fgetC, fput, fputC, iget, igetC, jget, jgetC, qget, qgetC, alen, lenC, oI, oJ, oF, oA, oV, oH, oInc, oIld, oJld, oQld, oR, oLen, oIst, oBst, oJst, oQst, ciOf, rcv, oCp, cat1, cond_true, cond_false, Bool.and_self, Bool.and_true, Bool.true_and, Bool.or_true, Bool.true_or, Bool.or_false, Bool.false_or, Bool.not_false, Bool.not_true, ↓reduceIte, Nat.reduceBEq, Nat.reduceEqDiff, beq_self_eq_true, true_and, and_true, eq_self_iff_true, Nat.reduceAdd, Nat.blt, Nat.ble, z_le, z_lt, z_eq, z_cl, z_add, z_sub, z_mul, z_in, z_lt0, z_ofN, z_m1, z_ltm1, z_m1lt, z_eqm1, z_m1eq, z_m1le, z_lem1, z_beq, nI_0_1, nI_m1lt0, nI_0lem1, not_false_eq_true, not_true_eq_false, forall_const, false_implies, true_implies, implies_true, false_and, and_false, mrg, renc, tra, trv, sg, List.map_cons, List.map_nil, Option.map_some, Option.map_none, Option.toList_some, Option.toList_none, List.cons_append, List.nil_append, List.length_cons, List.length_nil]
  refine CAL.dir (c_max d _ _ _) (by rw [ggd]; omega) (by rw [ggc]; omega) (by rw [ggs]; omega) (Nat.le_of_ble_eq_true rfl) (by rw [ggn]; exact Nat.le_of_ble_eq_true rfl) rfl rfl ?_
  rintro _ _ ⟨rfl, rfl⟩
  have e4 := wdN_i hS
  rw [e4]
  have hI0 : mcI S (wdN S) (gmP K lf n) (tP K lf n) ([], nt, nse) se nx tr ol (fun _ => -1) := ⟨⟨w1, w4, wS, hS⟩, ⟨Nat.zero_le _, hnt2, hnse2, by rw [List.length_nil, Nat.zero_mul]; exact Nat.zero_le _, hnt, hnse⟩, List.nodup_nil, fun m hm => absurd hm List.not_mem_nil, fun i m hi => by simp at hi, fun c _ => rfl, fun i hi => absurd hi (Nat.not_lt_zero i)⟩
  have e6 := hT 0 (by omega)
  simp (disch := first | exact rfl | decide | omega) only [u_9_0, u_9_1, u_9_4, u_9_5, u_9_6, u_9_9, u_9_10, u_9_11, u_9_12, u_9_15, u_9_16, u_9_19, u_9_20, u_9_23, u_9_24, u_9_27, u_9_30, u_9_31, u_9_34, u_9_37, u_9_38, u_9_39, u_9_40, u_9_41, u_9_44, u_9_47, u_9_49, u_9_50, u_9_52, u_9_53, u_9_56, u_9_59, u_9_62, u_9_63, u_9_64, u_9_67, u_9_68, u_9_69, u_9_72, u_9_73, u_9_76, u_9_77, u_9_80, u_9_81, u_9_84, u_9_85, u_9_88, u_9_89, u_9_92, u_9_93, u_9_94, u_9_95, u_9_96, u_9_97, u_9_100, u_9_103, u_9_104, u_9_105, u_9_108, u_9_109, u_9_112, u_9_113, wp_stop, lget, lput1, lput2, kil, hget, hset, vget, vset, fget, fgetC, fput, fputC, iget, igetC, jget, jgetC, qget, qgetC, alen, lenC, oI, oJ, oF, oA, oV, oH, oInc, oIld, oJld, oQld, oR, oLen, oIst, oBst, oJst, oQst, ciOf, rcv, oCp, cat1, cond_true, cond_false, Bool.and_self, Bool.and_true, Bool.true_and, Bool.or_true, Bool.true_or, Bool.or_false, Bool.false_or, Bool.not_false, Bool.not_true, ↓reduceIte, Nat.reduceBEq, Nat.reduceEqDiff, beq_self_eq_true, true_and, and_true, eq_self_iff_true, Nat.reduceAdd, Nat.blt, Nat.ble, z_le, z_lt, z_eq, z_cl, z_add, z_sub, z_mul, z_in, z_lt0, z_ofN, z_m1, z_ltm1, z_m1lt, z_eqm1, z_m1eq, z_m1le, z_lem1, z_beq, nI_0_1, nI_m1lt0, nI_0lem1, not_false_eq_true, not_true_eq_false, forall_const, false_implies, true_implies, implies_true, false_and, and_false, mrg, renc, tra, trv, sg, List.map_cons, List.map_nil, Option.map_some, Option.map_none, Option.toList_some, Option.toList_none, List.cons_append, List.nil_append, List.length_cons, List.length_nil, pH, pO]
  refine CAL.nm (c_fillI d (-1) 64 nw (by decide)) [15] rfl rfl rfl (by decide) rfl ?_ (by rw [ggd]; omega) (by rw [ggc]; omega) (by rw [ggs]; omega) (Nat.le_of_ble_eq_true rfl) (by rw [ggn]; exact Nat.le_of_ble_eq_true rfl) rfl rfl ?_
  · rintro r hc' ⟨-, g, rfl, -⟩
    exact Nat.le_of_ble_eq_true rfl
  rintro _ _ ⟨rfl, nw2, rfl, hnw⟩
  simp (disch := first | exact rfl | decide | omega) only [u_9_0, u_9_1, u_9_4, u_9_5, u_9_6, u_9_9, u_9_10, u_9_11, u_9_12, u_9_15, u_9_16, u_9_19, u_9_20, u_9_23, u_9_24, u_9_27, u_9_30, u_9_31, u_9_34, u_9_37, u_9_38, u_9_39, u_9_40, u_9_41, u_9_44, u_9_47, u_9_49, u_9_50, u_9_52, u_9_53, u_9_56, u_9_59, u_9_62, u_9_63, u_9_64, u_9_67, u_9_68, u_9_69, u_9_72, u_9_73, u_9_76, u_9_77, u_9_80, u_9_81, u_9_84, u_9_85, u_9_88, u_9_89, u_9_92, u_9_93, u_9_94, u_9_95, u_9_96, u_9_97, u_9_100, u_9_103, u_9_104, u_9_105, u_9_108, u_9_109, u_9_112, u_9_113, wp_stop, lget, lput1, lput2, kil, hget, hset, vget, vset, fget, fgetC, fput, fputC, iget, igetC, jget, jgetC, qget, qgetC, alen, lenC, oI, oJ, oF, oA, oV, oH, oInc, oIld, oJld, oQld, oR, oLen, oIst, oBst, oJst, oQst, ciOf, rcv, oCp, cat1, cond_true, cond_false, Bool.and_self, Bool.and_true, Bool.true_and, Bool.or_true, Bool.true_or, Bool.or_false, Bool.false_or, Bool.not_false, Bool.not_true, ↓reduceIte, Nat.reduceBEq, Nat.reduceEqDiff, beq_self_eq_true, true_and, and_true, eq_self_iff_true, Nat.reduceAdd, Nat.blt, Nat.ble, z_le, z_lt, z_eq, z_cl, z_add, z_sub, z_mul, z_in, z_lt0, z_ofN, z_m1, z_ltm1, z_m1lt, z_eqm1, z_m1eq, z_m1le, z_lem1, z_beq, nI_0_1, nI_m1lt0, nI_0lem1, not_false_eq_true, not_true_eq_false, forall_const, false_implies, true_implies, implies_true, false_and, and_false, mrg, renc, tra, trv, sg, List.map_cons, List.map_nil, Option.map_some, Option.map_none, Option.toList_some, Option.toList_none, List.cons_append, List.nil_append, List.length_cons, List.length_nil]
  refine CAL.nm (c_fillJ d (lN 0) 4 fo (by decide)) [16] rfl rfl rfl (by decide) rfl ?_ (by rw [ggd]; omega) (by rw [ggc]; omega) (by rw [ggs]; omega) (Nat.le_of_ble_eq_true rfl) (by rw [ggn]; exact Nat.le_of_ble_eq_true rfl) rfl rfl ?_
  · rintro r hc' ⟨-, g, rfl, -⟩
    exact Nat.le_of_ble_eq_true rfl
  rintro _ _ ⟨rfl, g, rfl, hg⟩
  simp (disch := first | exact rfl | decide | omega) only [u_9_0, u_9_1, u_9_4, u_9_5, u_9_6, u_9_9, u_9_10, u_9_11, u_9_12, u_9_15, u_9_16, u_9_19, u_9_20, u_9_23, u_9_24, u_9_27, u_9_30, u_9_31, u_9_34, u_9_37, u_9_38, u_9_39, u_9_40, u_9_41, u_9_44, u_9_47, u_9_49, u_9_50, u_9_52, u_9_53, u_9_56, u_9_59, u_9_62, u_9_63, u_9_64, u_9_67, u_9_68, u_9_69, u_9_72, u_9_73, u_9_76, u_9_77, u_9_80, u_9_81, u_9_84, u_9_85, u_9_88, u_9_89, u_9_92, u_9_93, u_9_94, u_9_95, u_9_96, u_9_97, u_9_100, u_9_103, u_9_104, u_9_105, u_9_108, u_9_109, u_9_112, u_9_113, wp_stop, lget, lput1, lput2, kil, hget, hset, vget, vset, fget, fgetC, fput, fputC, iget, igetC, jget, jgetC, qget, qgetC, alen, lenC, oI, oJ, oF, oA, oV, oH, oInc, oIld, oJld, oQld, oR, oLen, oIst, oBst, oJst, oQst, ciOf, rcv, oCp, cat1, cond_true, cond_false, Bool.and_self, Bool.and_true, Bool.true_and, Bool.or_true, Bool.true_or, Bool.or_false, Bool.false_or, Bool.not_false, Bool.not_true, ↓reduceIte, Nat.reduceBEq, Nat.reduceEqDiff, beq_self_eq_true, true_and, and_true, eq_self_iff_true, Nat.reduceAdd, Nat.blt, Nat.ble, z_le, z_lt, z_eq, z_cl, z_add, z_sub, z_mul, z_in, z_lt0, z_ofN, z_m1, z_ltm1, z_m1lt, z_eqm1, z_m1eq, z_m1le, z_lem1, z_beq, nI_0_1, nI_m1lt0, nI_0lem1, not_false_eq_true, not_true_eq_false, forall_const, false_implies, true_implies, implies_true, false_and, and_false, mrg, renc, tra, trv, sg, List.map_cons, List.map_nil, Option.map_some, Option.map_none, Option.toList_some, Option.toList_none, List.cons_append, List.nil_append, List.length_cons, List.length_nil, e6]
  have hch : chI (wdN S) 0 se ol nw2 := ⟨fun c hc => hnw c hc, fun i hi => absurd hi (Nat.not_lt_zero i)⟩
  have hfo : ∀ j, 0 < j → j < 4 → vp_updL g 0 (lN 1) j = lN 0 := fun j h1 h2 => by rw [updL_n (by omega), hg j h2]
  have hI1 : mcI S (wdN S) (gmP K lf n) (tP K lf n) ([], nt, nse) se nx tr ol nw2 := ⟨hI0.1, hI0.2.1, hI0.2.2.1, hI0.2.2.2.1, hI0.2.2.2.2.1, hch⟩
  refine CAL.dirM (c_foundN wanted (wdN S) 0 (nI (tP K lf n 0)) (-1) nse se nt nx tr ol nw2 (vp_updL g 0 (lN 1)) co d (nI (n - 1), nI S, soB K n, nI (fmS K lf n nm tr1 S).1, lv2, kd1, sa1, la1, sp1, sh1, max N S, ptr2, nmF K lf n nm, mo2, max N S, ms2, max N S, me2) (fun s hs => absurd hs (Nat.not_lt_zero s)) w1 w4 (by omega) (by omega) (by omega) (by omega) (by omega) (by rw [Nat.zero_mul]; exact Nat.zero_le _) hch) (by rw [ggd]; omega) (by rw [ggc]; omega) (by rw [ggs]; omega) (Nat.le_of_ble_eq_true rfl) (by rw [ggn]; exact Nat.le_of_ble_eq_true rfl) (fun j _ q => by rw [← ggm]; exact q) rfl rfl ?_
  rintro _ _ ⟨rfl, se3, nx3, tr3, ol3, rfl, hq⟩
  have hnew := mcI_new (m := 1) hI1 List.not_mem_nil (Nat.one_lt_two_pow (by omega)) (rep1 updL_s hfo rfl) (by rw [List.length_nil]; decide) hq
  have hA : stA (wdN S) ([], nt, nse) 1 = ([] ++ [1], rmT 0 nt, rmE 0 nt nse (wdN S)) := if_neg List.not_mem_nil
  simp (disch := first | exact rfl | decide | omega) only [u_9_0, u_9_1, u_9_4, u_9_5, u_9_6, u_9_9, u_9_10, u_9_11, u_9_12, u_9_15, u_9_16, u_9_19, u_9_20, u_9_23, u_9_24, u_9_27, u_9_30, u_9_31, u_9_34, u_9_37, u_9_38, u_9_39, u_9_40, u_9_41, u_9_44, u_9_47, u_9_49, u_9_50, u_9_52, u_9_53, u_9_56, u_9_59, u_9_62, u_9_63, u_9_64, u_9_67, u_9_68, u_9_69, u_9_72, u_9_73, u_9_76, u_9_77, u_9_80, u_9_81, u_9_84, u_9_85, u_9_88, u_9_89, u_9_92, u_9_93, u_9_94, u_9_95, u_9_96, u_9_97, u_9_100, u_9_103, u_9_104, u_9_105, u_9_108, u_9_109, u_9_112, u_9_113, wp_stop, lget, lput1, lput2, kil, hget, hset, vget, vset, fget, fgetC, fput, fputC, iget, igetC, jget, jgetC, qget, qgetC, alen, lenC, oI, oJ, oF, oA, oV, oH, oInc, oIld, oJld, oQld, oR, oLen, oIst, oBst, oJst, oQst, ciOf, rcv, oCp, cat1, cond_true, cond_false, Bool.and_self, Bool.and_true, Bool.true_and, Bool.or_true, Bool.true_or, Bool.or_false, Bool.false_or, Bool.not_false, Bool.not_true, ↓reduceIte, Nat.reduceBEq, Nat.reduceEqDiff, beq_self_eq_true, true_and, and_true, eq_self_iff_true, Nat.reduceAdd, Nat.blt, Nat.ble, z_le, z_lt, z_eq, z_cl, z_add, z_sub, z_mul, z_in, z_lt0, z_ofN, z_m1, z_ltm1, z_m1lt, z_eqm1, z_m1eq, z_m1le, z_lem1, z_beq, nI_0_1, nI_m1lt0, nI_0lem1, not_false_eq_true, not_true_eq_false, forall_const, false_implies, true_implies, implies_true, false_and, and_false, mrg, renc, tra, trv, sg, List.map_cons, List.map_nil, Option.map_some, Option.map_none, Option.toList_some, Option.toList_none, List.cons_append, List.nil_append, List.length_cons, List.length_nil]
  refine hret _ _ _ ?_ (by rw [ggc]; omega) (by rw [ggs]; omega)
  unfold ldP
  rw [hSS]
  refine ⟨nI (fmS K lf n nm tr1 S).1, lv2, kd1, sa1, la1, sp1, sh1, ptr2, mo2, ms2, me2, nI (tP K lf n 0), se3, nx3, tr3, ol3, upd nw2 (chnW (vp_updL g 0 (lN 1)) (wdN S)) (nI 0), vp_updL g 0 (lN 1), ?_, hpl, hT, hg1, hnew⟩
  rw [hA]
  rfl
end LD
