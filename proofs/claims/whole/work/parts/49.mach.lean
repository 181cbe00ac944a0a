/-! Machines as wholes: a pattern, its stands, the rooms -/
def encW (p : Int64) (Z : (Nat → Nat) × (Nat → Nat) × Nat) : Prop := encP p Z.1 Z.2.2 ∧ wfP Z.1 Z.2.1 Z.2.2
/-- a number is a pattern's -/
def okP (p : Int64) : Prop := ∃ Z, encW p Z
noncomputable def dcP (p : Int64) : (Nat → Nat) × (Nat → Nat) × Nat := Classical.epsilon (encW p)
theorem dcP_s {p : Int64} (h : okP p) : encW p (dcP p) := Classical.epsilon_spec h
noncomputable def dK (p : Int64) : Nat → Nat := (dcP p).1
noncomputable def dL (p : Int64) : Nat → Nat := (dcP p).2.1
noncomputable def dN (p : Int64) : Nat := (dcP p).2.2
noncomputable def dS (p : Int64) : Nat := psp (dK p) (dL p) (dN p - 1)
noncomputable def dW (p : Int64) : Nat := wdN (dS p)
noncomputable def dG (p : Int64) : Nat → List (Nat × Nat) := gmP (dK p) (dL p) (dN p)
noncomputable def dT (p : Int64) : Nat → Nat := tP (dK p) (dL p) (dN p)
theorem dwf {p : Int64} (h : okP p) : wfP (dK p) (dL p) (dN p) := (dcP_s h).2
theorem denc {p : Int64} (h : okP p) : encP p (dK p) (dN p) := (dcP_s h).1
/-- a machine: its pattern, what it knows, the plan's rooms, how far it has counted, the counts -/
abbrev aZ : Type := Int64 × aM × Nat × Nat × Int32 × (Nat → Int32)
def tri : Nat → Nat
  | 0 => 0
  | n + 1 => tri n + (n + 1)
theorem tri_le {a b : Nat} (h : a ≤ b) : tri a ≤ tri b := by
  induction b with
  | zero =>
    have : a = 0 := by omega
    subst this
    exact Nat.le_refl _
  | succ b ih =>
    rcases Nat.lt_or_ge a (b + 1) with q | q
    · have := ih (by omega)
      show tri a ≤ tri b + (b + 1)
      omega
    · have : a = b + 1 := by omega
      subst this
      exact Nat.le_refl _
theorem tri_lt {a b : Nat} (h : a < b) : tri a + b ≤ tri b := by
  cases b with
  | zero => omega
  | succ b =>
    have := tri_le (show a ≤ b by omega)
    show tri a + (b + 1) ≤ tri b + (b + 1)
    omega
/-- slots and cells that a machine has made so far, at most -/
def zS (α : aZ) : Nat := uS α.2.1 + 2 * α.2.2.2.1 + 3 * tri α.2.2.1
def zC (α : aZ) : Nat := uC α.2.1 + α.2.2.2.1 + 3 * α.2.2.1
/-- rows as long as they are told to be -/
def zR0 (Z : PS × MS) (α : aZ) : Prop := ∃ root places sorts mc lv kd sa la sp sh ptr mo ms me words known ft se nx tr ol nw fo, Z = ((root, places, sorts, mc, lv, kd, sa, la, sp, sh, α.2.2.1, ptr, α.2.2.2.1, mo, α.2.2.1, ms, α.2.2.1, me), (α.1, words, known, ft, α.2.2.2.2.1, α.2.1.2.2, se, 8 * α.2.1.2.1, nx, α.2.1.2.1, tr, α.2.1.2.1, ol, nw, fo, α.2.2.2.2.2)) ∧ α.2.2.1 ≤ 256 ∧ 0 < α.2.2.2.1 ∧ α.2.2.2.1 < 2 ^ 21 ∧ pw2 α.2.1.2.1 ∧ pw3 α.2.1.2.2 ∧ α.2.1.2.1 ≤ 2 ^ 14 ∧ α.2.1.2.2 ≤ 2 ^ 16
/-- a machine that goes by its pattern -/
def zR (Z : PS × MS) (α : aZ) : Prop := ∃ mc lv kd sa la sp sh ptr mo ms me ft se nx tr ol nw fo, Z = (pP (nI (dN α.1 - 1)) (dS α.1) (soB (dK α.1) (dN α.1)) mc lv kd sa la sp sh α.2.2.1 ptr α.2.2.2.1 mo ms me, mM α.1 (dW α.1) α.2.1.1.length ft α.2.2.2.2.1 α.2.1.2.2 se α.2.1.2.1 nx tr ol nw fo α.2.2.2.2.2) ∧ okP α.1 ∧ α.2.2.1 ≤ 256 ∧ 0 < α.2.2.2.1 ∧ α.2.2.2.1 < 2 ^ 21 ∧ plG (dS α.1) α.2.2.1 α.2.2.2.1 mo ms me (dG α.1) ∧ (∀ t, t < dS α.1 → ptr t = nI (dT α.1 t)) ∧ gdN (dK α.1) (dL α.1) (dN α.1) sa la sp sh ∧ mcI (dS α.1) (dW α.1) (dG α.1) (dT α.1) α.2.1 se nx tr ol nw
theorem zR_0 {Z : PS × MS} {α : aZ} (h : zR Z α) : zR0 Z α := by
  obtain ⟨mc, lv, kd, sa, la, sp, sh, ptr, mo, ms, me, ft, se, nx, tr, ol, nw, fo, rfl, -, h1, h2, h3, -, -, -, hI⟩ := h
  exact ⟨_, _, _, _, _, _, _, _, _, _, _, _, _, _, _, _, _, _, _, _, _, _, _, rfl, h1, h2, h3, hI.2.1.2.2.2.2.1, hI.2.1.2.2.2.2.2, hI.2.1.2.1, hI.2.1.2.2.1⟩
/-- what a machine is when it goes by another pattern -/
noncomputable def ldA (α : aZ) (p : Int64) : aZ := (p, stA (dW p) ([], α.2.1.2.1, α.2.1.2.2) 1, max α.2.2.1 (dS p), nmF (dK p) (dL p) (dN p) α.2.2.2.1, -1, α.2.2.2.2.2)
theorem nmF_le {p : Int64} (h : okP p) (nm : Nat) : nm ≤ nmF (dK p) (dL p) (dN p) nm := (fmS_le (dwf h) nm (fun _ => 0) _).2.1
theorem ld_cost {α : aZ} {p : Int64} (hp : okP p) (h2 : pw2 α.2.1.2.1) (h3 : pw3 α.2.1.2.2) : zS α + ldS (dS p) α.2.2.1 α.2.2.2.1 (nmF (dK p) (dL p) (dN p) α.2.2.2.1) α.2.1.2.1 α.2.1.2.2 ≤ zS (ldA α p) ∧ zC α + ldC (dS p) α.2.2.1 α.2.2.2.1 (nmF (dK p) (dL p) (dN p) α.2.2.2.1) α.2.1.2.1 α.2.1.2.2 ≤ zC (ldA α p) := by
  have hS : dS p ≤ 256 := wf_sp (dwf hp) (by have := (dwf hp).1; omega)
  obtain ⟨w1, w4, -⟩ := wdN_ok hS
  have hc := rm_cost (k := 0) h2 h3 w1 w4
  have hnm := nmF_le hp α.2.2.2.1
  have hA : stA (dW p) ([], α.2.1.2.1, α.2.1.2.2) 1 = ([] ++ [1], rmT 0 α.2.1.2.1, rmE 0 α.2.1.2.1 α.2.1.2.2 (dW p)) := if_neg List.not_mem_nil
  unfold zS zC ldS ldC ldA
  simp only [hA, uS, uC]
  unfold dW
  by_cases q : α.2.2.1 < dS p
  · have := tri_lt q
    rw [if_pos q, if_pos q, Nat.max_eq_right (Nat.le_of_lt q)]
    omega
  · rw [if_neg q, if_neg q, Nat.max_eq_left (by omega)]
    omega
theorem z_load (d : Nat) {Z : PS × MS} {α : aZ} (h : zR0 Z α) (p : Int64) (hp : okP p) (hne : ¬ α.1 = p) :
    aSp (d + 49) 9 [.ref 0, .long p] (mH Z.1 Z.2) mvM (zC (ldA α p) - zC α) (zS (ldA α p) - zS α) (fun r h' => r = none ∧ ∃ Z', h' = mH Z'.1 Z'.2 ∧ zR Z' (ldA α p)) := by
  obtain ⟨root, places, sorts, mc, lv, kd, sa, la, sp, sh, ptr, mo, ms, me, words, known, ft, se, nx, tr, ol, nw, fo, rfl, h1, h2, h3, h4, h5, h6, h7⟩ := h
  have hc := ld_cost (α := α) hp h4 h5
  have hnm := nmF_le hp α.2.2.2.1
  have hS : dS p ≤ 256 := wf_sp (dwf hp) (by have := (dwf hp).1; omega)
  refine sp_weaken (c_load (dK p) (dL p) (dN p) root places sorts mc lv kd sa la sp sh α.2.2.1 ptr α.2.2.2.1 mo ms me α.1 words known ft α.2.2.2.2.1 α.2.1.2.2 se α.2.1.2.1 nx tr ol nw fo α.2.2.2.2.2 d (dwf hp) p (denc hp) hne h1 h2 h3 h4 h5 h6 h7 _ _ (by unfold dS at hc; omega) (by unfold dS at hc; omega)) ?_
  rintro r h' ⟨rfl, mc, lv, kd, sa, la, sp, sh, ptr, mo, ms, me, ft, se, nx, tr, ol, nw, fo, rfl, q1, q2, q3, q4⟩
  refine ⟨rfl, _, rfl, mc, lv, kd, sa, la, sp, sh, ptr, mo, ms, me, ft, se, nx, tr, ol, nw, fo, rfl, hp, ?_, ?_, q1.2.2.2.1, q1, q2, q3, q4⟩
  · show max α.2.2.1 (dS p) ≤ 256
    omega
  · show 0 < nmF (dK p) (dL p) (dN p) α.2.2.2.1
    omega
set_option maxRecDepth 100000 in
theorem z_same (d : Nat) {Z : PS × MS} {α : aZ} (h : zR0 Z α) (p : Int64) (hne : α.1 = p) :
    aSp d 9 [.ref 0, .long p] (mH Z.1 Z.2) nomv 0 0 (fun r h' => r = none ∧ h' = mH Z.1 Z.2) := by
  obtain ⟨root, places, sorts, mc, lv, kd, sa, la, sp, sh, ptr, mo, ms, me, words, known, ft, se, nx, tr, ol, nw, fo, rfl, h1, h2, h3, h4, h5, h6, h7⟩ := h
  refine sp_of (by decide) (Nat.le_of_ble_eq_true rfl) ?_
  generalize hG : ((d, _, nomv, _, _, _) : aG) = G
  have ggd : gD G = d := by subst hG; rfl
  have ggn : gN G = 18 := by subst hG; rfl
  have ggm : gM G = nomv := by subst hG; rfl
  have ggc : gC G = 0 := by subst hG; rfl
  have ggs : gS G = 0 := by subst hG; rfl
  have hcmp : lg_cmp α.1 p = nI 0 := lcmp_0.mpr hne
  have hret := fun h' (q : gP G none h') => RET.id (G := G) (r := none) (k := 0) (n := 0) q (Nat.zero_le _) (Nat.zero_le _)
  refine wp_aw (S := fun _ => false) (by decide) 200 _ _ _ _ _ _ ?_
  simp (disch := first | exact rfl | decide | omega) only [u_9_0, u_9_1, u_9_4, u_9_5, u_9_6, u_9_9, u_9_10, u_9_11, u_9_12, u_9_15, u_9_16, u_9_19, u_9_20, u_9_23, u_9_24, u_9_27, u_9_30, u_9_31, u_9_34, u_9_37, u_9_38, u_9_39, u_9_40, u_9_41, u_9_44, u_9_47, u_9_49, u_9_50, u_9_52, u_9_53, u_9_56, u_9_59, u_9_62, u_9_63, u_9_64, u_9_67, u_9_68, u_9_69, u_9_72, u_9_73, u_9_76, u_9_77, u_9_80, u_9_81, u_9_84, u_9_85, u_9_88, u_9_89, u_9_92, u_9_93, u_9_94, u_9_95, u_9_96, u_9_97, u_9_100, u_9_103, u_9_104, u_9_105, u_9_108, u_9_109, u_9_112, u_9_113, wp_stop, lget, lput1, lput2, kil, hget, hset, vget, vset, fget, fgetC, fput, fputC, iget, igetC, jget, jgetC, qget, qgetC, alen, lenC, oI, oJ, oF, oA, oV, oH, oInc, oIld, oJld, oQld, oR, oLen, oIst, oBst, oJst, oQst, ciOf, rcv, oCp, cat1, cond_true, cond_false, Bool.and_self, Bool.and_true, Bool.true_and, Bool.or_true, Bool.true_or, Bool.or_false, Bool.false_or, Bool.not_false, Bool.not_true, ↓reduceIte, Nat.reduceBEq, Nat.reduceEqDiff, beq_self_eq_true, true_and, and_true, eq_self_iff_true, Nat.reduceAdd, Nat.blt, Nat.ble, z_le, z_lt, z_eq, z_cl, z_add, z_sub, z_mul, z_in, z_lt0, z_ofN, z_m1, z_ltm1, z_m1lt, z_eqm1, z_m1eq, z_m1le, z_lem1, z_beq, nI_0_1, nI_m1lt0, nI_0lem1, not_false_eq_true, not_true_eq_false, forall_const, false_implies, true_implies, implies_true, false_and, and_false, mrg, renc, tra, trv, sg, List.map_cons, List.map_nil, Option.map_some, Option.map_none, Option.toList_some, Option.toList_none, List.cons_append, List.nil_append, List.length_cons, List.length_nil, eL, mL_9, mH, mO, mPO, MS.pat, MS.words, MS.known, MS.ft, MS.counted, MS.nse, MS.se, MS.nnx, MS.nx, MS.ntr, MS.tr, MS.nol, MS.ol, MS.nw, MS.fo, MS.co, PS.root, PS.places, PS.sorts, PS.mc, PS.lv, PS.kd, PS.sa, PS.la, PS.sp, PS.sh, PS.nt, PS.tr, PS.nm, PS.mo, PS.ns, PS.ms, PS.ne, PS.me, hcmp]
  refine hret _ ?_
  subst hG
  exact ⟨rfl, rfl⟩
/-! what a machine tells -/
/-- a machine with one stand more, perhaps -/
noncomputable def sZ (α : aZ) (m : Nat) : aZ := (α.1, stA (dW α.1) α.2.1 m, α.2.2)
theorem dT_lt {p : Int64} (h : okP p) {t : Nat} (ht : t < dS p) : dT p t < 2 ^ 17 := gt_lt (fun m hm => (pmv_ok (dwf h) (dN p - 1) (by have := (dwf h).1; omega) t ht m hm).1)
theorem tb_lt {m S p : Nat} (hm : m < 2 ^ S) (h : m.testBit p = true) : p < S := by
  rcases Nat.lt_or_ge p S with z | z
  · exact z
  · rw [Nat.testBit_lt_two_pow (Nat.lt_of_lt_of_le hm (Nat.pow_le_pow_right (by decide) z))] at h
    exact absurd h (by decide)
theorem trM_lt {p : Int64} (h : okP p) {m : Nat} (hm : m < 2 ^ dS p) : trM (dT p) m < 2 ^ 17 := by
  apply Nat.lt_pow_two_of_testBit
  intro b hb
  rw [← Bool.not_eq_true]
  intro q
  obtain ⟨t, -, h2, h3⟩ := trM_bit.mp q
  rw [Nat.testBit_lt_two_pow (Nat.lt_of_lt_of_le (dT_lt h (tb_lt hm h2)) (Nat.pow_le_pow_right (by decide) hb))] at h3
  exact absurd h3 (by decide)
theorem z_due (d : Nat) {Z : PS × MS} {α : aZ} (h : zR Z α) {s m : Nat} (hs : α.2.1.1[s]? = some m) :
    aSp (d + 1) 62 [.ref 0, .int (nI s)] (mH Z.1 Z.2) nomv 0 0 (fun r h' => r = some (.int (nI (trM (dT α.1) m &&& 255))) ∧ h' = mH Z.1 Z.2) := by
  obtain ⟨mc, lv, kd, sa, la, sp, sh, ptr, mo, ms, me, ft, se, nx, tr, ol, nw, fo, rfl, hp, h1, h2, h3, hpl, hT, hg, hI⟩ := h
  have hb := hI.2.1
  refine sp_weaken (c_due d _ _ s α.2.1.1.length rfl hb.1 (by show α.2.1.2.1 < 2 ^ 20; omega) (gget_lt hs)) ?_
  rintro r h' ⟨rfl, rfl⟩
  refine ⟨?_, rfl⟩
  show some (Value.int (tr s &&& nI 255)) = _
  rw [(hI.2.2.2.2.1 s m hs).2.1, fa_and]
theorem z_isEnding (d : Nat) {Z : PS × MS} {α : aZ} (h : zR Z α) {s m : Nat} (hs : α.2.1.1[s]? = some m) :
    aSp (d + 1) 60 [.ref 0, .int (nI s)] (mH Z.1 Z.2) nomv 0 0 (fun r h' => r = some (.int (bN ((trM (dT α.1) m).testBit 8))) ∧ h' = mH Z.1 Z.2) := by
  obtain ⟨mc, lv, kd, sa, la, sp, sh, ptr, mo, ms, me, ft, se, nx, tr, ol, nw, fo, rfl, hp, h1, h2, h3, hpl, hT, hg, hI⟩ := h
  have hb := hI.2.1
  refine sp_weaken (c_isEnding d _ _ s α.2.1.1.length rfl hb.1 (by show α.2.1.2.1 < 2 ^ 20; omega) (gget_lt hs)) ?_
  rintro r h' ⟨rfl, rfl⟩
  refine ⟨?_, rfl⟩
  show some (Value.int (if tr s &&& nI 256 = nI 0 then nI 0 else nI 1)) = _
  rw [(hI.2.2.2.2.1 s m hs).2.1]
  have hl := trM_lt hp (hI.2.2.2.1 m (get_mem hs))
  cases q : (trM (dT α.1) m).testBit 8
  · rw [if_pos ((end256 hl).mpr q)]
    rfl
  · rw [if_neg (fun z => by rw [(end256 hl).mp z] at q; exact absurd q (by decide))]
    rfl
theorem z_lastSteps (d : Nat) {Z : PS × MS} {α : aZ} (h : zR Z α) {s m : Nat} (hs : α.2.1.1[s]? = some m) :
    aSp (d + 1) 68 [.ref 0, .int (nI s)] (mH Z.1 Z.2) nomv 0 0 (fun r h' => r = some (.int (nI (pcN (trM (dT α.1) m / 512)))) ∧ h' = mH Z.1 Z.2) := by
  obtain ⟨mc, lv, kd, sa, la, sp, sh, ptr, mo, ms, me, ft, se, nx, tr, ol, nw, fo, rfl, hp, h1, h2, h3, hpl, hT, hg, hI⟩ := h
  have hb := hI.2.1
  exact c_lastSteps d _ _ s α.2.1.1.length _ rfl hb.1 (by show α.2.1.2.1 < 2 ^ 20; omega) (gget_lt hs) (hI.2.2.2.2.1 s m hs).2.1 (trM_lt hp (hI.2.2.2.1 m (get_mem hs)))
theorem z_stepNo (d : Nat) {Z : PS × MS} {α : aZ} (h : zR Z α) {s m x : Nat} (hs : α.2.1.1[s]? = some m) (hx : x < 8) (hdue : (trM (dT α.1) m).testBit x = false) :
    aSp (d + 2) 71 [.ref 0, .int (nI s), .int (nI x)] (mH Z.1 Z.2) nomv 0 0 (fun r h' => r = some (.int (-1)) ∧ h' = mH Z.1 Z.2) := by
  obtain ⟨mc, lv, kd, sa, la, sp, sh, ptr, mo, ms, me, ft, se, nx, tr, ol, nw, fo, rfl, hp, h1, h2, h3, hpl, hT, hg, hI⟩ := h
  exact c_stepNo (nI (dN α.1 - 1)) (dS α.1) (soB (dK α.1) (dN α.1)) mc lv kd sa la sp sh α.2.2.1 ptr α.2.2.2.1 mo ms me α.1 (dW α.1) α.2.2.2.2.1 α.2.2.2.2.2 (dG α.1) (dT α.1) d α.2.1 ft se nx tr ol nw fo s x m hs hx hI hdue
theorem sZ_cost {α : aZ} {m : Nat} (h2 : pw2 α.2.1.2.1) (h3 : pw3 α.2.1.2.2) (h1 : 1 ≤ dW α.1) (h4 : dW α.1 ≤ 4) : zS α ≤ zS (sZ α m) ∧ zC α ≤ zC (sZ α m) ∧ zS (sZ α m) - zS α = uS (stA (dW α.1) α.2.1 m) - uS α.2.1 ∧ zC (sZ α m) - zC α = uC (stA (dW α.1) α.2.1 m) - uC α.2.1 := by
  have hc := stA_uS (m := m) h2 h3 h1 h4
  unfold zS zC sZ
  dsimp only
  omega
theorem z_step (d : Nat) {Z : PS × MS} {α : aZ} (h : zR Z α) {s m x : Nat} (hs : α.2.1.1[s]? = some m) (hx : x < 8) (hdue : (trM (dT α.1) m).testBit x = true) (hlen : (sZ α (dltM (dG α.1) x m)).2.1.1.length ≤ 2 ^ 14) :
    aSp (d + 6) 71 [.ref 0, .int (nI s), .int (nI x)] (mH Z.1 Z.2) mvM (zC (sZ α (dltM (dG α.1) x m)) - zC α) (zS (sZ α (dltM (dG α.1) x m)) - zS α)
      (fun r h' => ∃ j Z', (sZ α (dltM (dG α.1) x m)).2.1.1[j]? = some (dltM (dG α.1) x m) ∧ r = some (.int (nI j)) ∧ h' = mH Z'.1 Z'.2 ∧ zR Z' (sZ α (dltM (dG α.1) x m))) := by
  obtain ⟨mc, lv, kd, sa, la, sp, sh, ptr, mo, ms, me, ft, se, nx, tr, ol, nw, fo, rfl, hp, h1, h2, h3, hpl, hT, hg, hI⟩ := h
  have hc := sZ_cost (m := dltM (dG α.1) x m) hI.2.1.2.2.2.2.1 hI.2.1.2.2.2.2.2 hI.1.1 hI.1.2.1
  rw [hc.2.2.1, hc.2.2.2]
  refine sp_weaken (c_step (nI (dN α.1 - 1)) (dS α.1) (soB (dK α.1) (dN α.1)) mc lv kd sa la sp sh α.2.2.1 ptr α.2.2.2.1 mo ms me α.1 (dW α.1) α.2.2.2.2.1 α.2.2.2.2.2 (dG α.1) (dT α.1) d α.2.1 ft se nx tr ol nw fo s x m hs hx hpl hT hI hdue hlen) ?_
  rintro r h' ⟨j, ft', se', nx', tr', ol', nw', fo', q1, rfl, rfl, q2⟩
  exact ⟨j, _, q1, rfl, rfl, mc, lv, kd, sa, la, sp, sh, ptr, mo, ms, me, ft', se', nx', tr', ol', nw', fo', rfl, hp, h1, h2, h3, hpl, hT, hg, q2⟩
