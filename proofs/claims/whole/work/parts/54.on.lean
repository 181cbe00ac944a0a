/-! RowCounter.stepOn -/
theorem idx_nd {L : List Nat} (hn : L.Nodup) {j m : Nat} (h : L[j]? = some m) : L.idxOf m = j := by
  have hm := get_mem h
  have h1 := List.idxOf_lt_length_of_mem hm
  obtain ⟨h2, h3⟩ := List.getElem?_eq_some_iff.mp h
  exact nd_inj hn h1 h2 ((List.getElem_idxOf h1).trans h3.symm)
theorem nd_get {L : List Nat} (hn : L.Nodup) {i j m : Nat} (h : L[i]? = some m) (h2 : L[j]? = some m) : i = j := (idx_nd hn h).symm.trans (idx_nd hn h2)
def accI (L : List Nat) (acc : Nat → Nat) (nb : Nat) : Prop := ∀ m, acc m ≠ 0 → ∃ j, j < nb ∧ L[j]? = some m
theorem wOK_step {L L' : List Nat} {acc : Nat → Nat} {nb nb2 j m' v : Nat} {wb wb2 : Nat → Int32} (he : extL L L') (hs : ∀ y ∈ L', y ∈ L ∨ y = m') (hn : L'.Nodup) (hj : L'[j]? = some m') (hw : wOK L acc nb wb) (ha : accI L acc nb) (hb : nb ≤ nb2) (hjb : j < nb2) (h2 : ∀ i, i < nb2 → wb2 i = if i < nb then wb i else 0) : wOK L' (addC acc m' v) nb2 (upd wb2 j (wb2 j + nI v)) ∧ accI L' (addC acc m' v) nb2 := by
  have val : ∀ i y, i < nb2 → L'[i]? = some y → wb2 i = nI (acc y) := by
    intro i y hi hy
    rw [h2 i hi]
    rcases hs y (get_mem hy) with q | q
    · obtain ⟨k, hk⟩ := List.mem_iff_getElem?.mp q
      have e := nd_get hn (he k y hk) hy
      subst e
      by_cases z : k < nb
      · rw [if_pos z, hw k z, hk]
      · rw [if_neg z]
        have : acc y = 0 := by
          rcases Nat.eq_zero_or_pos (acc y) with w | w
          · exact w
          · obtain ⟨j2, a1, a2⟩ := ha y (by omega)
            have := nd_get hn (he j2 y a2) hy
            omega
        rw [this]
        rfl
    · subst q
      have e := nd_get hn hy hj
      subst e
      by_cases z : i < nb
      · rw [if_pos z, hw i z]
        cases hc : L[i]? with
        | none =>
          have : acc y = 0 := by
            rcases Nat.eq_zero_or_pos (acc y) with w | w
            · exact w
            · obtain ⟨j2, a1, a2⟩ := ha y (by omega)
              have := nd_get hn (he j2 y a2) hy
              subst this
              rw [a2] at hc
              exact absurd hc (by simp)
          rw [this]
        | some y2 =>
          have := he i y2 hc
          rw [hy] at this
          rw [Option.some.inj this]
      · rw [if_neg z]
        have : acc y = 0 := by
          rcases Nat.eq_zero_or_pos (acc y) with w | w
          · exact w
          · obtain ⟨j2, a1, a2⟩ := ha y (by omega)
            have := nd_get hn (he j2 y a2) hy
            omega
        rw [this]
        rfl
  refine ⟨fun i hi => ?_, fun y hy => ?_⟩
  · by_cases q : i = j
    · subst q
      rw [upd_s, hj, val i m' hi hj, z_add]
      show nI (acc m' + v) = nI (acc m' + (if m' = m' then v else 0))
      rw [if_pos rfl]
    · rw [upd_n q]
      cases hc : L'[i]? with
      | none =>
        rw [h2 i hi]
        have : L[i]? = none := by
          cases hc2 : L[i]? with
          | none => rfl
          | some y =>
            rw [he i y hc2] at hc
            exact absurd hc (by simp)
        by_cases z : i < nb
        · rw [if_pos z, hw i z, this]
        · rw [if_neg z]
          rfl
      | some y =>
        rw [val i y hi hc]
        show nI (acc y) = nI (acc y + (if y = m' then v else 0))
        rw [if_neg (fun z => q (nd_get hn hc (by rw [z]; exact hj)))]
        rfl
  · by_cases q : y = m'
    · subst q
      exact ⟨j, hjb, hj⟩
    · have : addC acc m' v y = acc y := by
        show acc y + (if y = m' then v else 0) = _
        rw [if_neg q]
        rfl
      rw [this] at hy
      obtain ⟨j2, a1, a2⟩ := ha y hy
      exact ⟨j2, by omega, he j2 y a2⟩
theorem soX_c0 {p : Int64} {c : Nat → Nat} {m : Nat} (h : c m = 0) : ∀ (r : Nat) (β : bS), soX p c m r β = β
  | 0, _ => rfl
  | r + 1, β => by
    show soX p c m r (soS p c m (7 - r) β) = β
    have : soS p c m (7 - r) β = β := if_neg (fun z => z.1 h)
    rw [this]
    exact soX_c0 h r β
theorem mHB_0 (b : Nat) (Z : PS × MS) : hget (mHB b Z) 0 = some (renc (b + ·) (mO Z.2)) := rfl
def mvC : Nat → Bool := fun j => j == 1 || j == 2 || mvI 3 j
def tauW : Nat → Nat := fun j => if j = 2 then 21 else j
/-- the state of the second row of ways -/
def onJ (p : Int64) (β : bS) (Z : PS × MS) (wb : Nat → Int32) : Prop := zR Z β.1 ∧ β.1.1 = p ∧ wOK β.1.2.1.1 β.2.2 β.2.1 wb ∧ accI β.1.2.1.1 β.2.2 β.2.1 ∧ 16 ≤ β.2.1 ∧ β.2.1 ≤ 2 ^ 15
section ON
variable (na : Nat) (wa : Nat → Int32) (c : Nat → Nat) (p : Int64)
set_option maxRecDepth 100000 in
theorem l_on1 {G : aG} (m s kn : Nat) (hc : c m < 2 ^ 31) (hs : s < na) (hna : na < 2 ^ 20) (hws : wa s = nI (c m)) (βF : bS) (hF : βF.1.2.1.1.length ≤ 2 ^ 14) (hd : 7 ≤ gD G) (ggn : gN G = 21) (ggm : gM G = mvC) (hkn : kn < 2 ^ 20) :
    ∀ (r : Nat) (β : bS) (Z : PS × MS) (wb : Nat → Int32) (k0 n0 : Nat), r ≤ 8 → onJ p β Z wb → β.1.2.1.1[s]? = some m → leB (soX p c m r β) βF → k0 + kC2 βF ≤ gC G + kC2 β → n0 + kS2 βF ≤ gS G + kS2 β →
    (∀ Z' wb' k' n', onJ p (soX p c m r β) Z' wb' → k' + kC2 βF ≤ gC G + kC2 (soX p c m r β) → n' + kS2 βF ≤ gS G + kS2 (soX p c m r β) → AW 70 G 108 [some (.ref 0), some (.ref 3), some (.int (nI kn)), some (.int (nI s)), none, none] [] (cH na wa (soX p c m r β).2.1 wb' Z') k' n') →
    AW 70 G 31 [some (.ref 0), some (.ref 3), some (.int (nI kn)), some (.int (nI s)), some (.int (nI (8 - r))), none] [] (cH na wa β.2.1 wb Z) k0 n0 := by
  intro r
  induction r with
  | zero =>
    intro β Z wb k0 n0 hr hJ hm hle hk hn hgo
    have t1 : 8 ≤ 8 - 0 := Nat.le_refl _
    have hfin := hgo Z wb k0 n0 hJ hk hn
    refine wq_aw (S := fun x => x == 31 || x == 108) (by decide) (f := 200) ?_
    simp (disch := first | exact rfl | decide | omega) only [v_70_23, v_70_31, u_70_0, u_70_1, u_70_4, u_70_5, u_70_8, u_70_9, u_70_12, u_70_13, u_70_16, u_70_17, u_70_20, u_70_21, u_70_22, u_70_23, u_70_24, u_70_25, u_70_28, u_70_29, u_70_31, u_70_33, u_70_35, u_70_38, u_70_39, u_70_42, u_70_43, u_70_44, u_70_47, u_70_48, u_70_49, u_70_51, u_70_54, u_70_56, u_70_58, u_70_59, u_70_62, u_70_63, u_70_66, u_70_67, u_70_68, u_70_71, u_70_72, u_70_74, u_70_75, u_70_78, u_70_81, u_70_83, u_70_86, u_70_87, u_70_90, u_70_92, u_70_93, u_70_94, u_70_95, u_70_98, u_70_99, u_70_100, u_70_101, u_70_102, u_70_105, u_70_108, u_70_111, u_70_114, u_70_115, u_70_118, u_70_119, u_70_120, u_70_121, u_70_124, u_70_127, u_70_128, u_70_129, u_70_132, wp_stop, lget, lput1, lput2, kil, hget, hset, vget, vset, fget, fgetC, fput, fputC, iget, igetC, jget, jgetC, qget, qgetC, alen, lenC, oI, oJ, oF, oA, oV, oH, oInc, oIld, oJld, oQld, oR, oLen, oIst, oBst, oJst, oQst, ciOf, rcv, oCp, cat1, cond_true, cond_false, Bool.and_self, Bool.and_true, Bool.true_and, Bool.or_true, Bool.true_or, Bool.or_false, Bool.false_or, Bool.not_false, Bool.not_true, ↓reduceIte, Nat.reduceBEq, Nat.reduceEqDiff, beq_self_eq_true, true_and, and_true, eq_self_iff_true, Nat.reduceAdd, Nat.blt, Nat.ble, z_le, z_lt, z_eq, z_cl, z_add, z_sub, z_mul, z_in, z_lt0, z_ofN, z_m1, z_ltm1, z_m1lt, z_eqm1, z_m1eq, z_m1le, z_lem1, z_beq, nI_0_1, nI_m1lt0, nI_0lem1, not_false_eq_true, not_true_eq_false, forall_const, false_implies, true_implies, implies_true, false_and, and_false, mrg, renc, tra, trv, sg, List.map_cons, List.map_nil, Option.map_some, Option.map_none, Option.toList_some, Option.toList_none, List.cons_append, List.nil_append, List.length_cons, List.length_nil, cH, cF, t1]
    exact aw_lle [some (.ref 0), some (.ref 3), some (.int (nI kn)), some (.int (nI s)), none, none] ⟨rfl, rfl, rfl, rfl, trivial⟩ hfin
  | succ r ih =>
    intro β Z wb k0 n0 hr hJ hm hle hk hn hgo
    have t1 : ¬ 8 ≤ 8 - (r + 1) := by omega
    have ex : 8 - (r + 1) + 1 = 8 - r := by omega
    by_cases q : c m = 0
    · rw [q] at hws
      rw [soX_c0 q] at hgo
      have hfin := hgo Z wb k0 n0 hJ hk hn
      refine wq_aw (S := fun x => x == 31 || x == 108) (by decide) (f := 200) ?_
      simp (disch := first | exact rfl | decide | omega) only [v_70_23, v_70_31, u_70_0, u_70_1, u_70_4, u_70_5, u_70_8, u_70_9, u_70_12, u_70_13, u_70_16, u_70_17, u_70_20, u_70_21, u_70_22, u_70_23, u_70_24, u_70_25, u_70_28, u_70_29, u_70_31, u_70_33, u_70_35, u_70_38, u_70_39, u_70_42, u_70_43, u_70_44, u_70_47, u_70_48, u_70_49, u_70_51, u_70_54, u_70_56, u_70_58, u_70_59, u_70_62, u_70_63, u_70_66, u_70_67, u_70_68, u_70_71, u_70_72, u_70_74, u_70_75, u_70_78, u_70_81, u_70_83, u_70_86, u_70_87, u_70_90, u_70_92, u_70_93, u_70_94, u_70_95, u_70_98, u_70_99, u_70_100, u_70_101, u_70_102, u_70_105, u_70_108, u_70_111, u_70_114, u_70_115, u_70_118, u_70_119, u_70_120, u_70_121, u_70_124, u_70_127, u_70_128, u_70_129, u_70_132, wp_stop, lget, lput1, lput2, kil, hget, hset, vget, vset, fget, fgetC, fput, fputC, iget, igetC, jget, jgetC, qget, qgetC, alen, lenC, oI, oJ, oF, oA, oV, oH, oInc, oIld, oJld, oQld, oR, oLen, oIst, oBst, oJst, oQst, ciOf, rcv, oCp, cat1, cond_true, cond_false, Bool.and_self, Bool.and_true, Bool.true_and, Bool.or_true, Bool.true_or, Bool.or_false, Bool.false_or, Bool.not_false, Bool.not_true, ↓reduceIte, Nat.reduceBEq, Nat.reduceEqDiff, beq_self_eq_true, true_and, and_true, eq_self_iff_true, Nat.reduceAdd, Nat.blt, Nat.ble, z_le, z_lt, z_eq, z_cl, z_add, z_sub, z_mul, z_in, z_lt0, z_ofN, z_m1, z_ltm1, z_m1lt, z_eqm1, z_m1eq, z_m1le, z_lem1, z_beq, nI_0_1, nI_m1lt0, nI_0lem1, not_false_eq_true, not_true_eq_false, forall_const, false_implies, true_implies, implies_true, false_and, and_false, mrg, renc, tra, trv, sg, List.map_cons, List.map_nil, Option.map_some, Option.map_none, Option.toList_some, Option.toList_none, List.cons_append, List.nil_append, List.length_cons, List.length_nil, cH, cF, t1, hws]
      exact aw_lle [some (.ref 0), some (.ref 3), some (.int (nI kn)), some (.int (nI s)), none, none] ⟨rfl, rfl, rfl, rfl, trivial⟩ hfin
    · have hok := zR_A hJ.1
      have hL := zR_L hJ.1
      have hx : 7 - r < 8 := by omega
      have ex2 : 8 - (r + 1) = 7 - r := by omega
      rw [ex2] at t1 ex
      rw [ex2]
      obtain ⟨hzr, hpp, hw, ha, h16, h15⟩ := hJ
      subst hpp
      have hnb1 : β.2.1 < 2 ^ 31 := by omega
      have hle0 := leB_tr (soX_le (p := β.1.1) (c := c) (m := m) (r + 1) hok).1 hle
      have hle1 := hle0.1
      have hle2 := hle0.2.1
      by_cases hdue : (trM (dT β.1.1) m).testBit (7 - r) = true
      · have hs1 := soS_le (p := β.1.1) (c := c) (m := m) (x := 7 - r) hok
        have hle3 : leB (soS β.1.1 c m (7 - r) β) βF := leB_tr (soX_le (p := β.1.1) (c := c) (m := m) r hs1.2).1 hle
        have e : soS β.1.1 c m (7 - r) β = (sZ β.1 (dltM (dG β.1.1) (7 - r) m), (if (sZ β.1 (dltM (dG β.1.1) (7 - r) m)).2.1.1.idxOf (dltM (dG β.1.1) (7 - r) m) < β.2.1 then β.2.1 else 2 * (sZ β.1 (dltM (dG β.1.1) (7 - r) m)).2.1.1.idxOf (dltM (dG β.1.1) (7 - r) m)), addC β.2.2 (dltM (dG β.1.1) (7 - r) m) (c m)) := if_pos ⟨q, hdue⟩
        rw [e] at hle3
        have hlen : (sZ β.1 (dltM (dG β.1.1) (7 - r) m)).2.1.1.length ≤ 2 ^ 14 := Nat.le_trans (extL_len hle3.2.2.1) hF
        have hcst := sZ_cost (m := dltM (dG β.1.1) (7 - r) m) hok.1 hok.2.1 hok.2.2.1 hok.2.2.2
        have hst := z_step 0 hzr hm hx hdue hlen
        have hsub := fun y (h : y ∈ (sZ β.1 (dltM (dG β.1.1) (7 - r) m)).2.1.1) => sZ_sub h
        have hext := sZ_ext β.1 (dltM (dG β.1.1) (7 - r) m)
        have ihn := ih (soS β.1.1 c m (7 - r) β)
        rw [e] at ihn
        have hgo' : ∀ Z' wb' k' n', onJ β.1.1 (soX β.1.1 c m r (soS β.1.1 c m (7 - r) β)) Z' wb' → k' + kC2 βF ≤ gC G + kC2 (soX β.1.1 c m r (soS β.1.1 c m (7 - r) β)) → n' + kS2 βF ≤ gS G + kS2 (soX β.1.1 c m r (soS β.1.1 c m (7 - r) β)) → AW 70 G 108 [some (.ref 0), some (.ref 3), some (.int (nI kn)), some (.int (nI s)), none, none] [] (cH na wa (soX β.1.1 c m r (soS β.1.1 c m (7 - r) β)).2.1 wb' Z') k' n' := hgo
        have hle' : leB (soX β.1.1 c m r (soS β.1.1 c m (7 - r) β)) βF := hle
        rw [e] at hgo' hle'
        clear hgo hle ih
        have k3 := hle3.1
        have k4 := hle3.2.1
        have k5 := hs1.1.2.2.2.2.2
        rw [e] at k5
        unfold kS2 at hn k3
        unfold kC2 at hk k4
        dsimp only at k3 k4 k5
        generalize hm' : dltM (dG β.1.1) (7 - r) m = m' at *
        generalize hα : sZ β.1 m' = α' at *
        have hα1 : α'.1 = β.1.1 := by rw [← hα]; rfl
        refine wq_aw (S := fun x => x == 31 || x == 108) (by decide) (f := 200) ?_
        simp (disch := first | exact rfl | decide | omega) only [v_70_23, v_70_31, u_70_0, u_70_1, u_70_4, u_70_5, u_70_8, u_70_9, u_70_12, u_70_13, u_70_16, u_70_17, u_70_20, u_70_21, u_70_22, u_70_23, u_70_24, u_70_25, u_70_28, u_70_29, u_70_31, u_70_33, u_70_35, u_70_38, u_70_39, u_70_42, u_70_43, u_70_44, u_70_47, u_70_48, u_70_49, u_70_51, u_70_54, u_70_56, u_70_58, u_70_59, u_70_62, u_70_63, u_70_66, u_70_67, u_70_68, u_70_71, u_70_72, u_70_74, u_70_75, u_70_78, u_70_81, u_70_83, u_70_86, u_70_87, u_70_90, u_70_92, u_70_93, u_70_94, u_70_95, u_70_98, u_70_99, u_70_100, u_70_101, u_70_102, u_70_105, u_70_108, u_70_111, u_70_114, u_70_115, u_70_118, u_70_119, u_70_120, u_70_121, u_70_124, u_70_127, u_70_128, u_70_129, u_70_132, wp_stop, lget, lput1, lput2, kil, hget, hset, vget, vset, fget, fgetC, fput, fputC, iget, igetC, jget, jgetC, qget, qgetC, alen, lenC, oI, oJ, oF, oA, oV, oH, oInc, oIld, oJld, oQld, oR, oLen, oIst, oBst, oJst, oQst, ciOf, rcv, oCp, cat1, cond_true, cond_false, Bool.and_self, Bool.and_true, Bool.true_and, Bool.or_true, Bool.true_or, Bool.or_false, Bool.false_or, Bool.not_false, Bool.not_true, ↓reduceIte, Nat.reduceBEq, Nat.reduceEqDiff, beq_self_eq_true, true_and, and_true, eq_self_iff_true, Nat.reduceAdd, Nat.blt, Nat.ble, z_le, z_lt, z_eq, z_cl, z_add, z_sub, z_mul, z_in, z_lt0, z_ofN, z_m1, z_ltm1, z_m1lt, z_eqm1, z_m1eq, z_m1le, z_lem1, z_beq, nI_0_1, nI_m1lt0, nI_0lem1, not_false_eq_true, not_true_eq_false, forall_const, false_implies, true_implies, implies_true, false_and, and_false, mrg, renc, tra, trv, sg, List.map_cons, List.map_nil, Option.map_some, Option.map_none, Option.toList_some, Option.toList_none, List.cons_append, List.nil_append, List.length_cons, List.length_nil, cH, cF, mHB_0, mO, t1, hws, q]
        show CAL _ _ _ (.ref (cF na wa β.2.1 wb).length :: _) _ _ _ (cF na wa β.2.1 wb ++ mHB (cF na wa β.2.1 wb).length Z) _ _
        refine CAL.one (cF na wa β.2.1 wb) hst (okF_cF _ _ _ _) (fun _ => rfl) mvM_1 ?_ (by show _ ≤ gD G; omega) (by show _ ≤ gC G; omega) (by show _ ≤ gS G; omega) (Nat.le_of_ble_eq_true rfl) (by rw [ggn]; exact Nat.le_of_ble_eq_true rfl) ?_ rfl rfl ?_
        · rintro r1 hc' ⟨j, Z', -, rfl, rfl, -⟩
          exact ⟨⟨Z', rfl⟩, fun _ => rfl⟩
        · intro j h1 h2
          rw [ggm] at h2
          simp only [mvC, Bool.or_eq_false_iff] at h2
          exact h2.2
        rintro _ Z1 ⟨j, Z2, hj, rfl, hZ, hz2⟩
        have hZ2 := mH_inj (Z' := Z2) hZ
        show WP _ _ _ _ _ _ _ (cF na wa β.2.1 wb ++ mHB 3 Z1) _ _
        rw [hZ2]
        have hn2 := (zR_L hz2).2.1
        have hidx := idx_nd hn2 hj
        rw [hidx] at ihn hle' k3 k4 hgo'
        have hjl := gget_lt hj
        have hj31 : j < 2 ^ 31 := by omega
        have t5 : ¬ j < 0 := by omega
        by_cases hjn : j < β.2.1
        · rw [if_pos hjn] at ihn hle' k3 k4 hgo'
          obtain ⟨w1, w2⟩ := wOK_step (v := c m) (wb2 := wb) hext hsub hn2 hj hw ha (Nat.le_refl _) hjn (fun i hi => by rw [if_pos hi])
          have hfin := ihn Z2 (upd wb j (wb j + nI (c m))) (k0 + (zC α' - zC β.1)) (n0 + (zS α' - zS β.1)) (by omega) ⟨hz2, hα1, w1, w2, h16, h15⟩ (hext s m hm) hle' (by show k0 + (zC α' - zC β.1) + (zC βF.1 + βF.2.1) ≤ gC G + (zC α' + β.2.1); omega) (by show n0 + (zS α' - zS β.1) + (zS βF.1 + 2 * βF.2.1) ≤ gS G + (zS α' + 2 * β.2.1); omega) hgo'
          simp (disch := first | exact rfl | decide | omega) only [u_70_0, u_70_1, u_70_4, u_70_5, u_70_8, u_70_9, u_70_12, u_70_13, u_70_16, u_70_17, u_70_20, u_70_21, u_70_22, u_70_23, u_70_24, u_70_25, u_70_28, u_70_29, u_70_31, u_70_33, u_70_35, u_70_38, u_70_39, u_70_42, u_70_43, u_70_44, u_70_47, u_70_48, u_70_49, u_70_51, u_70_54, u_70_56, u_70_58, u_70_59, u_70_62, u_70_63, u_70_66, u_70_67, u_70_68, u_70_71, u_70_72, u_70_74, u_70_75, u_70_78, u_70_81, u_70_83, u_70_86, u_70_87, u_70_90, u_70_92, u_70_93, u_70_94, u_70_95, u_70_98, u_70_99, u_70_100, u_70_101, u_70_102, u_70_105, u_70_108, u_70_111, u_70_114, u_70_115, u_70_118, u_70_119, u_70_120, u_70_121, u_70_124, u_70_127, u_70_128, u_70_129, u_70_132, wp_stop, lget, lput1, lput2, kil, hget, hset, vget, vset, fget, fgetC, fput, fputC, iget, igetC, jget, jgetC, qget, qgetC, alen, lenC, oI, oJ, oF, oA, oV, oH, oInc, oIld, oJld, oQld, oR, oLen, oIst, oBst, oJst, oQst, ciOf, rcv, oCp, cat1, cond_true, cond_false, Bool.and_self, Bool.and_true, Bool.true_and, Bool.or_true, Bool.true_or, Bool.or_false, Bool.false_or, Bool.not_false, Bool.not_true, ↓reduceIte, Nat.reduceBEq, Nat.reduceEqDiff, beq_self_eq_true, true_and, and_true, eq_self_iff_true, Nat.reduceAdd, Nat.blt, Nat.ble, z_le, z_lt, z_eq, z_cl, z_add, z_sub, z_mul, z_in, z_lt0, z_ofN, z_m1, z_ltm1, z_m1lt, z_eqm1, z_m1eq, z_m1le, z_lem1, z_beq, nI_0_1, nI_m1lt0, nI_0lem1, not_false_eq_true, not_true_eq_false, forall_const, false_implies, true_implies, implies_true, false_and, and_false, mrg, renc, tra, trv, sg, List.map_cons, List.map_nil, Option.map_some, Option.map_none, Option.toList_some, Option.toList_none, List.cons_append, List.nil_append, List.length_cons, List.length_nil, cF, ex, hjn, t5, hws]
          exact aw_lle [some (.ref 0), some (.ref 3), some (.int (nI kn)), some (.int (nI s)), some (.int (nI (8 - r))), none] ⟨rfl, rfl, rfl, rfl, rfl, trivial⟩ hfin
        · rw [if_neg hjn] at ihn hle' k3 k4 hgo'
          simp (disch := first | exact rfl | decide | omega) only [u_70_0, u_70_1, u_70_4, u_70_5, u_70_8, u_70_9, u_70_12, u_70_13, u_70_16, u_70_17, u_70_20, u_70_21, u_70_22, u_70_23, u_70_24, u_70_25, u_70_28, u_70_29, u_70_31, u_70_33, u_70_35, u_70_38, u_70_39, u_70_42, u_70_43, u_70_44, u_70_47, u_70_48, u_70_49, u_70_51, u_70_54, u_70_56, u_70_58, u_70_59, u_70_62, u_70_63, u_70_66, u_70_67, u_70_68, u_70_71, u_70_72, u_70_74, u_70_75, u_70_78, u_70_81, u_70_83, u_70_86, u_70_87, u_70_90, u_70_92, u_70_93, u_70_94, u_70_95, u_70_98, u_70_99, u_70_100, u_70_101, u_70_102, u_70_105, u_70_108, u_70_111, u_70_114, u_70_115, u_70_118, u_70_119, u_70_120, u_70_121, u_70_124, u_70_127, u_70_128, u_70_129, u_70_132, wp_stop, lget, lput1, lput2, kil, hget, hset, vget, vset, fget, fgetC, fput, fputC, iget, igetC, jget, jgetC, qget, qgetC, alen, lenC, oI, oJ, oF, oA, oV, oH, oInc, oIld, oJld, oQld, oR, oLen, oIst, oBst, oJst, oQst, ciOf, rcv, oCp, cat1, cond_true, cond_false, Bool.and_self, Bool.and_true, Bool.true_and, Bool.or_true, Bool.true_or, Bool.or_false, Bool.false_or, Bool.not_false, Bool.not_true, ↓reduceIte, Nat.reduceBEq, Nat.reduceEqDiff, beq_self_eq_true, true_and, and_true, eq_self_iff_true, Nat.reduceAdd, Nat.blt, Nat.ble, z_le, z_lt, z_eq, z_cl, z_add, z_sub, z_mul, z_in, z_lt0, z_ofN, z_m1, z_ltm1, z_m1lt, z_eqm1, z_m1eq, z_m1le, z_lem1, z_beq, nI_0_1, nI_m1lt0, nI_0lem1, not_false_eq_true, not_true_eq_false, forall_const, false_implies, true_implies, implies_true, false_and, and_false, mrg, renc, tra, trv, sg, List.map_cons, List.map_nil, Option.map_some, Option.map_none, Option.toList_some, Option.toList_none, List.cons_append, List.nil_append, List.length_cons, List.length_nil, cF, mHB, mH, mO, mPO, ex, hjn, t5, hws]
          refine CAL.nm (c_copyOfI 0 β.2.1 (2 * j) wb hnb1 (by omega) (by omega)) [2] rfl rfl rfl (by decide) rfl ?_ (by show _ ≤ gD G; omega) (by show _ ≤ gC G; omega) (by show _ ≤ gS G; omega) (Nat.le_of_ble_eq_true rfl) (by rw [ggn]; exact Nat.le_of_ble_eq_true rfl) rfl rfl ?_
          · rintro r1 hc' ⟨-, g, rfl, -⟩
            exact Nat.le_of_ble_eq_true rfl
          rintro _ _ ⟨rfl, g, rfl, hg⟩
          have t6 : j < 2 * j := by omega
          obtain ⟨w1, w2⟩ := wOK_step (v := c m) (wb2 := g) (nb2 := 2 * j) hext hsub hn2 hj hw ha (by omega) (by omega) hg
          have hfin := ihn Z2 (upd g j (g j + nI (c m))) (k0 + (zC α' - zC β.1) + 1) (n0 + (zS α' - zS β.1) + 2 * j) (by omega) ⟨hz2, hα1, w1, w2, by show 16 ≤ 2 * j; omega, by show 2 * j ≤ 2 ^ 15; omega⟩ (hext s m hm) hle' (by show k0 + (zC α' - zC β.1) + 1 + (zC βF.1 + βF.2.1) ≤ gC G + (zC α' + 2 * j); omega) (by show n0 + (zS α' - zS β.1) + 2 * j + (zS βF.1 + 2 * βF.2.1) ≤ gS G + (zS α' + 2 * (2 * j)); omega) hgo'
          simp (disch := first | exact rfl | decide | omega) only [u_70_0, u_70_1, u_70_4, u_70_5, u_70_8, u_70_9, u_70_12, u_70_13, u_70_16, u_70_17, u_70_20, u_70_21, u_70_22, u_70_23, u_70_24, u_70_25, u_70_28, u_70_29, u_70_31, u_70_33, u_70_35, u_70_38, u_70_39, u_70_42, u_70_43, u_70_44, u_70_47, u_70_48, u_70_49, u_70_51, u_70_54, u_70_56, u_70_58, u_70_59, u_70_62, u_70_63, u_70_66, u_70_67, u_70_68, u_70_71, u_70_72, u_70_74, u_70_75, u_70_78, u_70_81, u_70_83, u_70_86, u_70_87, u_70_90, u_70_92, u_70_93, u_70_94, u_70_95, u_70_98, u_70_99, u_70_100, u_70_101, u_70_102, u_70_105, u_70_108, u_70_111, u_70_114, u_70_115, u_70_118, u_70_119, u_70_120, u_70_121, u_70_124, u_70_127, u_70_128, u_70_129, u_70_132, wp_stop, lget, lput1, lput2, kil, hget, hset, vget, vset, fget, fgetC, fput, fputC, iget, igetC, jget, jgetC, qget, qgetC, alen, lenC, oI, oJ, oF, oA, oV, oH, oInc, oIld, oJld, oQld, oR, oLen, oIst, oBst, oJst, oQst, ciOf, rcv, oCp, cat1, cond_true, cond_false, Bool.and_self, Bool.and_true, Bool.true_and, Bool.or_true, Bool.true_or, Bool.or_false, Bool.false_or, Bool.not_false, Bool.not_true, ↓reduceIte, Nat.reduceBEq, Nat.reduceEqDiff, beq_self_eq_true, true_and, and_true, eq_self_iff_true, Nat.reduceAdd, Nat.blt, Nat.ble, z_le, z_lt, z_eq, z_cl, z_add, z_sub, z_mul, z_in, z_lt0, z_ofN, z_m1, z_ltm1, z_m1lt, z_eqm1, z_m1eq, z_m1le, z_lem1, z_beq, nI_0_1, nI_m1lt0, nI_0lem1, not_false_eq_true, not_true_eq_false, forall_const, false_implies, true_implies, implies_true, false_and, and_false, mrg, renc, tra, trv, sg, List.map_cons, List.map_nil, Option.map_some, Option.map_none, Option.toList_some, Option.toList_none, List.cons_append, List.nil_append, List.length_cons, List.length_nil, ex, t5, hws]
          refine aw_rens tauW (cH na wa (2 * j) (upd g j (g j + nI (c m))) Z2) [some (.ref 0), some (.ref 3), some (.int (nI kn)), some (.int (nI s)), some (.int (nI (8 - r))), some (.int (nI j))] [] rfl (show ((List.range 21).map tauW).Nodup by decide) ?_ rfl rfl ?_
          · intro i h1 h2
            rw [ggm] at h2
            simp only [mvC, Bool.or_eq_false_iff, beq_eq_false_iff_ne] at h2
            simp only [tauW, if_neg h2.1.2]
          · exact aw_lle [some (.ref 0), some (.ref 3), some (.int (nI kn)), some (.int (nI s)), some (.int (nI (8 - r))), none] ⟨rfl, rfl, rfl, rfl, rfl, trivial⟩ hfin
      · rw [Bool.not_eq_true] at hdue
        have e : soS β.1.1 c m (7 - r) β = β := if_neg (fun z => by rw [hdue] at z; exact absurd z.2 (by decide))
        have hgo2 := ih β Z wb k0 n0 (by omega) ⟨hzr, rfl, hw, ha, h16, h15⟩ hm
        have e2 : soX β.1.1 c m (r + 1) β = soX β.1.1 c m r β := by
          show soX β.1.1 c m r (soS β.1.1 c m (7 - r) β) = _
          rw [e]
        rw [e2] at hle hgo
        have hgo3 := hgo2 hle hk hn hgo
        have t3 : (-1 : Int32) < nI β.2.1 := by
          have := (z_m1lt (a := β.2.1) hnb1)
          simpa using this
        refine wq_aw (S := fun x => x == 31 || x == 108) (by decide) (f := 200) ?_
        simp (disch := first | exact rfl | decide | omega) only [v_70_23, v_70_31, u_70_0, u_70_1, u_70_4, u_70_5, u_70_8, u_70_9, u_70_12, u_70_13, u_70_16, u_70_17, u_70_20, u_70_21, u_70_22, u_70_23, u_70_24, u_70_25, u_70_28, u_70_29, u_70_31, u_70_33, u_70_35, u_70_38, u_70_39, u_70_42, u_70_43, u_70_44, u_70_47, u_70_48, u_70_49, u_70_51, u_70_54, u_70_56, u_70_58, u_70_59, u_70_62, u_70_63, u_70_66, u_70_67, u_70_68, u_70_71, u_70_72, u_70_74, u_70_75, u_70_78, u_70_81, u_70_83, u_70_86, u_70_87, u_70_90, u_70_92, u_70_93, u_70_94, u_70_95, u_70_98, u_70_99, u_70_100, u_70_101, u_70_102, u_70_105, u_70_108, u_70_111, u_70_114, u_70_115, u_70_118, u_70_119, u_70_120, u_70_121, u_70_124, u_70_127, u_70_128, u_70_129, u_70_132, wp_stop, lget, lput1, lput2, kil, hget, hset, vget, vset, fget, fgetC, fput, fputC, iget, igetC, jget, jgetC, qget, qgetC, alen, lenC, oI, oJ, oF, oA, oV, oH, oInc, oIld, oJld, oQld, oR, oLen, oIst, oBst, oJst, oQst, ciOf, rcv, oCp, cat1, cond_true, cond_false, Bool.and_self, Bool.and_true, Bool.true_and, Bool.or_true, Bool.true_or, Bool.or_false, Bool.false_or, Bool.not_false, Bool.not_true, ↓reduceIte, Nat.reduceBEq, Nat.reduceEqDiff, beq_self_eq_true, true_and, and_true, eq_self_iff_true, Nat.reduceAdd, Nat.blt, Nat.ble, z_le, z_lt, z_eq, z_cl, z_add, z_sub, z_mul, z_in, z_lt0, z_ofN, z_m1, z_ltm1, z_m1lt, z_eqm1, z_m1eq, z_m1le, z_lem1, z_beq, nI_0_1, nI_m1lt0, nI_0lem1, not_false_eq_true, not_true_eq_false, forall_const, false_implies, true_implies, implies_true, false_and, and_false, mrg, renc, tra, trv, sg, List.map_cons, List.map_nil, Option.map_some, Option.map_none, Option.toList_some, Option.toList_none, List.cons_append, List.nil_append, List.length_cons, List.length_nil, cH, cF, mHB_0, mO, t1, hws, q]
        show CAL _ _ _ (.ref (cF na wa β.2.1 wb).length :: _) _ _ _ (cF na wa β.2.1 wb ++ mHB (cF na wa β.2.1 wb).length Z) _ _
        refine CAL.oneN (cF na wa β.2.1 wb) (z_stepNo 0 hzr hm hx hdue) (okF_cF _ _ _ _) (fun _ => rfl) (fun r hc' q => hr_same (Z := Z) (fun _ => rfl) q) (by show _ ≤ gD G; omega) (by show _ ≤ gC G; omega) (by show _ ≤ gS G; omega) (Nat.le_of_ble_eq_true rfl) (by rw [ggn]; exact Nat.le_of_ble_eq_true rfl) rfl rfl ?_
        rintro _ Z' ⟨rfl, hZ⟩
        have hZ2 := mH_inj (Z' := Z) hZ
        show WP _ _ _ _ _ _ _ (cF na wa β.2.1 wb ++ mHB 3 Z') _ _
        rw [hZ2]
        simp (disch := first | exact rfl | decide | omega) only [u_70_0, u_70_1, u_70_4, u_70_5, u_70_8, u_70_9, u_70_12, u_70_13, u_70_16, u_70_17, u_70_20, u_70_21, u_70_22, u_70_23, u_70_24, u_70_25, u_70_28, u_70_29, u_70_31, u_70_33, u_70_35, u_70_38, u_70_39, u_70_42, u_70_43, u_70_44, u_70_47, u_70_48, u_70_49, u_70_51, u_70_54, u_70_56, u_70_58, u_70_59, u_70_62, u_70_63, u_70_66, u_70_67, u_70_68, u_70_71, u_70_72, u_70_74, u_70_75, u_70_78, u_70_81, u_70_83, u_70_86, u_70_87, u_70_90, u_70_92, u_70_93, u_70_94, u_70_95, u_70_98, u_70_99, u_70_100, u_70_101, u_70_102, u_70_105, u_70_108, u_70_111, u_70_114, u_70_115, u_70_118, u_70_119, u_70_120, u_70_121, u_70_124, u_70_127, u_70_128, u_70_129, u_70_132, wp_stop, lget, lput1, lput2, kil, hget, hset, vget, vset, fget, fgetC, fput, fputC, iget, igetC, jget, jgetC, qget, qgetC, alen, lenC, oI, oJ, oF, oA, oV, oH, oInc, oIld, oJld, oQld, oR, oLen, oIst, oBst, oJst, oQst, ciOf, rcv, oCp, cat1, cond_true, cond_false, Bool.and_self, Bool.and_true, Bool.true_and, Bool.or_true, Bool.true_or, Bool.or_false, Bool.false_or, Bool.not_false, Bool.not_true, ↓reduceIte, Nat.reduceBEq, Nat.reduceEqDiff, beq_self_eq_true, true_and, and_true, eq_self_iff_true, Nat.reduceAdd, Nat.blt, Nat.ble, z_le, z_lt, z_eq, z_cl, z_add, z_sub, z_mul, z_in, z_lt0, z_ofN, z_m1, z_ltm1, z_m1lt, z_eqm1, z_m1eq, z_m1le, z_lem1, z_beq, nI_0_1, nI_m1lt0, nI_0lem1, not_false_eq_true, not_true_eq_false, forall_const, false_implies, true_implies, implies_true, false_and, and_false, mrg, renc, tra, trv, sg, List.map_cons, List.map_nil, Option.map_some, Option.map_none, Option.toList_some, Option.toList_none, List.cons_append, List.nil_append, List.length_cons, List.length_nil, cF, ex, t3]
        exact aw_lle [some (.ref 0), some (.ref 3), some (.int (nI kn)), some (.int (nI s)), some (.int (nI (8 - r))), none] ⟨rfl, rfl, rfl, rfl, rfl, trivial⟩ hgo3
end ON
