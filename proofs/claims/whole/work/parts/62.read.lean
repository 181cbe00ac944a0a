/-! GrammarReader: what it takes -/
theorem popW_inv (op : Nat) (hop : 1 ≤ op) : ∀ (W L : List Nat), (popW op W L).2.length + nzW (popW op W L).1 = L.length + nzW W ∧ (∀ o, W.length = nzW W + o → (popW op W L).1.length = nzW (popW op W L).1 + o) ∧ (popW op W L).1.length ≤ W.length ∧ L.length ≤ (popW op W L).2.length
  | [], L => ⟨rfl, fun o h => h, Nat.le_refl _, Nat.le_refl _⟩
  | t :: W, L => by
    unfold popW
    by_cases q : op ≤ t
    · rw [if_pos q]
      obtain ⟨h1, h2, h3, h4⟩ := popW_inv op hop W (L ++ [t])
      rw [List.length_append, List.length_singleton] at h1 h4
      rw [nzW_c, if_neg (by omega)]
      refine ⟨by omega, fun o h => h2 o ?_, by rw [List.length_cons]; omega, by omega⟩
      rw [List.length_cons] at h
      omega
    · rw [if_neg q]
      exact ⟨rfl, fun o h => h, Nat.le_refl _, Nat.le_refl _⟩
theorem popW_mem (op : Nat) : ∀ (W L : List Nat), (∀ y ∈ (popW op W L).1, y ∈ W) ∧ (∀ y ∈ (popW op W L).2, y ∈ L ∨ y ∈ W) ∧ ∀ wt, wtR wt W → wtR wt (popW op W L).1
  | [], L => ⟨fun y h => h, fun y h => Or.inl h, fun wt h => h⟩
  | t :: W, L => by
    unfold popW
    by_cases q : op ≤ t
    · rw [if_pos q]
      obtain ⟨h1, h2, h3⟩ := popW_mem op W (L ++ [t])
      refine ⟨fun y hy => List.mem_cons_of_mem _ (h1 y hy), fun y hy => ?_, fun wt h => h3 wt h.2⟩
      rcases h2 y hy with z | z
      · rcases List.mem_append.mp z with z | z
        · exact Or.inl z
        · rw [List.mem_singleton.mp z]
          exact Or.inr (List.mem_cons_self ..)
      · exact Or.inr (List.mem_cons_of_mem _ z)
    · rw [if_neg q]
      exact ⟨fun y h => h, fun y h => Or.inl h, fun wt h => h⟩
/-- down to a bracket -/
theorem popW_1 : ∀ (W L : List Nat), (popW 1 W L).1 = [] ∨ ∃ W', (popW 1 W L).1 = 0 :: W'
  | [], L => Or.inl rfl
  | t :: W, L => by
    unfold popW
    by_cases q : 1 ≤ t
    · rw [if_pos q]
      exact popW_1 W (L ++ [t])
    · rw [if_neg q]
      exact Or.inr ⟨W, by rw [show t = 0 by omega]⟩
theorem nz_hd {W : List Nat} {o : Nat} (h : W.length = nzW W + o) (h0 : 0 < o) : W ≠ [] := by
  intro q
  subst q
  simp [nzW] at h
  omega
/-- phase, owner, waiting, open, nodes, placed, the grammar, orders -/
abbrev rS : Type := Nat × Nat × List Nat × Nat × Nat × List Nat × (Nat → List Nat) × Nat
abbrev rS.ph (σ : rS) : Nat := σ.1
abbrev rS.own (σ : rS) : Nat := σ.2.1
abbrev rS.W (σ : rS) : List Nat := σ.2.2.1
abbrev rS.o (σ : rS) : Nat := σ.2.2.2.1
abbrev rS.nd (σ : rS) : Nat := σ.2.2.2.2.1
abbrev rS.L (σ : rS) : List Nat := σ.2.2.2.2.2.1
abbrev rS.Gr (σ : rS) : Nat → List Nat := σ.2.2.2.2.2.2.1
abbrev rS.ord (σ : rS) : Nat := σ.2.2.2.2.2.2.2
def updG (g : Nat → List Nat) (x : Nat) (L : List Nat) : Nat → List Nat := fun y => if y = x then L else g y
/-- a node that stands by itself or behind a unit -/
def rdN (σ : rS) (k : Nat) : Option rS := if σ.nd + 1 ≤ 16 then some (3, σ.own, σ.W, σ.o, σ.nd + 1, σ.L ++ [k], σ.Gr, σ.ord) else none
/-- an operator between -/
def rdB (σ : rS) (k : Nat) : Option rS := if σ.nd + 1 ≤ 16 then some (2, σ.own, k :: (popW k σ.W σ.L).1, σ.o, σ.nd + 1, (popW k σ.W σ.L).2, σ.Gr, σ.ord) else none
def rdO (σ : rS) (c : Nat) : Option rS := if c = 94 then some (1, 8, [], 0, 0, [], σ.Gr, σ.ord) else if 97 ≤ c ∧ c ≤ 104 then some (1, c - 97, [], 0, 0, [], σ.Gr, σ.ord) else none
def rdU (σ : rS) (c : Nat) : Option rS := if c = 40 then (if σ.o + 1 ≤ 8 then some (2, σ.own, 0 :: σ.W, σ.o + 1, σ.nd, σ.L, σ.Gr, σ.ord) else none) else if 97 ≤ c ∧ c ≤ 104 then rdN σ (c - 97 + 1) else if c = 95 then rdN σ 9 else none
def rdC (σ : rS) : Option rS := if 0 < σ.o then some (3, σ.own, (popW 1 σ.W σ.L).1.tail, σ.o - 1, σ.nd, (popW 1 σ.W σ.L).2, σ.Gr, σ.ord) else none
def rdE (σ : rS) : Option rS := if σ.o = 0 then some (0, σ.own, (popW 1 σ.W σ.L).1, σ.o, σ.nd, (popW 1 σ.W σ.L).2, updG σ.Gr σ.own (popW 1 σ.W σ.L).2, σ.ord + 1) else none
def rdH (σ : rS) (c : Nat) : Option rS := if c = 63 then rdN σ 13 else if c = 42 then rdN σ 14 else if c = 43 then rdN σ 15 else if c = 44 then rdB σ 12 else if c = 38 then rdB σ 11 else if c = 124 then rdB σ 10 else if c = 41 then rdC σ else if c = 59 then rdE σ else none
/-- one byte that is no blank -/
def rdT (σ : rS) (c : Nat) : Option rS := if σ.ph = 0 then rdO σ c else if σ.ph = 1 then (if c = 61 then some (2, σ.2) else none) else if σ.ph = 2 then rdU σ c else rdH σ c
def rdR (h : aH) (σ : rS) : Prop := ∃ pts wt w o nd k pat own, h = rX pts wt w o nd k pat own (nI σ.ph) (nI σ.ord) ∧ (∀ x, x < 9 → pts x = lN (encN (σ.Gr x))) ∧ (1 ≤ σ.ph → w = nI σ.W.length ∧ o = nI σ.o ∧ nd = nI σ.nd ∧ k = nI σ.L.length ∧ pat = lN (encN σ.L) ∧ own = nI σ.own ∧ wtR wt σ.W)
def rdI (σ : rS) : Prop := σ.ph ≤ 3 ∧ σ.ord < 2 ^ 20 ∧ (1 ≤ σ.ph → σ.own < 9 ∧ σ.o ≤ 8 ∧ σ.nd ≤ 16 ∧ σ.L.length + nzW σ.W = σ.nd ∧ σ.W.length = nzW σ.W + σ.o ∧ (∀ y ∈ σ.L, y < 16) ∧ (∀ y ∈ σ.W, y < 16) ∧ (σ.ph = 3 → 1 ≤ σ.L.length))
def rdX (h : aH) : Prop := ∃ pts wt w o nd k pat own ph ord, h = rX pts wt w o nd k pat own ph ord
def rdP (q : Option rS) (r : Option Value) (h' : aH) : Prop := match q with
  | some σ => r = some (.int (nI 1)) ∧ rdR h' σ
  | none => r = some (.int (nI 0)) ∧ rdX h'
section RD2
variable (pts : Nat → Int64) (wt : Nat → Int32) (o nd : Int32) (own ph ord : Int32)
set_option maxRecDepth 100000 in
theorem c_takesBetween (d op : Nat) (hop : 1 ≤ op) (hop2 : op < 16) (W L : List Nat) (h1 : W.length < 24) (h2 : ∀ y ∈ L, y < 16) (h3 : ∀ y ∈ W, y < 16) (h4 : L.length + nzW W ≤ 16) (h5 : wtR wt W) : aSp (d + 2) 47 [.ref 0, .int (nI op)] (rX pts wt (nI W.length) o nd (nI L.length) (lN (encN L)) own ph ord) nomv 0 0 (fun r h' => r = some (.int (nI 1)) ∧ h' = rX pts (upd wt (popW op W L).1.length (nI op)) (nI ((popW op W L).1.length + 1)) o nd (nI (popW op W L).2.length) (lN (encN (popW op W L).2)) own (nI 2) ord) := by
  have hp := popW_inv op hop W L
  have hpw := c_placeWaiting pts wt o nd own ph ord d op hop hop2 W L (by omega) h2 h3 h4 h5
  generalize popW op W L = Q at *
  refine sp_of (by decide) (Nat.le_of_ble_eq_true rfl) ?_
  generalize hG : ((d + 2, _, nomv, _, _, _) : aG) = G
  have ggd : gD G = d + 2 := by subst hG; rfl
  have ggn : gN G = 3 := by subst hG; rfl
  have ggm : gM G = nomv := by subst hG; rfl
  have ggc : gC G = 0 := by subst hG; rfl
  have ggs : gS G = 0 := by subst hG; rfl
  have hret : RET G (some (.int (nI 1))) (rX pts (upd wt Q.1.length (nI op)) (nI (Q.1.length + 1)) o nd (nI Q.2.length) (lN (encN Q.2)) own (nI 2) ord) 0 0 := by
    subst hG
    exact RET.id ⟨rfl, rfl⟩ (Nat.le_refl _) (Nat.le_refl _)
  clear hG
  refine wp_aw (S := fun _ => false) (by decide) 200 _ _ _ _ _ _ ?_
  simp (disch := first | exact rfl | decide | omega) only [u_47_0, u_47_1, u_47_2, u_47_5, u_47_6, u_47_7, u_47_10, u_47_11, u_47_12, u_47_15, wp_stop, lget, lput1, lput2, kil, hget, hset, vget, vset, fget, fgetC, fput, fputC, iget, igetC, jget, jgetC, qget, qgetC, alen, lenC, oI, oJ, oF, oA, oV, oH, oInc, oIld, oJld, oQld, oR, oLen, oIst, oBst, oJst, oQst, ciOf, rcv, oCp, cat1, cond_true, cond_false, Bool.and_self, Bool.and_true, Bool.true_and, Bool.or_true, Bool.true_or, Bool.or_false, Bool.false_or, Bool.not_false, Bool.not_true, ↓reduceIte, Nat.reduceBEq, Nat.reduceEqDiff, beq_self_eq_true, true_and, and_true, eq_self_iff_true, Nat.reduceAdd, Nat.blt, Nat.ble, z_le, z_lt, z_eq, z_cl, z_add, z_sub, z_mul, z_in, z_lt0, z_ofN, z_m1, z_ltm1, z_m1lt, z_eqm1, z_m1eq, z_m1le, z_lem1, z_beq, nI_0_1, nI_m1lt0, nI_0lem1, not_false_eq_true, not_true_eq_false, forall_const, false_implies, true_implies, implies_true, false_and, and_false, mrg, renc, tra, trv, sg, List.map_cons, List.map_nil, Option.map_some, Option.map_none, Option.toList_some, Option.toList_none, List.cons_append, List.nil_append, List.length_cons, List.length_nil, eL, mL_47, rX]
  refine CAL.dir (hpw) (by rw [ggd]; omega) (by rw [ggc]; omega) (by rw [ggs]; omega) (Nat.le_of_ble_eq_true rfl) (by rw [ggn]; exact Nat.le_of_ble_eq_true rfl) rfl rfl ?_
  rintro _ _ ⟨rfl, rfl⟩
  simp (disch := first | exact rfl | decide | omega) only [u_47_0, u_47_1, u_47_2, u_47_5, u_47_6, u_47_7, u_47_10, u_47_11, u_47_12, u_47_15, wp_stop, lget, lput1, lput2, kil, hget, hset, vget, vset, fget, fgetC, fput, fputC, iget, igetC, jget, jgetC, qget, qgetC, alen, lenC, oI, oJ, oF, oA, oV, oH, oInc, oIld, oJld, oQld, oR, oLen, oIst, oBst, oJst, oQst, ciOf, rcv, oCp, cat1, cond_true, cond_false, Bool.and_self, Bool.and_true, Bool.true_and, Bool.or_true, Bool.true_or, Bool.or_false, Bool.false_or, Bool.not_false, Bool.not_true, ↓reduceIte, Nat.reduceBEq, Nat.reduceEqDiff, beq_self_eq_true, true_and, and_true, eq_self_iff_true, Nat.reduceAdd, Nat.blt, Nat.ble, z_le, z_lt, z_eq, z_cl, z_add, z_sub, z_mul, z_in, z_lt0, z_ofN, z_m1, z_ltm1, z_m1lt, z_eqm1, z_m1eq, z_m1le, z_lem1, z_beq, nI_0_1, nI_m1lt0, nI_0lem1, not_false_eq_true, not_true_eq_false, forall_const, false_implies, true_implies, implies_true, false_and, and_false, mrg, renc, tra, trv, sg, List.map_cons, List.map_nil, Option.map_some, Option.map_none, Option.toList_some, Option.toList_none, List.cons_append, List.nil_append, List.length_cons, List.length_nil, rX]
  refine CAL.dir (c_waitsFor pts wt o nd (nI Q.2.length) (lN (encN Q.2)) own (nI 2) ord d Q.1.length (nI op) (by omega)) (by rw [ggd]; omega) (by rw [ggc]; omega) (by rw [ggs]; omega) (Nat.le_of_ble_eq_true rfl) (by rw [ggn]; exact Nat.le_of_ble_eq_true rfl) rfl rfl ?_
  rintro _ _ ⟨rfl, rfl⟩
  simp (disch := first | exact rfl | decide | omega) only [u_47_0, u_47_1, u_47_2, u_47_5, u_47_6, u_47_7, u_47_10, u_47_11, u_47_12, u_47_15, wp_stop, lget, lput1, lput2, kil, hget, hset, vget, vset, fget, fgetC, fput, fputC, iget, igetC, jget, jgetC, qget, qgetC, alen, lenC, oI, oJ, oF, oA, oV, oH, oInc, oIld, oJld, oQld, oR, oLen, oIst, oBst, oJst, oQst, ciOf, rcv, oCp, cat1, cond_true, cond_false, Bool.and_self, Bool.and_true, Bool.true_and, Bool.or_true, Bool.true_or, Bool.or_false, Bool.false_or, Bool.not_false, Bool.not_true, ↓reduceIte, Nat.reduceBEq, Nat.reduceEqDiff, beq_self_eq_true, true_and, and_true, eq_self_iff_true, Nat.reduceAdd, Nat.blt, Nat.ble, z_le, z_lt, z_eq, z_cl, z_add, z_sub, z_mul, z_in, z_lt0, z_ofN, z_m1, z_ltm1, z_m1lt, z_eqm1, z_m1eq, z_m1le, z_lem1, z_beq, nI_0_1, nI_m1lt0, nI_0lem1, not_false_eq_true, not_true_eq_false, forall_const, false_implies, true_implies, implies_true, false_and, and_false, mrg, renc, tra, trv, sg, List.map_cons, List.map_nil, Option.map_some, Option.map_none, Option.toList_some, Option.toList_none, List.cons_append, List.nil_append, List.length_cons, List.length_nil, show (nI 1 == nI 0 || nI 1 == nI 1) = true by decide]
  exact hret
theorem max0 {x : Nat} : (if 0 < x then nI x else nI 0) = nI x := by
  split
  · rfl
  · rw [show x = 0 by omega]
set_option maxRecDepth 100000 in
theorem c_takesClosing (d oo : Nat) (W L : List Nat) (h0 : 0 < oo) (ho : oo ≤ 8) (h1 : W.length ≤ 24) (h2 : ∀ y ∈ L, y < 16) (h3 : ∀ y ∈ W, y < 16) (h4 : L.length + nzW W ≤ 16) (h5 : wtR wt W) (h6 : 1 ≤ (popW 1 W L).1.length) : aSp (d + 2) 49 [.ref 0] (rX pts wt (nI W.length) (nI oo) nd (nI L.length) (lN (encN L)) own ph ord) nomv 0 0 (fun r h' => r = some (.int (nI 1)) ∧ h' = rX pts wt (nI ((popW 1 W L).1.length - 1)) (nI (oo - 1)) nd (nI (popW 1 W L).2.length) (lN (encN (popW 1 W L).2)) own ph ord) := by
  have hp := popW_inv 1 (Nat.le_refl _) W L
  have hpw := c_placeWaiting pts wt (nI oo) nd own ph ord d 1 (Nat.le_refl _) (by decide) W L (by omega) h2 h3 h4 h5
  generalize popW 1 W L = Q at *
  refine sp_of (by decide) (Nat.le_of_ble_eq_true rfl) ?_
  generalize hG : ((d + 2, _, nomv, _, _, _) : aG) = G
  have ggd : gD G = d + 2 := by subst hG; rfl
  have ggn : gN G = 3 := by subst hG; rfl
  have ggm : gM G = nomv := by subst hG; rfl
  have ggc : gC G = 0 := by subst hG; rfl
  have ggs : gS G = 0 := by subst hG; rfl
  have hret : RET G (some (.int (nI 1))) (rX pts wt (nI (Q.1.length - 1)) (nI (oo - 1)) nd (nI Q.2.length) (lN (encN Q.2)) own ph ord) 0 0 := by
    subst hG
    exact RET.id ⟨rfl, rfl⟩ (Nat.le_refl _) (Nat.le_refl _)
  clear hG
  have e1 := max0 (x := Q.1.length - 1)
  refine wp_aw (S := fun _ => false) (by decide) 200 _ _ _ _ _ _ ?_
  simp (disch := first | exact rfl | decide | omega) only [u_49_0, u_49_1, u_49_2, u_49_5, u_49_6, u_49_7, u_49_8, u_49_11, u_49_12, u_49_13, u_49_16, u_49_19, u_49_20, u_49_21, u_49_24, u_49_25, u_49_26, u_49_29, u_49_30, wp_stop, lget, lput1, lput2, kil, hget, hset, vget, vset, fget, fgetC, fput, fputC, iget, igetC, jget, jgetC, qget, qgetC, alen, lenC, oI, oJ, oF, oA, oV, oH, oInc, oIld, oJld, oQld, oR, oLen, oIst, oBst, oJst, oQst, ciOf, rcv, oCp, cat1, cond_true, cond_false, Bool.and_self, Bool.and_true, Bool.true_and, Bool.or_true, Bool.true_or, Bool.or_false, Bool.false_or, Bool.not_false, Bool.not_true, ↓reduceIte, Nat.reduceBEq, Nat.reduceEqDiff, beq_self_eq_true, true_and, and_true, eq_self_iff_true, Nat.reduceAdd, Nat.blt, Nat.ble, z_le, z_lt, z_eq, z_cl, z_add, z_sub, z_mul, z_in, z_lt0, z_ofN, z_m1, z_ltm1, z_m1lt, z_eqm1, z_m1eq, z_m1le, z_lem1, z_beq, nI_0_1, nI_m1lt0, nI_0lem1, not_false_eq_true, not_true_eq_false, forall_const, false_implies, true_implies, implies_true, false_and, and_false, mrg, renc, tra, trv, sg, List.map_cons, List.map_nil, Option.map_some, Option.map_none, Option.toList_some, Option.toList_none, List.cons_append, List.nil_append, List.length_cons, List.length_nil, eL, mL_49, rX]
  refine CAL.dir (hpw) (by rw [ggd]; omega) (by rw [ggc]; omega) (by rw [ggs]; omega) (Nat.le_of_ble_eq_true rfl) (by rw [ggn]; exact Nat.le_of_ble_eq_true rfl) rfl rfl ?_
  rintro _ _ ⟨rfl, rfl⟩
  simp (disch := first | exact rfl | decide | omega) only [u_49_0, u_49_1, u_49_2, u_49_5, u_49_6, u_49_7, u_49_8, u_49_11, u_49_12, u_49_13, u_49_16, u_49_19, u_49_20, u_49_21, u_49_24, u_49_25, u_49_26, u_49_29, u_49_30, wp_stop, lget, lput1, lput2, kil, hget, hset, vget, vset, fget, fgetC, fput, fputC, iget, igetC, jget, jgetC, qget, qgetC, alen, lenC, oI, oJ, oF, oA, oV, oH, oInc, oIld, oJld, oQld, oR, oLen, oIst, oBst, oJst, oQst, ciOf, rcv, oCp, cat1, cond_true, cond_false, Bool.and_self, Bool.and_true, Bool.true_and, Bool.or_true, Bool.true_or, Bool.or_false, Bool.false_or, Bool.not_false, Bool.not_true, ↓reduceIte, Nat.reduceBEq, Nat.reduceEqDiff, beq_self_eq_true, true_and, and_true, eq_self_iff_true, Nat.reduceAdd, Nat.blt, Nat.ble, z_le, z_lt, z_eq, z_cl, z_add, z_sub, z_mul, z_in, z_lt0, z_ofN, z_m1, z_ltm1, z_m1lt, z_eqm1, z_m1eq, z_m1le, z_lem1, z_beq, nI_0_1, nI_m1lt0, nI_0lem1, not_false_eq_true, not_true_eq_false, forall_const, false_implies, true_implies, implies_true, false_and, and_false, mrg, renc, tra, trv, sg, List.map_cons, List.map_nil, Option.map_some, Option.map_none, Option.toList_some, Option.toList_none, List.cons_append, List.nil_append, List.length_cons, List.length_nil, rX]
  refine CAL.dir (c_max d _ _ _) (by rw [ggd]; omega) (by rw [ggc]; omega) (by rw [ggs]; omega) (Nat.le_of_ble_eq_true rfl) (by rw [ggn]; exact Nat.le_of_ble_eq_true rfl) rfl rfl ?_
  rintro _ _ ⟨rfl, rfl⟩
  simp (disch := first | exact rfl | decide | omega) only [u_49_0, u_49_1, u_49_2, u_49_5, u_49_6, u_49_7, u_49_8, u_49_11, u_49_12, u_49_13, u_49_16, u_49_19, u_49_20, u_49_21, u_49_24, u_49_25, u_49_26, u_49_29, u_49_30, wp_stop, lget, lput1, lput2, kil, hget, hset, vget, vset, fget, fgetC, fput, fputC, iget, igetC, jget, jgetC, qget, qgetC, alen, lenC, oI, oJ, oF, oA, oV, oH, oInc, oIld, oJld, oQld, oR, oLen, oIst, oBst, oJst, oQst, ciOf, rcv, oCp, cat1, cond_true, cond_false, Bool.and_self, Bool.and_true, Bool.true_and, Bool.or_true, Bool.true_or, Bool.or_false, Bool.false_or, Bool.not_false, Bool.not_true, ↓reduceIte, Nat.reduceBEq, Nat.reduceEqDiff, beq_self_eq_true, true_and, and_true, eq_self_iff_true, Nat.reduceAdd, Nat.blt, Nat.ble, z_le, z_lt, z_eq, z_cl, z_add, z_sub, z_mul, z_in, z_lt0, z_ofN, z_m1, z_ltm1, z_m1lt, z_eqm1, z_m1eq, z_m1le, z_lem1, z_beq, nI_0_1, nI_m1lt0, nI_0lem1, not_false_eq_true, not_true_eq_false, forall_const, false_implies, true_implies, implies_true, false_and, and_false, mrg, renc, tra, trv, sg, List.map_cons, List.map_nil, Option.map_some, Option.map_none, Option.toList_some, Option.toList_none, List.cons_append, List.nil_append, List.length_cons, List.length_nil, e1, show (nI 1 == nI 0 || nI 1 == nI 1) = true by decide]
  exact hret
set_option maxRecDepth 100000 in
theorem c_takesEnd (d x n : Nat) (hx : x < 9) (hn : n < 2 ^ 20) (W L : List Nat) (h1 : W.length ≤ 24) (h2 : ∀ y ∈ L, y < 16) (h3 : ∀ y ∈ W, y < 16) (h4 : L.length + nzW W ≤ 16) (h5 : wtR wt W) : aSp (d + 2) 50 [.ref 0] (rX pts wt (nI W.length) o nd (nI L.length) (lN (encN L)) (nI x) ph (nI n)) nomv 0 0 (fun r h' => r = some (.int (nI 1)) ∧ h' = rX (vp_updL pts x (lN (encN (popW 1 W L).2))) wt (nI (popW 1 W L).1.length) o nd (nI (popW 1 W L).2.length) (lN (encN (popW 1 W L).2)) (nI x) (nI 0) (nI (n + 1))) := by
  have hpw := c_placeWaiting pts wt o nd (nI x) ph (nI n) d 1 (Nat.le_refl _) (by decide) W L (by omega) h2 h3 h4 h5
  generalize popW 1 W L = Q at *
  refine sp_of (by decide) (Nat.le_of_ble_eq_true rfl) ?_
  generalize hG : ((d + 2, _, nomv, _, _, _) : aG) = G
  have ggd : gD G = d + 2 := by subst hG; rfl
  have ggn : gN G = 3 := by subst hG; rfl
  have ggm : gM G = nomv := by subst hG; rfl
  have ggc : gC G = 0 := by subst hG; rfl
  have ggs : gS G = 0 := by subst hG; rfl
  have hret : RET G (some (.int (nI 1))) (rX (vp_updL pts x (lN (encN Q.2))) wt (nI Q.1.length) o nd (nI Q.2.length) (lN (encN Q.2)) (nI x) (nI 0) (nI (n + 1))) 0 0 := by
    subst hG
    exact RET.id ⟨rfl, rfl⟩ (Nat.le_refl _) (Nat.le_refl _)
  clear hG
  refine wp_aw (S := fun _ => false) (by decide) 200 _ _ _ _ _ _ ?_
  simp (disch := first | exact rfl | decide | omega) only [u_50_0, u_50_1, u_50_4, u_50_7, u_50_10, u_50_11, u_50_12, u_50_13, u_50_14, u_50_17, u_50_18, u_50_21, u_50_22, u_50_25, u_50_26, u_50_29, u_50_30, u_50_31, u_50_32, u_50_35, u_50_36, u_50_37, u_50_40, u_50_41, u_50_42, u_50_45, u_50_46, wp_stop, lget, lput1, lput2, kil, hget, hset, vget, vset, fget, fgetC, fput, fputC, iget, igetC, jget, jgetC, qget, qgetC, alen, lenC, oI, oJ, oF, oA, oV, oH, oInc, oIld, oJld, oQld, oR, oLen, oIst, oBst, oJst, oQst, ciOf, rcv, oCp, cat1, cond_true, cond_false, Bool.and_self, Bool.and_true, Bool.true_and, Bool.or_true, Bool.true_or, Bool.or_false, Bool.false_or, Bool.not_false, Bool.not_true, ↓reduceIte, Nat.reduceBEq, Nat.reduceEqDiff, beq_self_eq_true, true_and, and_true, eq_self_iff_true, Nat.reduceAdd, Nat.blt, Nat.ble, z_le, z_lt, z_eq, z_cl, z_add, z_sub, z_mul, z_in, z_lt0, z_ofN, z_m1, z_ltm1, z_m1lt, z_eqm1, z_m1eq, z_m1le, z_lem1, z_beq, nI_0_1, nI_m1lt0, nI_0lem1, not_false_eq_true, not_true_eq_false, forall_const, false_implies, true_implies, implies_true, false_and, and_false, mrg, renc, tra, trv, sg, List.map_cons, List.map_nil, Option.map_some, Option.map_none, Option.toList_some, Option.toList_none, List.cons_append, List.nil_append, List.length_cons, List.length_nil, eL, mL_50, rX]
  refine CAL.dir (c_ownY d x hx _) (by rw [ggd]; omega) (by rw [ggc]; omega) (by rw [ggs]; omega) (Nat.le_of_ble_eq_true rfl) (by rw [ggn]; exact Nat.le_of_ble_eq_true rfl) rfl rfl ?_
  rintro _ _ ⟨rfl, rfl⟩
  simp (disch := first | exact rfl | decide | omega) only [u_50_0, u_50_1, u_50_4, u_50_7, u_50_10, u_50_11, u_50_12, u_50_13, u_50_14, u_50_17, u_50_18, u_50_21, u_50_22, u_50_25, u_50_26, u_50_29, u_50_30, u_50_31, u_50_32, u_50_35, u_50_36, u_50_37, u_50_40, u_50_41, u_50_42, u_50_45, u_50_46, wp_stop, lget, lput1, lput2, kil, hget, hset, vget, vset, fget, fgetC, fput, fputC, iget, igetC, jget, jgetC, qget, qgetC, alen, lenC, oI, oJ, oF, oA, oV, oH, oInc, oIld, oJld, oQld, oR, oLen, oIst, oBst, oJst, oQst, ciOf, rcv, oCp, cat1, cond_true, cond_false, Bool.and_self, Bool.and_true, Bool.true_and, Bool.or_true, Bool.true_or, Bool.or_false, Bool.false_or, Bool.not_false, Bool.not_true, ↓reduceIte, Nat.reduceBEq, Nat.reduceEqDiff, beq_self_eq_true, true_and, and_true, eq_self_iff_true, Nat.reduceAdd, Nat.blt, Nat.ble, z_le, z_lt, z_eq, z_cl, z_add, z_sub, z_mul, z_in, z_lt0, z_ofN, z_m1, z_ltm1, z_m1lt, z_eqm1, z_m1eq, z_m1le, z_lem1, z_beq, nI_0_1, nI_m1lt0, nI_0lem1, not_false_eq_true, not_true_eq_false, forall_const, false_implies, true_implies, implies_true, false_and, and_false, mrg, renc, tra, trv, sg, List.map_cons, List.map_nil, Option.map_some, Option.map_none, Option.toList_some, Option.toList_none, List.cons_append, List.nil_append, List.length_cons, List.length_nil, rX, show ¬ (1 : Nat) = 0 by decide]
  refine CAL.dir (hpw) (by rw [ggd]; omega) (by rw [ggc]; omega) (by rw [ggs]; omega) (Nat.le_of_ble_eq_true rfl) (by rw [ggn]; exact Nat.le_of_ble_eq_true rfl) rfl rfl ?_
  rintro _ _ ⟨rfl, rfl⟩
  simp (disch := first | exact rfl | decide | omega) only [u_50_0, u_50_1, u_50_4, u_50_7, u_50_10, u_50_11, u_50_12, u_50_13, u_50_14, u_50_17, u_50_18, u_50_21, u_50_22, u_50_25, u_50_26, u_50_29, u_50_30, u_50_31, u_50_32, u_50_35, u_50_36, u_50_37, u_50_40, u_50_41, u_50_42, u_50_45, u_50_46, wp_stop, lget, lput1, lput2, kil, hget, hset, vget, vset, fget, fgetC, fput, fputC, iget, igetC, jget, jgetC, qget, qgetC, alen, lenC, oI, oJ, oF, oA, oV, oH, oInc, oIld, oJld, oQld, oR, oLen, oIst, oBst, oJst, oQst, ciOf, rcv, oCp, cat1, cond_true, cond_false, Bool.and_self, Bool.and_true, Bool.true_and, Bool.or_true, Bool.true_or, Bool.or_false, Bool.false_or, Bool.not_false, Bool.not_true, ↓reduceIte, Nat.reduceBEq, Nat.reduceEqDiff, beq_self_eq_true, true_and, and_true, eq_self_iff_true, Nat.reduceAdd, Nat.blt, Nat.ble, z_le, z_lt, z_eq, z_cl, z_add, z_sub, z_mul, z_in, z_lt0, z_ofN, z_m1, z_ltm1, z_m1lt, z_eqm1, z_m1eq, z_m1le, z_lem1, z_beq, nI_0_1, nI_m1lt0, nI_0lem1, not_false_eq_true, not_true_eq_false, forall_const, false_implies, true_implies, implies_true, false_and, and_false, mrg, renc, tra, trv, sg, List.map_cons, List.map_nil, Option.map_some, Option.map_none, Option.toList_some, Option.toList_none, List.cons_append, List.nil_append, List.length_cons, List.length_nil, rX, show (nI 1 == nI 0 || nI 1 == nI 1) = true by decide]
  exact hret
end RD2
