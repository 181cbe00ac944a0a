/-! All machines and the counter's rooms: what calls make of them -/
abbrev aV : Type := (Nat → aN) × Nat × Nat
def VS (v : aV) : Nat := fY yS v.1 + 2 * v.2.1 + 2 * v.2.2
def VC (v : aV) : Nat := fY yC v.1 + v.2.1 + v.2.2
def leW (v v' : aV) : Prop := VS v ≤ VS v' ∧ VC v ≤ VC v' ∧ ∀ x, extL (v.1 x).2.1.1 (v'.1 x).2.1.1 ∧ (v.1 x).1 = (v'.1 x).1
def okW (v : aV) : Prop := ∀ x, okN (v.1 x)
theorem leW_rf (v : aV) : leW v v := ⟨Nat.le_refl _, Nat.le_refl _, fun x => ⟨extL_rf _, rfl⟩⟩
theorem leW_tr {v v' v2 : aV} (h : leW v v') (h2 : leW v' v2) : leW v v2 := ⟨Nat.le_trans h.1 h2.1, Nat.le_trans h.2.1 h2.2.1, fun x => ⟨extL_tr (h.2.2 x).1 (h2.2.2 x).1, (h.2.2 x).2.trans (h2.2.2 x).2⟩⟩
/-- rows counted -/
noncomputable def ctW (x n : Nat) (v : aV) : aV := (upN v.1 x (ctN n (v.1 x, v.2)).1, (ctN n (v.1 x, v.2)).2)
/-- the row gone through -/
noncomputable def orW (o : Nat) (row : List Nat) (w : Nat) (v : aV) : aV := (orV v.1 o row w, v.2)
theorem ctN_le {n : Nat} {τ : aT} (h : okN τ.1) : tS τ ≤ tS (ctN n τ) ∧ tC τ ≤ tC (ctN n τ) ∧ extL τ.1.2.1.1 (ctN n τ).1.2.1.1 ∧ τ.1.1 = (ctN n τ).1.1 ∧ okN (ctN n τ).1 := by
  unfold ctN
  by_cases q : nI n ≤ τ.1.2.2.2.2
  · rw [if_pos q]
    exact ⟨Nat.le_refl _, Nat.le_refl _, extL_rf _, rfl, h⟩
  · rw [if_neg q]
    obtain ⟨⟨a1, a2, a3, a4, a5⟩, a6⟩ := cnG_le (p := τ.1.1) (n - 1) (γ := (nZ τ.1 (fun _ => 0), τ.2.1, τ.2.2)) h
    exact ⟨a1, a2, a3, a4, a6⟩
theorem upN_s {ν : Nat → aN} {x : Nat} {a : aN} : upN ν x a x = a := if_pos rfl
theorem upN_n {ν : Nat → aN} {x y : Nat} {a : aN} (h : ¬ y = x) : upN ν x a y = ν y := if_neg h
theorem ctW_le {x n : Nat} {v : aV} (hx : x < 9) (h : okW v) : leW v (ctW x n v) ∧ okW (ctW x n v) := by
  obtain ⟨a1, a2, a3, a4, a5⟩ := ctN_le (n := n) (τ := (v.1 x, v.2)) (h x)
  have f1 := fY_upd (f := yS) (ν := v.1) hx (ctN n (v.1 x, v.2)).1
  have f2 := fY_upd (f := yC) (ν := v.1) hx (ctN n (v.1 x, v.2)).1
  unfold tS at a1
  unfold tC at a2
  dsimp only at a1 a2
  refine ⟨⟨?_, ?_, fun y => ?_⟩, fun y => ?_⟩
  · show fY yS v.1 + 2 * v.2.1 + 2 * v.2.2 ≤ fY yS (upN v.1 x (ctN n (v.1 x, v.2)).1) + 2 * (ctN n (v.1 x, v.2)).2.1 + 2 * (ctN n (v.1 x, v.2)).2.2
    omega
  · show fY yC v.1 + v.2.1 + v.2.2 ≤ fY yC (upN v.1 x (ctN n (v.1 x, v.2)).1) + (ctN n (v.1 x, v.2)).2.1 + (ctN n (v.1 x, v.2)).2.2
    omega
  · show extL _ (upN v.1 x _ y).2.1.1 ∧ _ = (upN v.1 x _ y).1
    by_cases q : y = x
    · subst q
      rw [upN_s]
      exact ⟨a3, a4⟩
    · rw [upN_n q]
      exact ⟨extL_rf _, rfl⟩
  · show okN (upN v.1 x _ y)
    by_cases q : y = x
    · subst q
      rw [upN_s]
      exact a5
    · rw [upN_n q]
      exact h y
theorem orW_le {o w : Nat} {row : List Nat} {v : aV} (ho : o < 9) (h : okW v) : leW v (orW o row w v) ∧ okW (orW o row w v) := by
  obtain ⟨a1, a2⟩ := orV_le ho (h o) row w
  refine ⟨⟨?_, ?_, fun y => ?_⟩, fun y => ?_⟩
  · show fY yS v.1 + 2 * v.2.1 + 2 * v.2.2 ≤ fY yS (orV v.1 o row w) + 2 * v.2.1 + 2 * v.2.2
    omega
  · show fY yC v.1 + v.2.1 + v.2.2 ≤ fY yC (orV v.1 o row w) + v.2.1 + v.2.2
    omega
  · show extL _ (orV v.1 o row w y).2.1.1 ∧ _ = (orV v.1 o row w y).1
    refine ⟨?_, (orV_1 v.1 o row w y).symm⟩
    unfold orV
    by_cases q : w < 2
    · rw [if_pos q]
      by_cases q2 : y = o
      · subst q2
        rw [upN_s]
        exact (rowA_le row (h y)).2.2.1
      · rw [upN_n q2]
        exact extL_rf _
    · rw [if_neg q]
      exact extL_rf _
  · show okN (orV v.1 o row w y)
    unfold orV
    by_cases q : w < 2
    · rw [if_pos q]
      by_cases q2 : y = o
      · subst q2
        rw [upN_s]
        exact rowA_ok row (h y)
      · rw [upN_n q2]
        exact h y
    · rw [if_neg q]
      exact h y
/-- the digest's rows of one pattern -/
noncomputable def ctL (x : Nat) : Nat → aV → aV
  | 0, v => v
  | j + 1, v => ctL x j (ctW x (4 - j) v)
theorem ctL_le {x : Nat} (hx : x < 9) : ∀ (j : Nat) {v : aV}, okW v → leW v (ctL x j v) ∧ okW (ctL x j v)
  | 0, v, h => ⟨leW_rf v, h⟩
  | j + 1, v, h => by
    obtain ⟨a1, a2⟩ := ctW_le (n := 4 - j) hx h
    obtain ⟨b1, b2⟩ := ctL_le hx j a2
    exact ⟨leW_tr a1 b1, b2⟩
noncomputable def dg9 : Nat → aV → aV
  | 0, v => v
  | j + 1, v => dg9 j (ctL (8 - j) 4 (ctW (8 - j) 4 v))
theorem dg9_le : ∀ (j : Nat) {v : aV}, okW v → leW v (dg9 j v) ∧ okW (dg9 j v)
  | 0, v, h => ⟨leW_rf v, h⟩
  | j + 1, v, h => by
    obtain ⟨a1, a2⟩ := ctW_le (x := 8 - j) (n := 4) (by omega) h
    obtain ⟨b1, b2⟩ := ctL_le (x := 8 - j) (by omega) 4 a2
    obtain ⟨c1, c2⟩ := dg9_le j b2
    exact ⟨leW_tr a1 (leW_tr b1 c1), c2⟩
noncomputable def orL (o : Nat) (row : List Nat) : Nat → aV → aV
  | 0, v => v
  | j + 1, v => orL o row j (orW o row (3 - j) v)
theorem orL_le {o : Nat} {row : List Nat} (ho : o < 9) : ∀ (j : Nat) {v : aV}, okW v → leW v (orL o row j v) ∧ okW (orL o row j v)
  | 0, v, h => ⟨leW_rf v, h⟩
  | j + 1, v, h => by
    obtain ⟨a1, a2⟩ := orW_le (w := 3 - j) (row := row) ho h
    obtain ⟨b1, b2⟩ := orL_le ho j a2
    exact ⟨leW_tr a1 b1, b2⟩
/-- the digest's sum -/
def dgF (h : Int64) : List Int32 → Int64
  | [] => h
  | a :: l => dgF (lN 31 * h + a.toInt64) l
theorem dgF_app : ∀ (a b : List Int32) (h : Int64), dgF h (a ++ b) = dgF (dgF h a) b
  | [], _, _ => rfl
  | _ :: a, b, _ => dgF_app a b _
noncomputable def dgV (p : Int64) : List Int32 := [opA p 0, opA p 1, opA p 2, opA p 3, nI (cntR p 1), nI (cntR p 2), nI (cntR p 3), nI (cntR p 4)]
noncomputable def dgW (ps : Nat → Int64) : Nat → List Int32
  | 0 => []
  | j + 1 => dgV (ps (8 - j)) ++ dgW ps j
/-- the judge's cells with the counter's rooms as told -/
abbrev jC (J : jS) (v : aV) (wa wb : Nat → Int32) : jS := (J.1, J.2.1, J.2.2.1, J.2.2.2.1, J.2.2.2.2.1, (v.2.1, wa, v.2.2, wb), J.2.2.2.2.2.2)
/-- one owner's machine asked for a count, over the state -/
theorem V_count (d x n : Nat) (hx : x < 9) (hn : n ≤ 6) (J : jS) (PM : Nat → PS × MS) (v : aV) (wa wb : Nat → Int32) (hy : jY PM v.1) (hs : szT v.2.1 v.2.2) (h14 : ((ctW x n v).1 x).2.1.1.length ≤ 2 ^ 14) :
    ∃ mv : Nat → Bool, (∀ j, mv j = true → jv j = true) ∧ aSp (d + 9) 65 [.ref 25, .ref (31 + 18 * x), .int (nI n)] (jH (jC J v wa wb) PM) mv (tC (ctN n (v.1 x, v.2)) - tC (v.1 x, v.2)) (tS (ctN n (v.1 x, v.2)) - tS (v.1 x, v.2))
      (fun r h' => r = some (.int (nI (cntR (v.1 x).1 n))) ∧ ∃ wa' wb' PM', h' = jH (jC J (ctW x n v) wa' wb') PM' ∧ jY PM' (ctW x n v).1 ∧ szT (ctW x n v).2.1 (ctW x n v).2.2) := by
  obtain ⟨mv, hmv, hc⟩ := J_count d x n hx hn (jC J v wa wb) PM (v.1 x) (hy x hx) hs (by
    have : ((ctW x n v).1 x) = (ctN n (v.1 x, v.2)).1 := upN_s
    rw [this] at h14
    exact h14)
  refine ⟨mv, hmv, sp_weaken hc ?_⟩
  rintro r h' ⟨rfl, wa', wb', Z', rfl, hz, hs'⟩
  exact ⟨rfl, wa', wb', updZ PM x Z', rfl, jY_upd hy hz, hs'⟩
