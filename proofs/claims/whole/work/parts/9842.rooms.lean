/-! Rooms of machines and of the counter, by what is known -/
def rmP (A : aM) : Prop := pw2 A.2.1 ∧ A.1.length ≤ A.2.1 ∧ (A.1.length ≤ 2 ^ 14 → A.2.1 ≤ 2 ^ 14 ∧ A.2.2 ≤ 2 ^ 16)
theorem rmP_s {W : Nat} (hW : W ≤ 4) {A : aM} (h : rmP A) (m : Nat) : rmP (stA W A m) := by
  unfold stA
  split
  · exact h
  · obtain ⟨h1, h2, h3⟩ := h
    have h8 : 8 ≤ A.2.1 := by
      obtain ⟨j, q⟩ := h1
      have := Nat.two_pow_pos j
      omega
    refine ⟨pw2_T h1, ?_, fun hl => ?_⟩
    · show (A.1 ++ [m]).length ≤ rmT A.1.length A.2.1
      rw [List.length_append, List.length_singleton]
      unfold rmT
      split <;> omega
    · have hl2 : A.1.length + 1 ≤ 2 ^ 14 := by
        have : (A.1 ++ [m]).length ≤ 2 ^ 14 := hl
        rw [List.length_append, List.length_singleton] at this
        exact this
      obtain ⟨b2, b3⟩ := h3 (by omega)
      have hT := rmT_le h1 h2 b2 hl2
      have hTW : rmT A.1.length A.2.1 * W ≤ 2 ^ 14 * 4 := Nat.mul_le_mul hT hW
      refine ⟨hT, ?_⟩
      show rmE A.1.length A.2.1 A.2.2 W ≤ 2 ^ 16
      unfold rmE
      split <;> omega
theorem stA_len (W : Nat) (A : aM) (m : Nat) : A.1.length ≤ (stA W A m).1.length := by
  unfold stA
  split
  · exact Nat.le_refl _
  · show A.1.length ≤ (A.1 ++ [m]).length
    rw [List.length_append]
    omega
theorem stA_in (W : Nat) (A : aM) (m : Nat) : m ∈ (stA W A m).1 := by
  unfold stA
  split
  · assumption
  · exact List.mem_append.mpr (Or.inr (List.mem_singleton.mpr rfl))
def rmZ (α : aZ) : Prop := dW α.1 ≤ 4 ∧ rmP α.2.1
def rmQ (β : bS) : Prop := rmZ β.1 ∧ 16 ≤ β.2.1 ∧ (β.1.2.1.1.length ≤ 2 ^ 14 → β.2.1 ≤ 2 ^ 15)
theorem rm_soS {p : Int64} {c : Nat → Nat} {m x : Nat} {β : bS} (h : rmQ β) : rmQ (soS p c m x β) ∧ β.1.2.1.1.length ≤ (soS p c m x β).1.2.1.1.length := by
  unfold soS
  split
  · obtain ⟨⟨h1, h2⟩, h3, h4⟩ := h
    have hl := stA_len (dW β.1.1) β.1.2.1 (dltM (dG p) x m)
    have hin := stA_in (dW β.1.1) β.1.2.1 (dltM (dG p) x m)
    refine ⟨⟨⟨h1, rmP_s h1 h2 _⟩, ?_, fun q => ?_⟩, hl⟩
    · show 16 ≤ (if _ < β.2.1 then β.2.1 else _)
      split <;> omega
    · have q2 : (stA (dW β.1.1) β.1.2.1 (dltM (dG p) x m)).1.length ≤ 2 ^ 14 := q
      have hj := List.idxOf_lt_length_of_mem hin
      show (if (stA (dW β.1.1) β.1.2.1 (dltM (dG p) x m)).1.idxOf (dltM (dG p) x m) < β.2.1 then β.2.1 else 2 * (stA (dW β.1.1) β.1.2.1 (dltM (dG p) x m)).1.idxOf (dltM (dG p) x m)) ≤ 2 ^ 15
      have := h4 (by omega)
      split <;> omega
  · exact ⟨h, Nat.le_refl _⟩
theorem rm_soX {p : Int64} {c : Nat → Nat} {m : Nat} : ∀ (r : Nat) {β : bS}, rmQ β → rmQ (soX p c m r β) ∧ β.1.2.1.1.length ≤ (soX p c m r β).1.2.1.1.length
  | 0, β, h => ⟨h, Nat.le_refl _⟩
  | r + 1, β, h => by
    obtain ⟨h1, h2⟩ := rm_soS (p := p) (c := c) (m := m) (x := 7 - r) h
    obtain ⟨h3, h4⟩ := rm_soX (p := p) (c := c) (m := m) r h1
    exact ⟨h3, Nat.le_trans h2 h4⟩
theorem rm_soL {p : Int64} {c : Nat → Nat} : ∀ (R : List Nat) {β : bS}, rmQ β → rmQ (soL p c R β) ∧ β.1.2.1.1.length ≤ (soL p c R β).1.2.1.1.length
  | [], β, h => ⟨h, Nat.le_refl _⟩
  | m :: R, β, h => by
    obtain ⟨h1, h2⟩ := rm_soX (p := p) (c := c) (m := m) 8 h
    obtain ⟨h3, h4⟩ := rm_soL (p := p) (c := c) R h1
    exact ⟨h3, Nat.le_trans h2 h4⟩
def rmKc (γ : cG) : Prop := rmZ γ.1 ∧ (16 ≤ γ.2.1 ∧ 16 ≤ γ.2.2) ∧ (γ.1.2.1.1.length ≤ 2 ^ 14 → γ.2.1 ≤ 2 ^ 15 ∧ γ.2.2 ≤ 2 ^ 15)
theorem rm_cnS {p : Int64} {l : Nat} {γ : cG} (h : rmKc γ) : rmKc (cnS p l γ) := by
  obtain ⟨h1, ⟨h2, h3⟩, h4⟩ := h
  obtain ⟨⟨a1, a2, a3⟩, a4⟩ := rm_soL (p := p) (c := cL p l) (γ.1.2.1.1.take γ.2.1) (β := (γ.1, γ.2.2, fun _ => 0)) ⟨h1, h3, fun q => (h4 q).2⟩
  unfold cnS
  generalize soL p (cL p l) (γ.1.2.1.1.take γ.2.1) (γ.1, γ.2.2, fun _ => 0) = βF at *
  exact ⟨a1, ⟨a2, h2⟩, fun q => ⟨a3 q, (h4 (Nat.le_trans a4 q)).1⟩⟩
theorem rm_cnG {p : Int64} : ∀ (l : Nat) {γ : cG}, rmKc γ → rmKc (cnG p l γ)
  | 0, γ, h => h
  | l + 1, γ, h => rm_cnS (rm_cnG l h)
/-- a machine's rooms, and the counter's -/
def rmN (ν : aN) : Prop := dW ν.1 ≤ 4 ∧ rmP ν.2.1 ∧ ν.2.2.1 ≤ 256 ∧ ν.2.2.2.1 ≤ 8192
theorem rm_ctN {n : Nat} {τ : aT} (hk : okN τ.1) (h : rmN τ.1) (hs : szT τ.2.1 τ.2.2) (hl : (ctN n τ).1.2.1.1.length ≤ 2 ^ 14) : rmN (ctN n τ).1 ∧ szT (ctN n τ).2.1 (ctN n τ).2.2 := by
  unfold ctN at hl ⊢
  by_cases q : nI n ≤ τ.1.2.2.2.2
  · rw [if_pos q]
    exact ⟨h, hs⟩
  · rw [if_neg q] at hl ⊢
    obtain ⟨h1, h2, h3, h4⟩ := h
    obtain ⟨s1, s2, s3, s4⟩ := hs
    obtain ⟨⟨-, -, -, -, a5⟩, -⟩ := cnG_le (p := τ.1.1) (n - 1) (γ := (nZ τ.1 (fun _ => 0), τ.2.1, τ.2.2)) hk
    obtain ⟨b1, ⟨b2, b3⟩, b4⟩ := rm_cnG (p := τ.1.1) (n - 1) (γ := (nZ τ.1 (fun _ => 0), τ.2.1, τ.2.2)) ⟨⟨h1, h2⟩, ⟨s1, s3⟩, fun _ => ⟨s2, s4⟩⟩
    obtain ⟨b5, b6⟩ := b4 hl
    have c1 : (ctG n τ).1.2.2.1 = τ.1.2.2.1 := (congrArg (fun t => t.1) a5).symm
    have c2 : (ctG n τ).1.2.2.2.1 = τ.1.2.2.2.1 := (congrArg (fun t => t.2.1) a5).symm
    refine ⟨⟨b1.1, b1.2, ?_, ?_⟩, b2, b5, b3, b6⟩
    · show (ctG n τ).1.2.2.1 ≤ 256
      rw [c1]
      exact h3
    · show (ctG n τ).1.2.2.2.1 ≤ 8192
      rw [c2]
      exact h4
theorem rm_sY {ν : aN} (h : rmN ν) (m : Nat) : rmN (sY ν m) := ⟨h.1, rmP_s h.1 h.2.1 m, h.2.2⟩
theorem rm_row : ∀ (xs : List Nat) {ν : aN} (m : Nat), rmN ν → rmN (rowA ν m xs).1
  | [], _, _, h => h
  | x :: xs, ν, m, h => rm_row xs (dltM (dG ν.1) x m) (rm_sY h _)
theorem rm_upN {ν : Nat → aN} {x : Nat} {a : aN} (h : ∀ y, rmN (ν y)) (ha : rmN a) : ∀ y, rmN (upN ν x a y) := fun y => by
  unfold upN
  split
  · exact ha
  · exact h y
theorem rm_orV {ν : Nat → aN} {o w : Nat} {row : List Nat} (h : ∀ y, rmN (ν y)) : ∀ y, rmN (orV ν o row w y) := by
  unfold orV
  split
  · exact rm_upN h (rm_row row 1 (h o))
  · exact h
section PV
variable {P : Nat → aN → Prop}
theorem pv_upN {ν : Nat → aN} {x : Nat} {a : aN} (h : ∀ y, P y (ν y)) (ha : P x a) : ∀ y, P y (upN ν x a y) := fun y => by
  unfold upN
  split
  next q => rw [q]; exact ha
  · exact h y
theorem pv_kbL (hP : ∀ y ν m, P y ν → P y (sY ν m)) {κ : kB} (h : ∀ y, P y (κ.2.2.2.2.2 y)) (so pl : Nat) : ∀ y, P y ((kbL κ so pl).2.2.2.2.2 y) := by
  obtain ⟨stk, br, q, le, de, ν⟩ := κ
  unfold kbL
  dsimp only
  cases ebA ν br q pl le with
  | some t => exact h
  | none =>
    cases stk with
    | nil => exact h
    | cons p R =>
      obtain ⟨x, m⟩ := p
      dsimp only
      split
      · exact pv_upN h (hP x _ _ (h x))
      · exact h
theorem pv_kbT (hP : ∀ y ν m, P y ν → P y (sY ν m)) {κ κ' : kB} {c pl : Nat} (h : ∀ y, P y (κ.2.2.2.2.2 y)) (e : kbT κ c pl = some κ') : ∀ y, P y (κ'.2.2.2.2.2 y) := by
  unfold kbT at e
  split at e
  · have := Option.some.inj e
    subst this
    exact pv_kbL hP h _ _
  · split at e
    · split at e
      · have := Option.some.inj e
        subst this
        exact h
      · split at e
        · have := Option.some.inj e
          subst this
          exact h
        · split at e
          · have := Option.some.inj e
            subst this
            exact h
          · exact absurd e (by simp)
    · split at e
      · have := Option.some.inj e
        subst this
        exact h
      · split at e
        · have := Option.some.inj e
          subst this
          exact h
        · exact absurd e (by simp)
theorem pv_kbF (hP : ∀ y ν m, P y ν → P y (sY ν m)) : ∀ (cs : List Nat) (i : Nat) {κ : kB}, (∀ y, P y (κ.2.2.2.2.2 y)) → ∀ y, P y ((kbF κ cs i).2.2.2.2.2.2 y)
  | [], _, _, h => h
  | c :: cs, i, κ, h => by
    rw [kbF_c]
    cases e : kbT κ c i with
    | none => exact h
    | some κ' => exact pv_kbF hP cs (i + 1) (pv_kbT hP h e)
end PV
theorem rm_ld {ν : aN} {p : Int64} (hp : okP p) (h : rmN ν) (h0 : ν.2.1.2.1 ≤ 2 ^ 14 ∧ ν.2.1.2.2 ≤ 2 ^ 16) : rmN (ldY ν p) := by
  obtain ⟨h1, h2, h3, h4⟩ := h
  obtain ⟨w1, w4, -⟩ := wdN_ok (wf_sp (dwf hp) (show dN p - 1 < dN p by have := (dwf hp).1; omega))
  refine ⟨w4, ?_, ?_, ?_⟩
  · exact rmP_s w4 (A := ([], ν.2.1.2.1, ν.2.1.2.2)) ⟨h2.1, Nat.zero_le _, fun _ => h0⟩ 1
  · show max ν.2.2.1 (dS p) ≤ 256
    have := wf_sp (dwf hp) (show dN p - 1 < dN p by have := (dwf hp).1; omega)
    have h5 : dS p ≤ 256 := this
    omega
  · have := nmF_b (dwf hp) ν.2.2.2.1
    show nmF _ _ _ _ ≤ 8192
    omega
/-- all machines and the counter within their rooms -/
def mvB (G : List (Nat × List Nat)) (pt : Nat → Int64) (v : aV) : Prop := mcB G pt v.1 ∧ (∀ y, rmN (v.1 y)) ∧ szT v.2.1 v.2.2
section MB
variable {G : List (Nat × List Nat)} {pt : Nat → Int64} {v : aV}
theorem mvB_14 (h : mvB G pt v) (hG : G.length ≤ 512) {x : Nat} (hx : x < 9) : (v.1 x).2.1.1.length ≤ 2 ^ 14 := by
  obtain ⟨a, b, c, e⟩ := h.1.2 x hx
  exact knN_len a e (Nat.le_trans (gO1_len G x) hG)
theorem mvB_b (h : mvB G pt v) (hG : G.length ≤ 512) : VS v ≤ 6475136 ∧ VC v ≤ 367360 := by
  refine VS_b (fun x hx => ?_) h.2.2
  obtain ⟨a1, a2, a3, a4⟩ := h.2.1 x
  obtain ⟨b1, b2⟩ := a2.2.2 (mvB_14 h hG hx)
  exact ⟨b1, b2, a4, a3⟩
theorem mvB_mono {G' : List (Nat × List Nat)} (h : mvB G pt v) (hs : ∀ t ∈ G, t ∈ G') : mvB G' pt v := ⟨mcB_mono h.1 hs, h.2⟩
theorem mvB_pt {pt' : Nat → Int64} (h : mvB G pt v) (e : ∀ x, x < 9 → pt x = pt' x) : mvB G pt' v := ⟨mcB_pt h.1 e, h.2⟩
theorem mvB_fw {pt' : Nat → Int64} (h : mvB G pt v) (hG : G.length ≤ 512) (hp : ∀ x, x < 9 → okP (pt' x)) : mvB G pt' (fwN v.1 pt', v.2) := by
  refine ⟨mcB_fw h.1 hp, fun y => ?_, h.2.2⟩
  show rmN (fwN v.1 pt' y)
  unfold fwN
  split
  next hy =>
    split
    · exact h.2.1 y
    · exact rm_ld (hp y hy) (h.2.1 y) ((h.2.1 y).2.1.2.2 (mvB_14 h hG hy))
  · exact h.2.1 y
theorem mvB_orW {o w : Nat} {row : List Nat} (h : mvB G pt v) (ho : o < 9) (hL : rowL (pt o) 1 row) (hg : ∀ j, 1 ≤ j → j ≤ row.length → (o, row.take j) ∈ G) : mvB G pt (orW o row w v) := by
  have hok := (orW_le (o := o) (w := w) (row := row) ho h.1.1).2
  refine ⟨⟨hok, fun x hx => ?_⟩, rm_orV h.2.1, h.2.2⟩
  obtain ⟨a, b, c, e⟩ := h.1.2 x hx
  refine ⟨a, (orV_1 v.1 o row w x).trans b, (rm_orV h.2.1 x).2.2.2, ?_⟩
  show knN (gO1 G x) (pt x) (orV v.1 o row w x).2.1.1
  unfold orV
  split
  · by_cases q : x = o
    · subst q
      rw [upN_s]
      exact knN_rowA a row [] b hL (fun k k1 k2 => mem_gO1 (hg k k1 k2)) e
    · rw [upN_n q]
      exact e
  · exact e
theorem mvB_ctW {x n : Nat} (h : mvB G pt v) (hG : G.length ≤ 512) (hx : x < 9) (hn : n ≤ 6) : mvB G pt (ctW x n v) := by
  have hok := (ctW_le (x := x) (n := n) hx h.1.1).2
  obtain ⟨a, b, c, e⟩ := h.1.2 x hx
  have hk := knN_ctN a hn (τ := (v.1 x, v.2)) b e
  have hl := knN_len a hk (Nat.le_trans (gO1_len G x) hG)
  obtain ⟨r1, r2⟩ := rm_ctN (n := n) (τ := (v.1 x, v.2)) (h.1.1 x) (h.2.1 x) h.2.2 hl
  have hr : ∀ y, rmN ((ctW x n v).1 y) := rm_upN h.2.1 r1
  have h1 := (ctN_le (n := n) (τ := (v.1 x, v.2)) (h.1.1 x)).2.2.2.1
  refine ⟨⟨hok, fun y hy => ?_⟩, hr, r2⟩
  obtain ⟨a', b', c', e'⟩ := h.1.2 y hy
  refine ⟨a', ?_, (hr y).2.2.2, ?_⟩
  · show (upN v.1 x _ y).1 = pt y
    by_cases q : y = x
    · subst q
      rw [upN_s]
      exact h1.symm.trans b
    · rw [upN_n q]
      exact b'
  · show knN _ _ (upN v.1 x _ y).2.1.1
    by_cases q : y = x
    · subst q
      rw [upN_s]
      exact hk
    · rw [upN_n q]
      exact e'
theorem mvB_ctL {x : Nat} (hG : G.length ≤ 512) (hx : x < 9) : ∀ (j : Nat) {v : aV}, mvB G pt v → mvB G pt (ctL x j v)
  | 0, _, h => h
  | j + 1, _, h => mvB_ctL hG hx j (mvB_ctW h hG hx (by omega))
theorem mvB_dg9 (hG : G.length ≤ 512) : ∀ (j : Nat) {v : aV}, mvB G pt v → mvB G pt (dg9 j v)
  | 0, _, h => h
  | j + 1, _, h => mvB_dg9 hG j (mvB_ctL hG (by omega) 4 (mvB_ctW h hG (by omega) (by decide)))
theorem mvB_orL {o : Nat} {row : List Nat} (ho : o < 9) (hL : rowL (pt o) 1 row) (hg : ∀ j, 1 ≤ j → j ≤ row.length → (o, row.take j) ∈ G) : ∀ (j : Nat) {v : aV}, mvB G pt v → mvB G pt (orL o row j v)
  | 0, _, h => h
  | j + 1, _, h => mvB_orL ho hL hg j (mvB_orW h ho hL hg)
theorem mvB_dgN {o : Nat} {row : List Nat} (h : mvB G pt v) (hG : G.length ≤ 512) (ho : o < 9) (hL : rowL (pt o) 1 row) (hg : ∀ j, 1 ≤ j → j ≤ row.length → (o, row.take j) ∈ G) : mvB G pt (dgN o row v) := mvB_orL ho hL hg 4 (mvB_dg9 hG 9 h)
theorem mvB_kbF {T : List Nat} (h : mvB G pt v) (hT : ∀ t ∈ gpF ([(8, [])], none) T, t ∈ G) : mvB G pt ((kbF (kb0 v.1) T 0).2.2.2.2.2.2, v.2) := by
  have h1 := pv_kbF (P := fun y ν => rmN ν ∧ okN ν ∧ ν.1 = (v.1 y).1) (fun y ν m q => ⟨rm_sY q.1 m, okN_s q.2.1 m, q.2.2⟩) T 0 (κ := kb0 v.1) (fun y => ⟨h.2.1 y, h.1.1 y, rfl⟩)
  have hk := knN_kbF (fun x hx => (h.1.2 x hx).1) (G := G) T 0 (κ := kb0 v.1) (s := ([(8, [])], none)) rfl ⟨rfl, by decide, fun _ => rfl, trivial⟩ (show 1 ≤ 1 by decide) (show 1 ≤ 9 by decide) (fun b hb => by simp at hb) (fun y hy => (h.1.2 y hy).2.1) (fun y hy => (h.1.2 y hy).2.2.2) hT
  refine ⟨⟨fun x => (h1 x).2.1, fun x hx => ?_⟩, fun y => (h1 y).1, h.2.2⟩
  obtain ⟨a, b, c, e⟩ := h.1.2 x hx
  exact ⟨a, (h1 x).2.2.trans b, (h1 x).1.2.2.2, hk x hx⟩
end MB
