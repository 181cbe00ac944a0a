/-! A plan's moves and traits, of the pattern alone -/
/-- what one move adds to the traits -/
def tB (K lf : Nat → Nat) (i : Nat) (m : Nat × Nat) : Nat := 2 ^ m.1 ||| (if pal K lf i m.2 = true then 2 ^ (9 + m.1) else 0)
def ddT (K lf : Nat → Nat) (i : Nat) (z : List (Nat × Nat) × Nat) (m : Nat × Nat) : List (Nat × Nat) × Nat := if m ∈ z.1 then z else (z.1 ++ [m], z.2 ||| tB K lf i m)
/-- the moves and the traits of a place -/
def gtP (K lf : Nat → Nat) (i p : Nat) : List (Nat × Nat) × Nat := (pmv K lf i p).foldl (ddT K lf i) ([], if pal K lf i p = true then 256 else 0)
def gmP (K lf : Nat → Nat) (n p : Nat) : List (Nat × Nat) := (gtP K lf (n - 1) p).1
def tP (K lf : Nat → Nat) (n p : Nat) : Nat := (gtP K lf (n - 1) p).2
theorem ddT_inv (K lf : Nat → Nat) (i v0 : Nat) : ∀ (M : List (Nat × Nat)) (z : List (Nat × Nat) × Nat), z.1.Nodup → (∀ b, z.2.testBit b = (v0.testBit b || z.1.any (fun m => (tB K lf i m).testBit b))) → (M.foldl (ddT K lf i) z).1.Nodup ∧ (∀ m, m ∈ (M.foldl (ddT K lf i) z).1 ↔ m ∈ z.1 ∨ m ∈ M) ∧ ∀ b, (M.foldl (ddT K lf i) z).2.testBit b = (v0.testBit b || (M.foldl (ddT K lf i) z).1.any (fun m => (tB K lf i m).testBit b))
  | [], z, h1, h2 => ⟨h1, fun m => by simp, h2⟩
  | m :: M, z, h1, h2 => by
    rw [List.foldl_cons]
    have hz : (ddT K lf i z m).1.Nodup ∧ (∀ y, y ∈ (ddT K lf i z m).1 ↔ y ∈ z.1 ∨ y = m) ∧ ∀ b, (ddT K lf i z m).2.testBit b = (v0.testBit b || (ddT K lf i z m).1.any (fun m => (tB K lf i m).testBit b)) := by
      unfold ddT
      split
      next q => exact ⟨h1, fun y => ⟨Or.inl, fun z => z.elim id (fun e => e ▸ q)⟩, h2⟩
      next q =>
        refine ⟨?_, fun y => by simp, fun b => ?_⟩
        · rw [List.nodup_append]
          refine ⟨h1, by simp, fun a ha b hb => ?_⟩
          rw [List.mem_singleton] at hb
          subst hb
          exact fun z => q (z ▸ ha)
        · show (z.2 ||| tB K lf i m).testBit b = _
          rw [Nat.testBit_or, h2 b, List.any_append, Bool.or_assoc]
          simp
    obtain ⟨a1, a2, a3⟩ := ddT_inv K lf i v0 M (ddT K lf i z m) hz.1 hz.2.2
    refine ⟨a1, fun y => ?_, a3⟩
    rw [a2 y, hz.2.1 y, List.mem_cons]
    exact ⟨fun h => h.elim (fun h => h.elim Or.inl (fun h => Or.inr (Or.inl h))) (fun h => Or.inr (Or.inr h)), fun h => h.elim (fun h => Or.inl (Or.inl h)) (fun h => h.elim (fun h => Or.inl (Or.inr h)) Or.inr)⟩
theorem gtP_s (K lf : Nat → Nat) (i p : Nat) : (gtP K lf i p).1.Nodup ∧ (∀ m, m ∈ (gtP K lf i p).1 ↔ m ∈ pmv K lf i p) ∧ ∀ b, (gtP K lf i p).2.testBit b = ((if pal K lf i p = true then 256 else 0 : Nat).testBit b || (gtP K lf i p).1.any (fun m => (tB K lf i m).testBit b)) := by
  obtain ⟨h1, h2, h3⟩ := ddT_inv K lf i (if pal K lf i p = true then 256 else 0) (pmv K lf i p) ([], if pal K lf i p = true then 256 else 0) List.nodup_nil (fun b => by simp)
  exact ⟨h1, fun m => by rw [show (gtP K lf i p).1 = _ from rfl]; exact (h2 m).trans (by simp), h3⟩
theorem tB_bit (K lf : Nat → Nat) (i : Nat) (m : Nat × Nat) (b : Nat) : (tB K lf i m).testBit b = (decide (m.1 = b) || (pal K lf i m.2 && decide (9 + m.1 = b))) := by
  unfold tB
  rw [Nat.testBit_or, Nat.testBit_two_pow]
  cases h : pal K lf i m.2
  · simp
  · rw [if_pos rfl, Nat.testBit_two_pow]
    simp
theorem v0_bit (c : Bool) (b : Nat) : (if c = true then 256 else 0 : Nat).testBit b = (c && decide (8 = b)) := by
  cases c
  · simp
  · rw [if_pos rfl, show (256 : Nat) = 2 ^ 8 by decide, Nat.testBit_two_pow]
    simp
/-- the traits of a place: what is due, whether it may end, what leads to an end -/
theorem gt_due {K lf : Nat → Nat} {i p s : Nat} (hs : s < 8) : (gtP K lf i p).2.testBit s = true ↔ ∃ t, (s, t) ∈ pmv K lf i p := by
  obtain ⟨-, h2, h3⟩ := gtP_s K lf i p
  rw [h3 s, v0_bit, Bool.or_eq_true, List.any_eq_true]
  constructor
  · rintro (h | ⟨⟨x, t⟩, q1, q2⟩)
    · simp only [Bool.and_eq_true, decide_eq_true_eq] at h
      omega
    · rw [tB_bit] at q2
      simp only [Bool.or_eq_true, Bool.and_eq_true, decide_eq_true_eq] at q2
      have : x = s := by omega
      subst this
      exact ⟨t, (h2 _).mp q1⟩
  · rintro ⟨t, ht⟩
    exact Or.inr ⟨(s, t), (h2 _).mpr ht, by rw [tB_bit]; simp⟩
theorem gt_end {K lf : Nat → Nat} {i p : Nat} (hp : ∀ m ∈ pmv K lf i p, m.1 < 8) : (gtP K lf i p).2.testBit 8 = pal K lf i p := by
  obtain ⟨-, h2, h3⟩ := gtP_s K lf i p
  rw [h3 8, v0_bit]
  have : (gtP K lf i p).1.any (fun m => (tB K lf i m).testBit 8) = false := by
    rw [List.any_eq_false]
    intro m hm
    have := hp m ((h2 m).mp hm)
    rw [tB_bit]
    simp only [Bool.or_eq_true, Bool.and_eq_true, decide_eq_true_eq]
    omega
  rw [this]
  simp
theorem gt_last {K lf : Nat → Nat} {i p s : Nat} (hp : ∀ m ∈ pmv K lf i p, m.1 < 8) : (gtP K lf i p).2.testBit (9 + s) = true ↔ ∃ t, (s, t) ∈ pmv K lf i p ∧ pal K lf i t = true := by
  obtain ⟨-, h2, h3⟩ := gtP_s K lf i p
  rw [h3 (9 + s), v0_bit, Bool.or_eq_true, List.any_eq_true]
  constructor
  · rintro (h | ⟨⟨x, t⟩, q1, q2⟩)
    · simp only [Bool.and_eq_true, decide_eq_true_eq] at h
      omega
    · have := hp _ ((h2 _).mp q1)
      rw [tB_bit] at q2
      simp only [Bool.or_eq_true, Bool.and_eq_true, decide_eq_true_eq] at q2
      have e : x = s := by
        have : x < 8 := this
        omega
      subst e
      exact ⟨t, (h2 _).mp q1, (q2.resolve_left (by have : x < 8 := this; omega)).1⟩
  · rintro ⟨t, ht, hal⟩
    exact Or.inr ⟨(s, t), (h2 _).mpr ht, by rw [tB_bit]; simp [hal]⟩
theorem gt_lt {K lf : Nat → Nat} {i p : Nat} (hp : ∀ m ∈ pmv K lf i p, m.1 < 8) : (gtP K lf i p).2 < 2 ^ 17 := by
  apply Nat.lt_pow_two_of_testBit
  intro b hb
  rw [← Bool.not_eq_true]
  intro q
  obtain ⟨-, h2, h3⟩ := gtP_s K lf i p
  rw [h3 b, v0_bit, Bool.or_eq_true, List.any_eq_true] at q
  rcases q with h | ⟨m, q1, q2⟩
  · simp only [Bool.and_eq_true, decide_eq_true_eq] at h
    omega
  · have := hp m ((h2 m).mp q1)
    rw [tB_bit] at q2
    simp only [Bool.or_eq_true, Bool.and_eq_true, decide_eq_true_eq] at q2
    omega
def updN (v : Nat → Nat) (l x : Nat) : Nat → Nat := fun q => if q = l then x else v q
theorem updN_s {v : Nat → Nat} {l x : Nat} : updN v l x l = x := if_pos rfl
theorem updN_n {v : Nat → Nat} {l x q : Nat} (h : q ≠ l) : updN v l x q = v q := if_neg h
theorem shl1b : ∀ x, x < 17 → nI 1 <<< (nI x &&& 31) = nI (2 ^ x) := by decide +kernel
/-- the traits as a plan holds them while it finds the moves -/
def trV (K lf : Nat → Nat) (i S : Nat) (tr : Nat → Int32) (v : Nat → Nat) : Prop := ∀ q, q < S → tr q = nI (v q) ∧ v q < 2 ^ 17 ∧ (v q).testBit 8 = pal K lf i q
theorem end256 {v : Nat} (hv : v < 2 ^ 17) : (nI v &&& nI 256 = nI 0) ↔ v.testBit 8 = false := by
  rw [fa_and]
  have h1 : v &&& 256 ≤ 256 := Nat.and_le_right
  rw [nI_eq (by omega) (by decide)]
  have h3 : (v &&& 256).testBit 8 = v.testBit 8 := by
    rw [Nat.testBit_and, show (256 : Nat) = 2 ^ 8 by decide, Nat.testBit_two_pow_self, Bool.and_true]
  constructor
  · intro h
    rw [h, Nat.zero_testBit] at h3
    exact h3.symm
  · intro h
    apply Nat.eq_of_testBit_eq
    intro j
    rw [Nat.zero_testBit]
    by_cases q : j = 8
    · subst q
      rw [h3, h]
    · rw [Nat.testBit_and, show (256 : Nat) = 2 ^ 8 by decide, Nat.testBit_two_pow_of_ne (Ne.symm q), Bool.and_false]
theorem kT_v {K lf : Nat → Nat} {i S l s t : Nat} {tr : Nat → Int32} {v : Nat → Nat} (h : trV K lf i S tr v) (hl : l < S) (hs : s < 8) (ht : t < S) : trV K lf i S (kT tr l s t) (updN v l (v l ||| tB K lf i (s, t))) := by
  have e1 := shl1b s (by omega)
  have e2 := shl1b (9 + s) (by omega)
  obtain ⟨l1, l2, l3⟩ := h l hl
  have hb8 : ∀ b, b = 8 → (2 ^ s).testBit b = false := fun b hb => Nat.testBit_two_pow_of_ne (by omega)
  have hlt1 : v l ||| 2 ^ s < 2 ^ 17 := Nat.or_lt_two_pow l2 (Nat.pow_lt_pow_right (by decide) (by omega))
  have htr : ∃ u, upd tr l (tr l ||| nI 1 <<< (nI s &&& 31)) t = nI u ∧ u < 2 ^ 17 ∧ u.testBit 8 = pal K lf i t := by
    by_cases q : t = l
    · subst q
      exact ⟨v t ||| 2 ^ s, by rw [upd_s, e1, l1, fa_or], hlt1, by rw [Nat.testBit_or, hb8 8 rfl, Bool.or_false, l3]⟩
    · obtain ⟨t1, t2, t3⟩ := h t ht
      exact ⟨v t, by rw [upd_n q, t1], t2, t3⟩
  obtain ⟨u, u1, u2, u3⟩ := htr
  have htB : ∀ c, pal K lf i t = c → tB K lf i (s, t) = 2 ^ s ||| (if c = true then 2 ^ (9 + s) else 0) := fun c hc => by unfold tB; rw [hc]
  have hfin : ∀ q, q < S → (v l ||| tB K lf i (s, t)) < 2 ^ 17 ∧ (v l ||| tB K lf i (s, t)).testBit 8 = pal K lf i l := by
    intro q _
    refine ⟨?_, ?_⟩
    · unfold tB
      refine Nat.or_lt_two_pow l2 (Nat.or_lt_two_pow (Nat.pow_lt_pow_right (by decide) (by omega)) ?_)
      show (if pal K lf i t = true then 2 ^ (9 + s) else 0) < 2 ^ 17
      split
      · exact Nat.pow_lt_pow_right (by decide) (by omega)
      · decide
    · rw [Nat.testBit_or, tB_bit, l3]
      have a1 : ¬ s = 8 := by omega
      have a2 : ¬ 9 + s = 8 := by omega
      simp [a1, a2]
  unfold kT
  rw [u1]
  by_cases hp : pal K lf i t = true
  · rw [if_neg (fun z => by rw [(end256 u2).mp z] at u3; rw [hp] at u3; exact absurd u3 (by decide))]
    intro q hq
    by_cases ql : q = l
    · subst ql
      rw [upd_s, upd_s, e1, e2, l1, fa_or, fa_or, updN_s]
      refine ⟨?_, hfin q hq⟩
      rw [htB _ hp, if_pos rfl, Nat.or_assoc]
    · rw [upd_n ql, upd_n ql, updN_n ql]
      exact h q hq
  · rw [Bool.not_eq_true] at hp
    rw [if_pos ((end256 u2).mpr (by rw [u3, hp]))]
    intro q hq
    by_cases ql : q = l
    · subst ql
      rw [upd_s, e1, l1, fa_or, updN_s]
      refine ⟨?_, hfin q hq⟩
      rw [htB _ hp, if_neg (by decide), Nat.or_zero]
    · rw [upd_n ql, updN_n ql]
      exact h q hq
theorem kfo_v {K lf : Nat → Nat} {i S l a : Nat} (hl : l < S) : ∀ (M : List (Nat × Nat)) (σ : kS) (v : Nat → Nat), (∀ m ∈ M, m.1 < 8 ∧ m.2 < S) → trV K lf i S σ.2.2 v → (kfo a l σ M).1 = (M.foldl (ddT K lf i) (σ.1, v l)).1 ∧ trV K lf i S (kfo a l σ M).2.2 (updN v l (M.foldl (ddT K lf i) (σ.1, v l)).2)
  | [], σ, v, _, h => ⟨rfl, fun q hq => by
      by_cases ql : q = l
      · subst ql
        rw [updN_s]
        exact h q hq
      · rw [updN_n ql]
        exact h q hq⟩
  | m :: M, σ, v, hM, h => by
    have hm := hM m (List.mem_cons_self ..)
    have hM2 := fun m hm => hM m (List.mem_cons_of_mem _ hm)
    show (kfo a l (kst a l σ m) M).1 = _ ∧ trV K lf i S (kfo a l (kst a l σ m) M).2.2 _
    rw [List.foldl_cons]
    unfold kst ddT
    by_cases q : m ∈ σ.1
    · rw [if_pos q, if_pos q]
      exact kfo_v hl M σ v hM2 h
    · rw [if_neg q, if_neg q]
      have hk := kT_v h hl hm.1 hm.2
      obtain ⟨h1, h2⟩ := kfo_v (a := a) hl M (σ.1 ++ [m], kN σ.1 (a + σ.1.length) σ.2.1 m, kT σ.2.2 l m.1 m.2) _ hM2 hk
      rw [updN_s] at h1 h2
      refine ⟨h1, fun q2 hq2 => ?_⟩
      have := h2 q2 hq2
      by_cases ql : q2 = l
      · subst ql
        rw [updN_s] at this ⊢
        exact this
      · rw [updN_n ql] at this ⊢
        rw [updN_n ql] at this
        exact this
/-- the state behind the places below p: their moves and traits are those of the pattern -/
theorem fmS_v {K lf : Nat → Nat} {n nm : Nat} {tr : Nat → Int32} (hw : wfP K lf n) (h : ∀ q, q < psp K lf (n - 1) → tr q = if pal K lf (n - 1) q = true then nI 256 else nI 0) : ∀ p, p ≤ psp K lf (n - 1) → trV K lf (n - 1) (psp K lf (n - 1)) (fmS K lf n nm tr p).2.2 (fun q => if q < p then tP K lf n q else if pal K lf (n - 1) q = true then 256 else 0) ∧ ∀ q, q < p → (gmvP K lf n q (fmS K lf n nm tr q)).1 = gmP K lf n q := by
  have hn := hw.1
  intro p
  induction p with
  | zero =>
    intro _
    refine ⟨fun q hq => ?_, fun q hq => absurd hq (Nat.not_lt_zero q)⟩
    simp only [Nat.not_lt_zero, if_false]
    show tr q = _ ∧ _
    rw [h q hq]
    cases hc : pal K lf (n - 1) q
    · exact ⟨rfl, by decide, by decide⟩
    · exact ⟨rfl, by decide, by decide⟩
  | succ p ih =>
    intro hp
    obtain ⟨h1, h2⟩ := ih (by omega)
    have hM : ∀ m ∈ pmv K lf (n - 1) p, m.1 < 8 ∧ m.2 < psp K lf (n - 1) := fun m hm => by
      have := pmv_ok hw (n - 1) (by omega) p (by omega) m hm
      exact ⟨this.1, this.2.2⟩
    have hk := kfo_v (a := (fmS K lf n nm tr p).1) (show p < psp K lf (n - 1) by omega) (pmv K lf (n - 1) p) ([], (fmS K lf n nm tr p).2.1, (fmS K lf n nm tr p).2.2) _ hM h1
    simp only [Nat.lt_irrefl, if_false] at hk
    have e : gmvP K lf n p (fmS K lf n nm tr p) = kfo (fmS K lf n nm tr p).1 p ([], (fmS K lf n nm tr p).2.1, (fmS K lf n nm tr p).2.2) (pmv K lf (n - 1) p) := by
      unfold gmvP
      rw [scl_one]
    refine ⟨fun q hq => ?_, fun q hq => ?_⟩
    · rw [fmS_s]
      show (gmvP K lf n p (fmS K lf n nm tr p)).2.2 q = _ ∧ _
      rw [e]
      have := hk.2 q hq
      by_cases ql : q = p
      · subst ql
        rw [updN_s] at this
        simp only [Nat.lt_succ_self, if_true]
        exact this
      · rw [updN_n ql] at this
        by_cases q2 : q < p
        · simp only [if_pos q2, if_pos (show q < p + 1 by omega)] at this ⊢
          exact this
        · simp only [if_neg q2, if_neg (show ¬ q < p + 1 by omega)] at this ⊢
          exact this
    · rcases Nat.lt_or_ge q p with z | z
      · exact h2 q z
      · have : q = p := by omega
        subst this
        rw [e]
        exact hk.1
/-- the room for moves doesn't hang on the traits -/
theorem kfo_nm (a l : Nat) : ∀ (M : List (Nat × Nat)) (σ σ' : kS), σ.1 = σ'.1 → σ.2.1 = σ'.2.1 → (kfo a l σ M).1 = (kfo a l σ' M).1 ∧ (kfo a l σ M).2.1 = (kfo a l σ' M).2.1
  | [], σ, σ', h1, h2 => ⟨h1, h2⟩
  | m :: M, σ, σ', h1, h2 => by
    show (kfo a l (kst a l σ m) M).1 = (kfo a l (kst a l σ' m) M).1 ∧ (kfo a l (kst a l σ m) M).2.1 = (kfo a l (kst a l σ' m) M).2.1
    apply kfo_nm a l M
    · unfold kst
      rw [h1]
      split
      · exact h1
      · rfl
    · unfold kst
      rw [h1, h2]
      split
      · exact h2
      · rfl
theorem fmS_nm (K lf : Nat → Nat) (n nm : Nat) (tr tr' : Nat → Int32) : ∀ p, (fmS K lf n nm tr p).1 = (fmS K lf n nm tr' p).1 ∧ (fmS K lf n nm tr p).2.1 = (fmS K lf n nm tr' p).2.1
  | 0 => ⟨rfl, rfl⟩
  | p + 1 => by
    obtain ⟨h1, h2⟩ := fmS_nm K lf n nm tr tr' p
    rw [fmS_s, fmS_s]
    have := kfo_nm (fmS K lf n nm tr p).1 p (scl 1 0 (pmv K lf (n - 1) p)) ([], (fmS K lf n nm tr p).2.1, (fmS K lf n nm tr p).2.2) ([], (fmS K lf n nm tr' p).2.1, (fmS K lf n nm tr' p).2.2) rfl h2
    have e : gmvP K lf n p (fmS K lf n nm tr p) = kfo (fmS K lf n nm tr p).1 p ([], (fmS K lf n nm tr p).2.1, (fmS K lf n nm tr p).2.2) (scl 1 0 (pmv K lf (n - 1) p)) := rfl
    have e' : gmvP K lf n p (fmS K lf n nm tr' p) = kfo (fmS K lf n nm tr p).1 p ([], (fmS K lf n nm tr' p).2.1, (fmS K lf n nm tr' p).2.2) (scl 1 0 (pmv K lf (n - 1) p)) := by rw [h1]; rfl
    dsimp only
    rw [e, e', this.1, this.2, h1]
    exact ⟨rfl, rfl⟩
/-- the room for moves behind a pattern -/
def nmF (K lf : Nat → Nat) (n nm : Nat) : Nat := (fmS K lf n nm (fun _ => 0) (psp K lf (n - 1))).2.1
