/-! Room: what a machine gets to know -/
def knN (Gx : List (List Nat)) (p : Int64) (A : List Nat) : Prop := A.Nodup ∧ knW p Gx A
def wtN (Gx : List (List Nat)) (p : Int64) (m : Nat) : Prop := ∃ w, rowM p 1 w = m ∧ m ≠ 0 ∧ (w.length ≤ 5 ∨ w ∈ Gx)
section KN
variable {p : Int64} {Gx : List (List Nat)}
theorem knN_mono {Gy : List (List Nat)} {A : List Nat} (h : knN Gx p A) (hs : ∀ w ∈ Gx, w ∈ Gy) : knN Gy p A := ⟨h.1, fun m hm => by
  obtain ⟨w, a, b, c⟩ := h.2 m hm
  exact ⟨w, a, b, c.imp id (hs w)⟩⟩
theorem knN_st {W m : Nat} {A : aM} (h : knN Gx p A.1) (hm : wtN Gx p m) : knN Gx p (stA W A m).1 := by
  unfold stA
  split
  · exact h
  next q =>
    refine ⟨?_, fun y hy => ?_⟩
    · show (A.1 ++ [m]).Nodup
      rw [List.nodup_append]
      refine ⟨h.1, by simp, fun a ha b hb => ?_⟩
      rw [List.mem_singleton] at hb
      subst hb
      exact fun z => q (z ▸ ha)
    · rcases List.mem_append.mp hy with w | w
      · exact h.2 y w
      · rw [List.mem_singleton] at w
        rw [w]; exact hm
theorem knN_1 : knN Gx p [1] := ⟨by simp, fun m hm => by
  rw [List.mem_singleton] at hm
  exact ⟨[], hm.symm, by omega, Or.inl (Nat.zero_le _)⟩⟩
theorem lv_row : ∀ (l : Nat) (m : Nat), m ∈ lvL (dG p) l → ∃ w, w.length = l ∧ rowM p 1 w = m
  | 0, m, h => by
    have : m = 1 := by simpa [lvL] using h
    exact ⟨[], rfl, this.symm⟩
  | l + 1, m, h => by
    obtain ⟨a, h1, h2⟩ := List.mem_flatMap.mp h
    obtain ⟨w, w1, w2⟩ := lv_row l a h1
    obtain ⟨x, -, h3⟩ := List.mem_map.mp (List.mem_filter.mp h2).1
    refine ⟨w ++ [x], by rw [List.length_append, w1]; rfl, ?_⟩
    rw [rowM_app, w2]
    exact h3
theorem live_ne (hp : okP p) {m x : Nat} (hm : m < 2 ^ dS p) (hx : x < 8) (h : (trM (dT p) m).testBit x = true) : dltM (dG p) x m ≠ 0 := fun e => by
  have e2 : dltM (gmP (dK p) (dL p) (dN p)) x m = 0 := e
  have := tr_due (dwf hp) hm hx
  have h2 : (trM (tP (dK p) (dL p) (dN p)) m).testBit x = true := h
  rw [h2, e2] at this
  exact absurd this (by decide)
theorem knN_soS (hp : okP p) {l m x : Nat} (hl : l ≤ 4) (hx : x < 8) {β : bS} (h : knN Gx p β.1.2.1.1) : knN Gx p (soS p (cL p l) m x β).1.2.1.1 := by
  unfold soS
  split
  next q =>
    have hm : m ∈ lvL (dG p) l := List.count_pos_iff.mp (Nat.pos_of_ne_zero q.1)
    have hlt := lvS_lt (psp_pos (dK p) (dL p) (dN p - 1)) (gm_ok hp) l m hm
    obtain ⟨w, w1, w2⟩ := lv_row l m hm
    exact knN_st h ⟨w ++ [x], by rw [rowM_app, w2]; rfl, live_ne hp hlt hx q.2, Or.inl (by rw [List.length_append, w1]; exact Nat.succ_le_succ hl)⟩
  · exact h
theorem knN_soX (hp : okP p) {l m : Nat} (hl : l ≤ 4) : ∀ (r : Nat) {β : bS}, knN Gx p β.1.2.1.1 → knN Gx p (soX p (cL p l) m r β).1.2.1.1
  | 0, _, h => h
  | r + 1, β, h => knN_soX hp hl r (knN_soS hp hl (by omega) h)
theorem knN_soL (hp : okP p) {l : Nat} (hl : l ≤ 4) : ∀ (R : List Nat) {β : bS}, knN Gx p β.1.2.1.1 → knN Gx p (soL p (cL p l) R β).1.2.1.1
  | [], _, h => h
  | m :: R, β, h => knN_soL hp hl R (knN_soX hp hl 8 h)
theorem knN_cnG (hp : okP p) : ∀ (l : Nat) {γ : cG}, l ≤ 5 → knN Gx p γ.1.2.1.1 → knN Gx p (cnG p l γ).1.2.1.1
  | 0, _, _, h => h
  | l + 1, γ, hl, h => knN_soL hp (by omega) _ (knN_cnG hp l (by omega) h)
theorem knN_ctN (hp : okP p) {n : Nat} (hn : n ≤ 6) {τ : aT} (e : τ.1.1 = p) (h : knN Gx p τ.1.2.1.1) : knN Gx p (ctN n τ).1.2.1.1 := by
  unfold ctN
  split
  · exact h
  · show knN Gx p (ctG n τ).1.2.1.1
    unfold ctG
    rw [e]
    exact knN_cnG hp (n - 1) (by omega) h
theorem knN_rowA (hp : okP p) : ∀ (xs u : List Nat) {ν : aN}, ν.1 = p → rowL p (rowM p 1 u) xs → (∀ k, 1 ≤ k → k ≤ xs.length → u ++ xs.take k ∈ Gx) → knN Gx p ν.2.1.1 → knN Gx p (rowA ν (rowM p 1 u) xs).1.2.1.1
  | [], u, ν, _, _, _, h => h
  | x :: xs, u, ν, e, hl, hg, h => by
    obtain ⟨l1, l2, l3⟩ := hl
    have hne := live_ne hp (rowM_lt hp u 1 (one_lt hp)) l1 l2
    have e2 : rowM p 1 (u ++ [x]) = dltM (dG p) x (rowM p 1 u) := rowM_app u [x] 1
    show knN Gx p (rowA (sY ν (dltM (dG ν.1) x (rowM p 1 u))) (dltM (dG ν.1) x (rowM p 1 u)) xs).1.2.1.1
    rw [e, ← e2]
    rw [← e2] at l3
    refine knN_rowA hp xs (u ++ [x]) e l3 (fun k k1 k2 => ?_) ?_
    · have := hg (k + 1) (by omega) (by rw [List.length_cons]; omega)
      rw [List.take_succ_cons] at this
      rw [List.append_assoc]
      exact this
    · refine knN_st h ⟨u ++ [x], rfl, by rw [e2]; exact hne, Or.inr ?_⟩
      have := hg 1 (Nat.le_refl _) (by rw [List.length_cons]; omega)
      rw [List.take_succ_cons, List.take_zero] at this
      exact this
theorem knN_len (hp : okP p) {A : List Nat} (h : knN Gx p A) (hg : Gx.length ≤ 512) : A.length ≤ 2 ^ 14 := by
  have := knW_len hp h.1 h.2
  omega
end KN
/-- rows gone through, of one owner -/
def gO1 (G : List (Nat × List Nat)) (x : Nat) : List (List Nat) := (G.filter (fun t => t.1 == x)).map (fun t => t.2)
theorem mem_gO1 {G : List (Nat × List Nat)} {x : Nat} {w : List Nat} (h : (x, w) ∈ G) : w ∈ gO1 G x := List.mem_map.mpr ⟨(x, w), List.mem_filter.mpr ⟨h, by simp⟩, rfl⟩
theorem gO1_mem {G : List (Nat × List Nat)} {x : Nat} {w : List Nat} (h : w ∈ gO1 G x) : (x, w) ∈ G := by
  obtain ⟨t, h1, h2⟩ := List.mem_map.mp h
  obtain ⟨h3, h4⟩ := List.mem_filter.mp h1
  have := beq_iff_eq.mp h4
  obtain ⟨a, b⟩ := t
  dsimp only at *
  rw [← this, ← h2]
  exact h3
theorem gO1_len (G : List (Nat × List Nat)) (x : Nat) : (gO1 G x).length ≤ G.length := by
  unfold gO1
  rw [List.length_map]
  exact List.length_filter_le _ _
theorem gO1_mono {G G' : List (Nat × List Nat)} (h : ∀ t ∈ G, t ∈ G') (x : Nat) : ∀ w ∈ gO1 G x, w ∈ gO1 G' x := fun w hw => mem_gO1 (h _ (gO1_mem hw))
/-! the rows that a text goes through as a book -/
abbrev gpS : Type := List (Nat × List Nat) × Option Nat
def gpT (s : gpS) (c : Nat) : Option (gpS × List (Nat × List Nat)) := if 97 ≤ c ∧ c ≤ 104 then (match s.1 with
    | [] => some (s, [])
    | (x, r) :: R => some (((x, r ++ [c - 97]) :: R, some (c - 97)), [(x, r ++ [c - 97])]))
  else if c = 32 then some (s, []) else if c = 40 then (match s.2 with
    | some b => if s.1.length ≤ 8 then some (((b, []) :: s.1, none), []) else none
    | none => none) else if c = 41 then (if 2 ≤ s.1.length then some ((s.1.tail, none), []) else none) else none
def gpF : gpS → List Nat → List (Nat × List Nat)
  | _, [] => []
  | s, c :: cs => match gpT s c with
    | none => []
    | some t => t.2 ++ gpF t.1 cs
theorem gpT_len {s : gpS} {c : Nat} {t : gpS × List (Nat × List Nat)} (h : gpT s c = some t) : t.2.length ≤ 1 := by
  unfold gpT at h
  split at h
  · split at h
    · rw [← Option.some.inj h]; exact Nat.zero_le _
    · rw [← Option.some.inj h]; exact Nat.le_refl _
  · split at h
    · rw [← Option.some.inj h]; exact Nat.zero_le _
    · split at h
      · split at h
        · split at h
          · rw [← Option.some.inj h]; exact Nat.zero_le _
          · simp at h
        · simp at h
      · split at h
        · split at h
          · rw [← Option.some.inj h]; exact Nat.zero_le _
          · simp at h
        · simp at h
theorem gpF_app (c : Nat) : ∀ (T : List Nat) (s : gpS), ∃ y, y.length ≤ 1 ∧ gpF s (T ++ [c]) = gpF s T ++ y
  | [], s => by
    cases h : gpT s c with
    | none =>
      refine ⟨[], Nat.zero_le _, ?_⟩
      show (match gpT s c with | none => [] | some t => t.2 ++ gpF t.1 []) = _
      rw [h]; rfl
    | some t =>
      refine ⟨t.2, gpT_len h, ?_⟩
      show (match gpT s c with | none => [] | some t => t.2 ++ gpF t.1 []) = _
      rw [h]
      show t.2 ++ [] = [] ++ t.2
      simp
  | a :: T, s => by
    cases h : gpT s a with
    | none =>
      refine ⟨[], Nat.zero_le _, ?_⟩
      show (match gpT s a with | none => [] | some t => t.2 ++ gpF t.1 (T ++ [c])) = (match gpT s a with | none => [] | some t => t.2 ++ gpF t.1 T) ++ []
      rw [h]; rfl
    | some t =>
      obtain ⟨y, y1, y2⟩ := gpF_app c T t.1
      refine ⟨y, y1, ?_⟩
      show (match gpT s a with | none => [] | some t => t.2 ++ gpF t.1 (T ++ [c])) = (match gpT s a with | none => [] | some t => t.2 ++ gpF t.1 T) ++ y
      rw [h]
      show t.2 ++ gpF t.1 (T ++ [c]) = (t.2 ++ gpF t.1 T) ++ y
      rw [y2, List.append_assoc]
/-- the pass of the class beside the rows -/
def gpR (ps : Nat → Int64) (q : aQ) : List (Nat × Nat) → List (Nat × List Nat) → Prop
  | [], [] => True
  | (x, m) :: A, (y, r) :: B => x = y ∧ x < 9 ∧ (q = none → m = rowM (ps x) 1 r) ∧ gpR ps q A B
  | _, _ => False
theorem gpR_len {ps : Nat → Int64} {q : aQ} : ∀ {A : List (Nat × Nat)} {B : List (Nat × List Nat)}, gpR ps q A B → A.length = B.length
  | [], [], _ => rfl
  | (_, _) :: A, (_, _) :: B, h => by
    rw [List.length_cons, List.length_cons, gpR_len h.2.2.2]
theorem gpR_q {ps : Nat → Int64} {q q' : aQ} (hq : q' = none → q = none) : ∀ {A : List (Nat × Nat)} {B : List (Nat × List Nat)}, gpR ps q A B → gpR ps q' A B
  | [], [], _ => trivial
  | (_, _) :: A, (_, _) :: B, h => ⟨h.1, h.2.1, fun w => h.2.2.1 (hq w), gpR_q hq h.2.2.2⟩
theorem knN_kbF {ps : Nat → Int64} (hok : ∀ x, x < 9 → okP (ps x)) {G : List (Nat × List Nat)} : ∀ (cs : List Nat) (i : Nat) {κ : kB} {s : gpS}, κ.2.1 = s.2 → gpR ps κ.2.2.1 κ.1 s.1 → 1 ≤ κ.1.length → κ.1.length ≤ 9 → (∀ b, κ.2.1 = some b → b < 8) → (∀ y, y < 9 → (κ.2.2.2.2.2 y).1 = ps y) → (∀ y, y < 9 → knN (gO1 G y) (ps y) (κ.2.2.2.2.2 y).2.1.1) → (∀ t ∈ gpF s cs, t ∈ G) → ∀ y, y < 9 → knN (gO1 G y) (ps y) ((kbF κ cs i).2.2.2.2.2.2 y).2.1.1
  | [], i, κ, s, _, _, _, _, _, _, h, _ => h
  | c :: cs, i, κ, s, hb, hR, h1, h9, hbr, hps, hk, hg => by
    rw [kbF_c]
    cases e : kbT κ c i with
    | none => exact hk
    | some κ' =>
      have hl := kbT_len h1 h9 e
      have hbr' := kbT_br h1 hbr e
      have hlen := gpR_len hR
      have go : ∀ {s' : gpS} {v : List (Nat × List Nat)}, gpT s c = some (s', v) → κ'.2.1 = s'.2 → gpR ps κ'.2.2.1 κ'.1 s'.1 → (∀ y, y < 9 → (κ'.2.2.2.2.2 y).1 = ps y) → (∀ y, y < 9 → knN (gO1 G y) (ps y) (κ'.2.2.2.2.2 y).2.1.1) → ∀ y, y < 9 → knN (gO1 G y) (ps y) ((kbF κ' cs (i + 1)).2.2.2.2.2.2 y).2.1.1 := fun {s' v} ht a1 a2 a3 a4 => knN_kbF hok cs (i + 1) a1 a2 hl.1 hl.2 hbr' a3 a4 (fun t htt => hg t (by
        show t ∈ (match gpT s c with | none => [] | some t => t.2 ++ gpF t.1 cs)
        rw [ht]
        exact List.mem_append.mpr (Or.inr htt)))
      obtain ⟨w1, w2⟩ := kbT_w κ c i
      show ∀ y, y < 9 → knN (gO1 G y) (ps y) ((kbF κ' cs (i + 1)).2.2.2.2.2.2 y).2.1.1
      by_cases qL : 97 ≤ c ∧ c ≤ 104
      · rw [w1 qL] at e
        have e2 := Option.some.inj e
        subst e2
        obtain ⟨st, br, q, le, de, ν⟩ := κ
        obtain ⟨S1, S2⟩ := s
        dsimp only at hb hR h1 h9 hbr hps hk hlen
        cases st with
        | nil => simp at h1
        | cons a R =>
          obtain ⟨x, m⟩ := a
          cases S1 with
          | nil => exact hR.elim
          | cons b B =>
            obtain ⟨y0, r⟩ := b
            obtain ⟨rfl, x9, hm, hR2⟩ := hR
            have hgt : gpT (((x, r) :: B, S2) : gpS) c = some (((x, r ++ [c - 97]) :: B, some (c - 97)), [(x, r ++ [c - 97])]) := by
              unfold gpT
              rw [if_pos qL]
            have hin : (x, r ++ [c - 97]) ∈ G := hg _ (by
              show _ ∈ (match gpT (((x, r) :: B, S2) : gpS) c with | none => [] | some t => t.2 ++ gpF t.1 cs)
              rw [hgt]
              exact List.mem_append.mpr (Or.inl (List.mem_singleton.mpr rfl)))
            have hbrr := kbL_br (((x, m) :: R, br, q, le, de, ν) : kB) (c - 97) i h1
            refine go hgt hbrr ?_ ?_ ?_
            · unfold kbL
              dsimp only
              cases he : ebA ν br q i le with
              | some t => exact ⟨rfl, x9, fun w => by simp at w, gpR_q (fun w => by simp at w) hR2⟩
              | none =>
                have hq : q = none := by
                  cases q with
                  | none => rfl
                  | some t => rw [ebA_q] at he; simp at he
                dsimp only
                split
                · refine ⟨rfl, x9, fun _ => ?_, gpR_q (fun _ => hq) hR2⟩
                  rw [hps x x9, hm hq, rowM_app]
                  rfl
                · exact ⟨rfl, x9, fun w => by simp at w, gpR_q (fun w => by simp at w) hR2⟩
            · intro y hy
              exact ((kbL_at (((x, m) :: R, br, q, le, de, ν) : kB) (c - 97) i h1).2.2.2.2 y).trans (hps y hy)
            · intro y hy
              unfold kbL
              dsimp only
              cases he : ebA ν br q i le with
              | some t => exact hk y hy
              | none =>
                have hq : q = none := by
                  cases q with
                  | none => rfl
                  | some t => rw [ebA_q] at he; simp at he
                dsimp only
                split
                next hbit =>
                  dsimp only
                  unfold upN
                  by_cases yx : y = x
                  · subst yx
                    rw [if_pos rfl, hps y hy, hm hq]
                    rw [hps y hy, hm hq] at hbit
                    refine knN_st (hk y hy) ⟨r ++ [c - 97], by rw [rowM_app]; rfl, live_ne (hok y hy) (rowM_lt (hok y hy) r 1 (one_lt (hok y hy))) (by omega) hbit, Or.inr (mem_gO1 hin)⟩
                  · rw [if_neg yx]
                    exact hk y hy
                · exact hk y hy
      · by_cases q32 : c = 32
        · rw [q32, kbT_32] at e
          have e2 := Option.some.inj e
          subst e2
          exact go (s' := s) (v := []) (by unfold gpT; rw [if_neg qL, if_pos q32]) hb hR hps hk
        · obtain ⟨v1, v2, v3⟩ := w2 qL q32
          by_cases q40 : c = 40
          · obtain ⟨u1, u2⟩ := v1 q40
            cases hbb : κ.2.1 with
            | none => rw [u2 (Or.inl hbb)] at e; simp at e
            | some b =>
              by_cases h8 : κ.1.length ≤ 8
              · rw [u1 b hbb h8] at e
                have e2 := Option.some.inj e
                subst e2
                have b8 := hbr b hbb
                refine go (s' := ((b, []) :: s.1, none)) (v := []) ?_ rfl ⟨rfl, by omega, fun _ => rfl, hR⟩ hps hk
                unfold gpT
                rw [if_neg qL, if_neg q32, if_pos q40, ← hb, hbb]
                dsimp only
                rw [if_pos (by omega)]
              · rw [u2 (Or.inr h8)] at e; simp at e
          · by_cases q41 : c = 41
            · obtain ⟨u1, u2⟩ := v2 q41
              by_cases h2 : 2 ≤ κ.1.length
              · rw [u1 h2] at e
                have e2 := Option.some.inj e
                subst e2
                refine go (s' := (s.1.tail, none)) (v := []) ?_ rfl ?_ hps hk
                · unfold gpT
                  rw [if_neg qL, if_neg q32, if_neg q40, if_pos q41, if_pos (by omega)]
                · have hqq : kbE κ i = none → κ.2.2.1 = none := fun w => by
                    cases hq : κ.2.2.1 with
                    | none => rfl
                    | some t => rw [kbE_q hq h1 i] at w; simp at w
                  show gpR ps (kbE κ i) κ.1.tail s.1.tail
                  obtain ⟨st, br, q, le, de, ν⟩ := κ
                  obtain ⟨S1, S2⟩ := s
                  cases st with
                  | nil => simp at h1
                  | cons a R =>
                    cases S1 with
                    | nil =>
                      obtain ⟨x, m⟩ := a
                      exact hR.elim
                    | cons b B =>
                      obtain ⟨x, m⟩ := a
                      obtain ⟨y0, r⟩ := b
                      exact gpR_q hqq hR.2.2.2
              · rw [u2 h2] at e; simp at e
            · rw [v3 q40 q41] at e; simp at e
