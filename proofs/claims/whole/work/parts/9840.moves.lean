/-! Room: the moves of a plan -/
section NM
variable {K lf : Nat → Nat} {n : Nat}
theorem pmv_cu (h : wfP K lf n) : ∀ i, i < n → (pmv K lf i 0).length ≤ cntL K (i + 1) - cntL K (pst K lf i) ∧ ∀ p, (pmv K lf i p).length ≤ (cntL K (i + 1) - cntL K (pst K lf i)) * (1 + (cntU K (i + 1) - cntU K (pst K lf i))) := by
  intro i
  induction i using Nat.strongRecOn with
  | _ i ih =>
    intro hi
    have s1 : cntL K (i + 1) = cntL K i + (if K i ≤ 8 then 1 else 0) := rfl
    have s3 : cntU K (i + 1) = cntU K i + (if 13 ≤ K i then 1 else 0) := rfl
    rcases wf_cases h hi with q | q | ⟨q1, q2, q3, q4⟩ | ⟨q1, q2, q3, q4, q5, q6⟩
    · rw [pst_leaf (by omega), s1, s3, if_pos q, if_neg (by omega)]
      have e1 : cntL K i + 1 - cntL K i = 1 := by omega
      have e2 : cntU K i + 0 - cntU K i = 0 := by omega
      rw [e1, e2]
      refine ⟨by rw [pmv_let q, if_pos rfl]; exact Nat.le_refl _, fun p => ?_⟩
      rw [pmv_let q]
      split
      · exact Nat.le_refl _
      · exact Nat.zero_le _
    · refine ⟨by rw [pmv_emp q]; exact Nat.zero_le _, fun p => by rw [pmv_emp q]; exact Nat.zero_le _⟩
    · obtain ⟨a1, a2⟩ := ih (i - 1) (by omega) (by omega)
      rw [show i - 1 + 1 = i by omega] at a1 a2
      have hp := pst_le K lf (i - 1)
      have m1 := cntU_mono K (show pst K lf (i - 1) ≤ i by omega)
      rw [q4, s1, s3, if_neg (by omega), if_pos q1, Nat.add_zero]
      generalize cntL K i - cntL K (pst K lf (i - 1)) = c at *
      have e2 : cntU K i + 1 - cntU K (pst K lf (i - 1)) = (cntU K i - cntU K (pst K lf (i - 1))) + 1 := by omega
      rw [e2]
      generalize cntU K i - cntU K (pst K lf (i - 1)) = u at *
      refine ⟨?_, fun p => ?_⟩
      · rw [pmv_un q1 q3, if_neg (by intro w; exact w.2.1 rfl), List.append_nil]
        exact a1
      · rw [pmv_un q1 q3, List.length_append]
        have b1 := a2 p
        have b2 : (if K i ≠ 13 ∧ p ≠ 0 ∧ pal K lf (i - 1) p = true then pmv K lf (i - 1) 0 else []).length ≤ c := by
          split
          · exact a1
          · exact Nat.zero_le _
        rw [Nat.mul_add, Nat.mul_one] at b1
        rw [Nat.mul_add, Nat.mul_add, Nat.mul_one]
        omega
    · obtain ⟨a1, a2⟩ := ih (i - 1) (by omega) (by omega)
      obtain ⟨b1, b2⟩ := ih (lf i) (by omega) (by omega)
      rw [show i - 1 + 1 = i by omega, q5] at a1 a2
      have hp := pst_le K lf (lf i)
      have m1 := cntL_mono K (show pst K lf (lf i) ≤ lf i + 1 by omega)
      have m3 := cntU_mono K (show pst K lf (lf i) ≤ lf i + 1 by omega)
      have m4 := cntL_mono K (show lf i + 1 ≤ i by omega)
      have m6 := cntU_mono K (show lf i + 1 ≤ i by omega)
      rw [q6, s1, s3, if_neg (by omega), if_neg (by omega), Nat.add_zero, Nat.add_zero]
      have e1 : cntL K i - cntL K (pst K lf (lf i)) = (cntL K (lf i + 1) - cntL K (pst K lf (lf i))) + (cntL K i - cntL K (lf i + 1)) := by omega
      have e2 : cntU K i - cntU K (pst K lf (lf i)) = (cntU K (lf i + 1) - cntU K (pst K lf (lf i))) + (cntU K i - cntU K (lf i + 1)) := by omega
      rw [e1, e2]
      generalize cntL K (lf i + 1) - cntL K (pst K lf (lf i)) = c1 at *
      generalize cntL K i - cntL K (lf i + 1) = c2 at *
      generalize cntU K (lf i + 1) - cntU K (pst K lf (lf i)) = u1 at *
      generalize cntU K i - cntU K (lf i + 1) = u2 at *
      have hps := psp_pos K lf (lf i)
      have big : ∀ x y, x ≤ c1 * (1 + u1) → y ≤ c2 * (1 + u2) → x + y ≤ (c1 + c2) * (1 + (u1 + u2)) := fun x y hx hy => by
        have t1 := Nat.mul_le_mul_left c1 (show 1 + u1 ≤ 1 + (u1 + u2) by omega)
        have t2 := Nat.mul_le_mul_left c2 (show 1 + u2 ≤ 1 + (u1 + u2) by omega)
        rw [Nat.add_mul]
        omega
      have big0 : ∀ y, y ≤ c2 → y ≤ c2 * (1 + u2) := fun y hy => Nat.le_trans hy (Nat.le_mul_of_pos_right _ (by omega))
      by_cases k11 : K i = 11
      · refine ⟨?_, fun p => ?_⟩
        · rw [pmv_mix k11 q3 (by omega), List.length_append, List.length_map, List.length_map, Nat.zero_div, Nat.zero_mod]
          omega
        · rw [pmv_mix k11 q3 (by omega), List.length_append, List.length_map, List.length_map]
          exact big _ _ (b2 _) (a2 _)
      · have kp : K i = 10 ∨ K i = 12 := by omega
        have hif : ∀ (c : Prop) [Decidable c], (if c then (pmv K lf (i - 1) 0).map (fun m => (m.1, psp K lf (lf i) - 1 + m.2)) else []).length ≤ c2 := fun c _ => by
          split
          · rw [List.length_map]; exact a1
          · exact Nat.zero_le _
        refine ⟨?_, fun p => ?_⟩
        · rw [pmv_lo kp q3 (by omega) (by omega), List.length_append]
          have := hif (if K i = 12 then pal K lf (lf i) 0 = true else 0 = 0)
          omega
        · by_cases z : psp K lf (lf i) ≤ p
          · rw [pmv_hi kp q3 (by omega) z, List.length_map]
            have := big 0 _ (Nat.zero_le _) (a2 (p - psp K lf (lf i) + 1))
            omega
          · rw [pmv_lo kp q3 (by omega) z, List.length_append]
            exact big _ _ (b2 _) (big0 _ (hif _))
/-- not more than 4096 moves -/
theorem mv_4096 (h : wfP K lf n) : ∃ D, (∀ p, (pmv K lf (n - 1) p).length ≤ D) ∧ psp K lf (n - 1) * D ≤ 4096 := by
  have hn := h.1
  obtain ⟨-, a2⟩ := pmv_cu h (n - 1) (by omega)
  have hs := (wf_cnt h (n - 1) (by omega)).2
  have hnod := wf_nodes h
  have h16 := h.2.1
  have e0 : cntL K 0 = 0 := rfl
  have e3 : cntU K 0 = 0 := rfl
  rw [h.2.2.2, show n - 1 + 1 = n by omega, e0, Nat.sub_zero] at hs
  rw [h.2.2.2, show n - 1 + 1 = n by omega, e0, e3, Nat.sub_zero, Nat.sub_zero] at a2
  refine ⟨_, a2, ?_⟩
  generalize cntL K n = c at *
  generalize cntU K n = u at *
  have hu : u ≤ 17 - 2 * c := by omega
  have hc : c ≤ 8 := by omega
  have t1 := Nat.mul_le_mul hs (Nat.mul_le_mul_left c (show 1 + u ≤ 18 - 2 * c by omega))
  refine Nat.le_trans t1 ?_
  clear t1 hs a2 hnod hu
  revert c
  decide
theorem kfo_b (a l N : Nat) : ∀ (M : List (Nat × Nat)) (σ : kS), a + σ.1.length + M.length ≤ 4096 → σ.2.1 ≤ max N 8192 → (kfo a l σ M).2.1 ≤ max N 8192
  | [], σ, _, h => h
  | m :: M, σ, hc, h => by
    rw [List.length_cons] at hc
    show (kfo a l (kst a l σ m) M).2.1 ≤ _
    have hl := (kst_le a l σ m).2
    refine kfo_b a l N M _ (by omega) ?_
    unfold kst
    split
    · exact h
    · show kN σ.1 (a + σ.1.length) σ.2.1 m ≤ _
      unfold kN
      split
      · exact h
      · split
        · exact h
        · omega
theorem nmF_b (h : wfP K lf n) (nm : Nat) : nmF K lf n nm ≤ max nm 8192 := by
  obtain ⟨D, d1, d2⟩ := mv_4096 h
  have key : ∀ p, p ≤ psp K lf (n - 1) → (fmS K lf n nm (fun _ => 0) p).1 ≤ p * D ∧ (fmS K lf n nm (fun _ => 0) p).2.1 ≤ max nm 8192 := by
    intro p
    induction p with
    | zero => intro _; exact ⟨Nat.zero_le _, Nat.le_max_left _ _⟩
    | succ p ih =>
      intro hp
      obtain ⟨i1, i2⟩ := ih (by omega)
      have hm := Nat.mul_le_mul_right D hp
      rw [Nat.add_mul, Nat.one_mul] at hm
      have hd := d1 p
      rw [fmS_s]
      have hk := (kfo_le (fmS K lf n nm (fun _ => 0) p).1 p (scl 1 0 (pmv K lf (n - 1) p)) ([], (fmS K lf n nm (fun _ => 0) p).2.1, (fmS K lf n nm (fun _ => 0) p).2.2)).2
      rw [scl_one, List.length_nil] at hk
      refine ⟨?_, ?_⟩
      · show (fmS K lf n nm (fun _ => 0) p).1 + (gmvP K lf n p (fmS K lf n nm (fun _ => 0) p)).1.length ≤ (p + 1) * D
        unfold gmvP
        rw [scl_one, Nat.add_mul, Nat.one_mul]
        omega
      · show (gmvP K lf n p (fmS K lf n nm (fun _ => 0) p)).2.1 ≤ _
        unfold gmvP
        rw [scl_one]
        refine kfo_b _ _ _ _ _ ?_ i2
        rw [List.length_nil]
        omega
  exact (key _ (Nat.le_refl _)).2
end NM
/-- what all machines and the counter have cost, at most -/
def rmB (ν : aN) : Prop := ν.2.1.2.1 ≤ 2 ^ 14 ∧ ν.2.1.2.2 ≤ 2 ^ 16 ∧ ν.2.2.2.1 ≤ 8192 ∧ ν.2.2.1 ≤ 256
theorem tri_256 : tri 256 = 32896 := by decide +kernel
theorem rmB_S {ν : aN} (h : rmB ν) : yS ν ≤ 704896 ∧ yC ν ≤ 33536 := by
  obtain ⟨h1, h2, h3, h4⟩ := h
  have h5 := tri_le h4
  rw [tri_256] at h5
  unfold yS yC uS uC
  omega
theorem VS_b {v : aV} (h : ∀ x, x < 9 → rmB (v.1 x)) (hs : szT v.2.1 v.2.2) : VS v ≤ 6475136 ∧ VC v ≤ 367360 := by
  have a := fun x hx => rmB_S (h x hx)
  have a0 := a 0 (by decide)
  have a1 := a 1 (by decide)
  have a2 := a 2 (by decide)
  have a3 := a 3 (by decide)
  have a4 := a 4 (by decide)
  have a5 := a 5 (by decide)
  have a6 := a 6 (by decide)
  have a7 := a 7 (by decide)
  have a8 := a 8 (by decide)
  obtain ⟨-, b1, -, b2⟩ := hs
  unfold VS VC fY
  omega
