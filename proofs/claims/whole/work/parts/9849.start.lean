/-! The state at the beginning; the calls over all ints -/
abbrev ν00 : aN := (lN 9, ([], 8, 8), 4, 4, 0)
noncomputable def v00 : aV := (fun _ => ldY ν00 (lN 9), 16, 16)
theorem dW9 : 1 ≤ dW (lN 9) ∧ dW (lN 9) ≤ 4 := by
  obtain ⟨w1, w4, -⟩ := wdN_ok (wf_sp (dwf okP9) (show dN (lN 9) - 1 < dN (lN 9) by have := (dwf okP9).1; omega))
  exact ⟨w1, w4⟩
theorem okN00 : okN ν00 := ⟨⟨0, rfl⟩, ⟨0, Or.inl rfl⟩, dW9.1, dW9.2⟩
theorem rmN00 : rmN ν00 := ⟨dW9.2, ⟨⟨0, rfl⟩, Nat.zero_le _, fun _ => ⟨Nat.le_of_ble_eq_true rfl, Nat.le_of_ble_eq_true rfl⟩⟩, Nat.le_of_ble_eq_true rfl, Nat.le_of_ble_eq_true rfl⟩
theorem mv00 : mvB [] (pT (fun _ => [9], 8, [])) v00 := by
  refine ⟨⟨fun _ => ld_okN okP9 okN00, fun x hx => ⟨okP9, rfl, ?_, ?_⟩⟩, fun _ => rm_ld okP9 rmN00 ⟨Nat.le_of_ble_eq_true rfl, Nat.le_of_ble_eq_true rfl⟩, Nat.le_refl _, Nat.le_of_ble_eq_true rfl, Nat.le_refl _, Nat.le_of_ble_eq_true rfl⟩
  · have := nmF_b (dwf okP9) 4
    show nmF (dK (lN 9)) (dL (lN 9)) (dN (lN 9)) 4 ≤ 8192
    omega
  · show knN _ _ (stA (dW (lN 9)) ([], 8, 8) 1).1
    rw [ld_st]
    exact knN_1
theorem s_init {pt : Nat → Int64} {s : Nat → aS} {PM' : Nat → PS × MS} {gal : Nat → Int32} {h2 : aH} (hpt : ∀ j, j < 9 → pt j = lN 9) (hf : fwR PM0 PM' al0 pt 9) (hx : gHx (upd (upd gal 442 (nI 8)) 443 (nI 0)) (fun _ => 0) 0 (fun _ => 0) (fun _ => 0) 0 h2) (hem : ∀ y, y < 9 → emG gal y) : sJ 0 v00 (jH (jNew pt s) PM') h2 := by
  have hy : jY PM' v00.1 := fun x hx9 => by
    obtain ⟨-, f2⟩ := hf.1 x hx9
    have hz := f2 (by show ¬ (0 : Int64) = pt x; rw [hpt x hx9]; decide)
    rw [hpt x hx9] at hz
    refine ⟨fun _ => 0, hz, Or.inl rfl, ?_⟩
    show (stA (dW (lN 9)) ([], 8, 8) 1).1[0]? = some 1
    rw [ld_st]
    rfl
  refine ⟨[], ((0, 0, 0), [], (fun _ => [9], 8, []), []), Nat.le_refl _, ⟨Nat.zero_le _, Nat.zero_le _, fun t h => by simp [gpF] at h, ⟨fun x _ => okP9, trivial, fun j q1 q2 => absurd (Nat.le_trans q1 q2) (show ¬ 1 ≤ 0 by decide)⟩, fun t h => absurd h List.not_mem_nil, mv00⟩, ?_, ?_⟩
  · exact ⟨fun _ => 0, (pt, fun _ => 0, 0, nI 8), 0, s, (fun _ => 0, fun _ => 0, 0, 0, 0, 0, 0, 0, 0, 0), fun _ => 0, fun _ => 0, (0, 0, 0, 0, 0, 0, 0, 0, fun _ => 0, fun _ => 0), PM', rfl, fun i c h => absurd h (by simp), ⟨hpt, show 8 < 9 by decide, Nat.zero_le _, rfl, rfl, fun i y h => absurd h (by simp)⟩, by decide, fun i t h => absurd h (by simp), hy⟩
  · exact ⟨upd (upd gal 442 (nI 8)) 443 (nI 0), fun _ => 0, fun _ => 0, fun _ => 0, hx, ⟨rfl, rfl, rfl⟩, fun i c h => absurd h (by simp), ⟨fun y hy9 => paL_cg hy9 (fun j hj => by rw [upd_n (by omega), upd_n (by omega)]) (emG_L (hem y hy9)), show 8 < 9 by decide, Nat.zero_le _, by rw [upd_n (by decide), upd_s], by rw [upd_s]; rfl, fun y hy9 => absurd hy9 List.not_mem_nil, fun i y hy9 => by simp at hy9⟩, fun i t h => absurd h (by simp)⟩
theorem c00 : flS zC al0 (fwA al0 (fun _ => lN 9)) 9 ≤ VC v00 ∧ flS zS al0 (fwA al0 (fun _ => lN 9)) 9 ≤ VS v00 ∧ VC v00 ≤ 367360 ∧ VS v00 ≤ 6475136 := by
  obtain ⟨b1, b2⟩ := mvB_b mv00 (Nat.zero_le _)
  have e : ∀ x, fwA al0 (fun _ => lN 9) x = ldA (al0 x) (lN 9) := fun x => if_neg (show ¬ (0 : Int64) = lN 9 by decide)
  have eC : ∀ x, zC (fwA al0 (fun _ => lN 9) x) = yC (ldY ν00 (lN 9)) := fun x => by rw [e]; rfl
  have eS : ∀ x, zS (fwA al0 (fun _ => lN 9) x) = yS (ldY ν00 (lN 9)) := fun x => by rw [e]; rfl
  have vC : VC v00 = yC (ldY ν00 (lN 9)) + yC (ldY ν00 (lN 9)) + yC (ldY ν00 (lN 9)) + yC (ldY ν00 (lN 9)) + yC (ldY ν00 (lN 9)) + yC (ldY ν00 (lN 9)) + yC (ldY ν00 (lN 9)) + yC (ldY ν00 (lN 9)) + yC (ldY ν00 (lN 9)) + 16 + 16 := rfl
  have vS : VS v00 = yS (ldY ν00 (lN 9)) + yS (ldY ν00 (lN 9)) + yS (ldY ν00 (lN 9)) + yS (ldY ν00 (lN 9)) + yS (ldY ν00 (lN 9)) + yS (ldY ν00 (lN 9)) + yS (ldY ν00 (lN 9)) + yS (ldY ν00 (lN 9)) + yS (ldY ν00 (lN 9)) + 2 * 16 + 2 * 16 := rfl
  refine ⟨?_, ?_, b2, b1⟩
  · rw [vC]
    simp only [flS, eC]
    generalize yC (ldY ν00 (lN 9)) = y
    omega
  · rw [vS]
    simp only [flS, eS]
    generalize yS (ldY ν00 (lN 9)) = y
    omega
theorem sJ_1 {k : Nat} {v : aV} {h1 h2 : aH} (h : sJ k v h1 h2) : (∃ fs, hget h1 0 = some (.inr (9, fs))) ∧ ∃ fs, hget h2 0 = some (.inr (10, fs)) := by
  obtain ⟨G, A, -, -, ⟨tb, s0, w, s, r0, wa, wb, bk, PM, rfl, -⟩, gal, gps, grf, gtx, hx, -⟩ := h
  obtain ⟨gmy, gkd, glf, grt, gpr, gun, gow, gem, ged, gse, gsz, gsp, gmd, gop, gom, gwt, gwm, gtn, gon, gsh, gtr, gbl, gbd, gwh, gfl, gfd, gfe, rfl⟩ := hx
  exact ⟨⟨_, rfl⟩, ⟨_, rfl⟩⟩
section JA
variable {k : Nat} {v : aV} {h1 h2 : aH}
theorem ja_type (hk : k < 512) (hS : sJ k v h1 h2) (y : Int32) : JC zI 32 103 [.ref 0, .int y] k v h1 h2 := by
  rcases in_or y (b := 127) (by decide) with ⟨q1, q2, q3⟩ | ⟨n, hn, rfl⟩
  · exact j_typeBad hk hS y q1 q2
  · exact j_type hk hS n (by omega)
theorem ja_clears (hk : k < 512) (hS : sJ k v h1 h2) (y : Int32) : JC zI 56 119 [.ref 0, .int y] k v h1 h2 := by
  rcases in_or y (b := 8) (by decide) with ⟨q1, q2, q3⟩ | ⟨n, hn, rfl⟩
  · exact j_clearsBad hk hS y q1 q3
  · exact j_clears hk hS n (by omega)
theorem ja_judge (hk : k < 512) (hS : sJ k v h1 h2) (y : Int32) : JC zI 75 136 [.ref 0, .int y] k v h1 h2 := by
  rcases in_or y (b := 5) (by decide) with ⟨q1, q2, q3⟩ | ⟨n, hn, rfl⟩
  · exact j_judgeBad hk hS y q1 q2
  · exact j_judge hk hS n (by omega)
theorem ja_begins (hk : k < 512) (hS : sJ k v h1 h2) (y : Int32) : JC zI 89 146 [.ref 0, .int y] k v h1 h2 := by
  rcases in_or y (b := 8) (by decide) with ⟨q1, q2, q3⟩ | ⟨n, hn, rfl⟩
  · exact j_beginsBad hk hS y q1 q3
  · exact j_begins hk hS n (by omega)
theorem ja_steps (hk : k < 512) (hS : sJ k v h1 h2) (y : Int32) : JC zI 92 149 [.ref 0, .int y] k v h1 h2 := by
  rcases in_or y (b := 7) (by decide) with ⟨q1, q2, q3⟩ | ⟨n, hn, rfl⟩
  · exact j_stepsBad hk hS y q1 q3
  · exact j_steps hk hS n (by omega)
theorem ja_now (hk : k < 512) (hS : sJ k v h1 h2) (y : Int32) : JC zI 94 150 [.ref 0, .int y] k v h1 h2 := by
  rcases in_or y (b := 3) (by decide) with ⟨q1, q2, q3⟩ | ⟨n, hn, rfl⟩
  · exact j_nowBad hk hS y q1 q2
  · exact j_now hk hS n (by omega)
theorem ja_told (hk : k < 512) (hS : sJ k v h1 h2) (y : Int32) : JC zI 97 153 [.ref 0, .int y] k v h1 h2 := by
  rcases in_or y (b := 4) (by decide) with ⟨q1, q2, q3⟩ | ⟨n, hn, rfl⟩
  · exact j_toldBad hk hS y q1 q2
  · exact j_told hk hS n (by omega)
theorem ja_of (hk : k < 512) (hS : sJ k v h1 h2) (y z : Int32) : JC zI 57 121 [.ref 0, .int y, .int z] k v h1 h2 := by
  rcases in_or y (b := 8) (by decide) with ⟨q1, q2, q3⟩ | ⟨n, hn, rfl⟩
  · exact j_ofBad hk hS y z (Or.inl q1) (Or.inl q3)
  · rcases in_or z (b := 3) (by decide) with ⟨q1, q2, q3⟩ | ⟨w, hw, rfl⟩
    · exact j_ofBad hk hS _ z (Or.inr q1) (Or.inr ⟨⟨n, by omega, rfl⟩, q2⟩)
    · exact j_of hk hS n w (by omega) (by omega)
theorem ja_rows (hk : k < 512) (hS : sJ k v h1 h2) (y z : Int32) : JC zI 64 133 [.ref 0, .int y, .int z] k v h1 h2 := by
  rcases in_or y (b := 8) (by decide) with ⟨q1, q2, q3⟩ | ⟨n, hn, rfl⟩
  · exact j_rowsBad hk hS y z (Or.inl q1) (Or.inl q3)
  · rcases in_or z (b := 6) (by decide) with ⟨q1, q2, q3⟩ | ⟨w, hw, rfl⟩
    · exact j_rowsBad hk hS _ z (Or.inr q1) (Or.inr ⟨⟨n, by omega, rfl⟩, q2⟩)
    · exact j_rows hk hS n w (by omega) hw
end JA
