/-! The calls on both sides -/
section JL
variable {k : Nat} {v : aV} {h1 h2 : aH}
theorem j_type (hk : k < 512) (hS : sJ k v h1 h2) (c : Nat) (hc : c < 128) : JC zI 32 103 [.ref 0, .int (nI c)] k v h1 h2 := by
  obtain ⟨G, a, b, e, T, t0, past, tb, s0, w, s, r0, wa, wb, bk, PM, gal, gps, grf, gtx, hG, ⟨i1, i2, i3, i4, i5, i6⟩, rfl, ⟨a1, a2, a3, a4, a5⟩, hx, hr, ht, hs, hp⟩ := sJ_of hS
  by_cases q : T.length = 150
  · refine JC.at hk (.int (-4)) ⟨_, rfl⟩ nomv rfl G ((a, b, e + 1), T, t0, past) (by omega) ⟨i1, i2, i3, i4, i5, i6⟩ (fun d => ?_) (fun d => ?_)
    · rw [q]
      refine sp_weaken (c_typeFull a b e s0 _ r0 _ bk PM (d + 50) c hc tb) ?_
      rintro r _ ⟨rfl, rfl⟩
      refine ⟨rfl, tb, s0, w, s, r0, wa, wb, bk, PM, ?_, a1, a2, a3, a4, a5⟩
      show _ = jH ((a, b, e + 1), (nI T.length, tb), s0, (nI past.length, nI w, s), r0, (v.2.1, wa, v.2.2, wb), bk) PM
      rw [q]
    · refine sp_weaken (G_typeFull d hx c hc (by rw [q])) ?_
      rintro r h' ⟨rfl, q2⟩
      exact ⟨rfl, gal, gps, rfG grf 2, gtx, q2, (gK_2 (A := ((a, b, e), T, t0, past)) ⟨hr, ht, hs, hp⟩).1, ht, hs, hp⟩
  · obtain ⟨y, y1, y2⟩ := gpF_app c T ([(8, [])], none)
    have hll : (T ++ [c]).length = T.length + 1 := by rw [List.length_append]; rfl
    obtain ⟨-, -, -, j4, j5, j6⟩ := sI_G (G' := G ++ y) (A := ((a, b, e), T, t0, past)) ⟨i1, i2, i3, i4, i5, i6⟩ (fun t h => List.mem_append_left _ h)
    refine JC.at hk (.int (nI (T.length + 1))) ⟨_, rfl⟩ nomv rfl (G ++ y) ((a, b, e), T ++ [c], t0, past) (by rw [List.length_append]; omega) ⟨by show (T ++ [c]).length ≤ 150; omega, i2, fun t h => ?_, j4, j5, j6⟩ (fun d => ?_) (fun d => ?_)
    · have h3 : t ∈ gpF ([(8, [])], none) (T ++ [c]) := h
      rw [y2] at h3
      rcases List.mem_append.mp h3 with z | z
      · exact List.mem_append_left _ (i3 t z)
      · exact List.mem_append_right _ z
    · refine sp_weaken (c_type a b e T.length tb s0 _ r0 _ bk PM (d + 50) c hc (by omega)) ?_
      rintro r _ ⟨rfl, rfl⟩
      refine ⟨rfl, upd tb T.length (nI c), s0, w, s, r0, wa, wb, bk, PM, ?_, txR_app a1 hc, a2, a3, a4, a5⟩
      show _ = jH ((a, b, e), (nI (T ++ [c]).length, upd tb T.length (nI c)), s0, (nI past.length, nI w, s), r0, (v.2.1, wa, v.2.2, wb), bk) PM
      rw [hll]
    · refine sp_weaken (G_type d hx c T.length hc rfl (by omega)) ?_
      rintro r h' ⟨rfl, q2⟩
      refine ⟨rfl, gal, gps, grf, upd gtx T.length (nI c), ?_, hr, txR_app ht hc, hs, hp⟩
      show gHx gal gps (nI past.length) grf _ (nI (T ++ [c]).length) h'
      rw [hll]
      exact q2
theorem j_clear (hk : k < 512) (hS : sJ k v h1 h2) : JC zI 35 106 [.ref 0] k v h1 h2 := by
  obtain ⟨G, a, b, e, T, t0, past, tb, s0, w, s, r0, wa, wb, bk, PM, gal, gps, grf, gtx, hG, ⟨i1, i2, i3, i4, i5, i6⟩, rfl, ⟨a1, a2, a3, a4, a5⟩, hx, hr, ht, hs, hp⟩ := sJ_of hS
  refine JC.at hk (.int (nI T.length)) ⟨_, rfl⟩ nomv rfl G ((a, b, e), [], t0, past) (by omega) ⟨Nat.zero_le _, i2, fun t h => by simp [gpF] at h, i4, i5, i6⟩ (fun d => ?_) (fun d => ?_)
  · refine sp_weaken (c_clear a b e s0 _ r0 _ bk PM (d + 51) _) ?_
    rintro r _ ⟨rfl, rfl⟩
    exact ⟨rfl, tb, s0, w, s, r0, wa, wb, bk, PM, rfl, fun i c h => absurd h (by simp), a2, a3, a4, a5⟩
  · refine sp_weaken (G_clear d hx) ?_
    rintro r h' ⟨rfl, q⟩
    exact ⟨rfl, gal, gps, grf, gtx, q, hr, fun i c h => absurd h (by simp), hs, hp⟩
theorem j_told (hk : k < 512) (hS : sJ k v h1 h2) (n : Nat) (hn : n < 5) : JC zI 97 153 [.ref 0, .int (nI n)] k v h1 h2 := by
  obtain ⟨G, a, b, e, T, t0, past, tb, s0, w, s, r0, wa, wb, bk, PM, gal, gps, grf, gtx, hG, ⟨i1, i2, i3, i4, i5, i6⟩, rfl, ⟨a1, a2, a3, a4, a5⟩, hx, hr, ht, hs, hp⟩ := sJ_of hS
  refine JC.at hk (.int (tlG grf (nI T.length) (nI past.length) n)) ⟨_, rfl⟩ nomv rfl G ((a, b, e), T, t0, past) (by omega) ⟨i1, i2, i3, i4, i5, i6⟩ (fun d => ?_) (fun d => ?_)
  · refine sp_weaken (c_told PM (d + 50) n hn _) ?_
    rintro r _ ⟨rfl, rfl⟩
    rw [tl_eq ((a, b, e), (nI T.length, tb), s0, (nI past.length, nI w, s), r0, (v.2.1, wa, v.2.2, wb), bk) hr rfl rfl rfl hn]
    exact ⟨rfl, tb, s0, w, s, r0, wa, wb, bk, PM, rfl, a1, a2, a3, a4, a5⟩
  · refine sp_weaken (G_told d hx n hn) ?_
    rintro r h' ⟨rfl, q⟩
    exact ⟨rfl, gal, gps, grf, gtx, q, hr, ht, hs, hp⟩
theorem j_of (hk : k < 512) (hS : sJ k v h1 h2) (x n : Nat) (hx9 : x < 9) (hn : n < 4) : JC zI 57 121 [.ref 0, .int (nI x), .int (nI n)] k v h1 h2 := by
  obtain ⟨G, a, b, e, T, t0, past, tb, s0, w, s, r0, wa, wb, bk, PM, gal, gps, grf, gtx, hG, ⟨i1, i2, i3, i4, i5, i6⟩, rfl, ⟨a1, a2, a3, a4, a5⟩, hx, hr, ht, hs, hp⟩ := sJ_of hS
  have ev : (v.1 x).1 = pT t0 x := (i6.1.2 x hx9).2.1
  refine JC.at hk (.int (opA (pT t0 x) n)) ⟨_, rfl⟩ jv jv_0 G ((a, b, e), T, t0, past) (by omega) ⟨i1, i2, i3, i4, i5, i6⟩ (fun d => ?_) (fun d => ?_)
  · refine sp_weaken (c_of (d + 48) x n hx9 hn _ PM v.1 a5) ?_
    rintro r _ ⟨rfl, rfl⟩
    exact ⟨by rw [ev], tb, s0, w, s, r0, wa, wb, bk, PM, rfl, a1, a2, a3, a4, a5⟩
  · refine sp_weaken (G_of d hx x n hx9 hn (pT t0 x) (paL_P (hs.1 x hx9))) ?_
    rintro r h' ⟨rfl, q⟩
    exact ⟨rfl, gal, gps, grf, gtx, q, hr, ht, hs, hp⟩
theorem j_rows (hk : k < 512) (hS : sJ k v h1 h2) (x n : Nat) (hx9 : x < 9) (hn : n ≤ 6) : JC zI 64 133 [.ref 0, .int (nI x), .int (nI n)] k v h1 h2 := by
  obtain ⟨G, a, b, e, T, t0, past, tb, s0, w, s, r0, wa, wb, bk, PM, gal, gps, grf, gtx, hG, ⟨i1, i2, i3, i4, i5, i6⟩, rfl, ⟨a1, a2, a3, a4, a5⟩, hx, hr, ht, hs, hp⟩ := sJ_of hS
  have ev : (v.1 x).1 = pT t0 x := (i6.1.2 x hx9).2.1
  have hM := mvB_ctW (x := x) (n := n) i6 (by omega) hx9 hn
  obtain ⟨l1, l2⟩ := (ctW_le (x := x) (n := n) hx9 i6.1.1).1
  have h14 := mvB_14 hM (by omega) hx9
  rw [show (ctW x n v).1 x = (ctN n (v.1 x, v.2)).1 from upN_s] at h14
  obtain ⟨k1, k2⟩ := ct_cost (n := n) hx9 v (i6.1.1 x)
  refine JC.to hk (.int (nI (cntR (pT t0 x) n))) ⟨_, rfl⟩ jv jv_0 G ((a, b, e), T, t0, past) (ctW x n v) (by omega) ⟨i1, i2, i3, i4, i5, hM⟩ ⟨l2.1, l1⟩ (fun d => ?_) (fun d => ?_)
  · rw [← k1, ← k2]
    refine sp_weaken (c_rows (d + 41) x n hx9 hn ((a, b, e), (nI T.length, tb), s0, (nI past.length, nI w, s), r0, (v.2.1, wa, v.2.2, wb), bk) PM v.1 a5 i6.2.2 h14) ?_
    rintro r _ ⟨rfl, wa', wb', PM', rfl, hy, hz⟩
    exact ⟨by rw [ev], tb, s0, w, s, r0, wa', wb', bk, PM', rfl, a1, a2, a3, a4, hy⟩
  · refine sp_weaken (G_rows d hx x n hx9 hn (pT t0 x) (paL_P (hs.1 x hx9))) ?_
    rintro r h' ⟨rfl, q⟩
    exact ⟨rfl, gal, gps, grf, gtx, q, hr, ht, hs, hp⟩
theorem j_now (hk : k < 512) (hS : sJ k v h1 h2) (n : Nat) (hn : n < 4) : JC zI 94 150 [.ref 0, .int (nI n)] k v h1 h2 := by
  obtain ⟨G, a, b, e, T, t0, past, tb, s0, w, s, r0, wa, wb, bk, PM, gal, gps, grf, gtx, hG, ⟨i1, i2, i3, i4, i5, i6⟩, rfl, ⟨a1, a2, a3, a4, a5⟩, hx, hr, ht, hs, hp⟩ := sJ_of hS
  have ho : t0.2.1 < 9 := a2.2.1
  have ev : (v.1 t0.2.1).1 = pT t0 t0.2.1 := (i6.1.2 _ ho).2.1
  have hM := mvB_orW (w := n) i6 ho i4.2.1 i4.2.2
  obtain ⟨l1, l2⟩ := (orW_le (o := t0.2.1) (w := n) (row := t0.2.2) ho i6.1.1).1
  have h14 := mvB_14 hM (by omega) ho
  obtain ⟨k1, k2, -⟩ := ν_cost (orV v.1 t0.2.1 t0.2.2 n) v
  refine JC.to hk (.int (orA (pT t0 t0.2.1) t0.2.1 t0.2.2 n)) ⟨_, rfl⟩ jv jv_0 G ((a, b, e), T, t0, past) (orW t0.2.1 t0.2.2 n v) (by omega) ⟨i1, i2, i3, i4, i5, hM⟩ ⟨l2.1, l1⟩ (fun d => ?_) (fun d => ?_)
  · unfold orW
    rw [k1, k2]
    refine sp_weaken (c_now (d + 41) n t0.2.1 hn _ PM v.1 t0.2.2 a2.2 a5 (by rw [ev]; exact i4.2.1) (fun q => by
      have h15 : (orV v.1 t0.2.1 t0.2.2 n t0.2.1).2.1.1.length ≤ 2 ^ 14 := h14
      rw [orV_o q] at h15
      exact h15)) ?_
    rintro r _ ⟨rfl, PM', rfl, hy⟩
    exact ⟨by rw [ev], tb, s0, w, s, r0, wa, wb, bk, PM', rfl, a1, a2, a3, a4, hy⟩
  · refine sp_weaken (G_now d hx t0.2.1 n hn t0.2.2 (pT t0 t0.2.1) (paL_P (hs.1 _ ho)) hs.2) ?_
    rintro r h' ⟨rfl, q⟩
    exact ⟨rfl, gal, gps, grf, gtx, q, hr, ht, hs, hp⟩
theorem j_begins (hk : k < 512) (hS : sJ k v h1 h2) (x : Nat) (hx9 : x < 9) : JC zI 89 146 [.ref 0, .int (nI x)] k v h1 h2 := by
  obtain ⟨G, a, b, e, T, t0, past, tb, s0, w, s, r0, wa, wb, bk, PM, gal, gps, grf, gtx, hG, ⟨i1, i2, i3, i4, i5, i6⟩, rfl, ⟨a1, a2, a3, a4, a5⟩, hx, hr, ht, hs, hp⟩ := sJ_of hS
  have ev : (v.1 x).1 = pT t0 x := (i6.1.2 x hx9).2.1
  refine JC.at hk (.int (orA (pT t0 x) x [] 0)) ⟨_, rfl⟩ jv jv_0 G ((a, b, e), T, (t0.1, x, []), (t0 :: past).take 4) (by omega) ⟨i1, kp_le t0 past, i3, ⟨i4.1, trivial, fun j q1 q2 => absurd (Nat.le_trans q1 q2) (show ¬ 1 ≤ 0 by decide)⟩, kp_mem i4 i5, i6⟩ (fun d => ?_) (fun d => ?_)
  · refine sp_weaken (c_begins (d + 41) x past.length w hx9 _ PM v.1 a5 i2 a3 rfl rfl) ?_
    rintro r _ ⟨rfl, v', PM', rfl, hq, hy⟩
    exact ⟨by rw [ev], jI_kp a1 ⟨a2.1, hx9, Nat.zero_le _, rfl, rfl, fun i y h => absurd h (by simp)⟩ a3 (scJ_sq hq a2) a4 hy⟩
  · refine sp_weaken (G_begins d hx x past.length hx9 i2 rfl (pT t0 x) (paL_P (hs.1 x hx9))) ?_
    rintro r h' ⟨rfl, gps', q, hkp⟩
    exact ⟨rfl, gI_kp q i2 hr ht ⟨fun y hy => paL_cg hy (fun j hj => by rw [upd_n (by omega), upd_n (by omega)]) (hs.1 y hy), hx9, Nat.zero_le _, by rw [upd_n (by decide), upd_s], by rw [upd_s]; rfl, fun y hy => absurd hy List.not_mem_nil, fun i y hy => by simp at hy⟩ hs hp hkp⟩
theorem j_judge (hk : k < 512) (hS : sJ k v h1 h2) (n : Nat) (hn : n < 6) : JC zI 75 136 [.ref 0, .int (nI n)] k v h1 h2 := by
  obtain ⟨G, a, b, e, T, t0, past, tb, s0, w, s, r0, wa, wb, bk, PM, gal, gps, grf, gtx, hG, ⟨i1, i2, i3, i4, i5, i6⟩, rfl, ⟨a1, a2, a3, a4, a5⟩, hx, hr, ht, hs, hp⟩ := sJ_of hS
  have hM := mvB_kbF i6 i3
  obtain ⟨l1, l2, -⟩ := kbF_le T 0 (κ := kb0 v.1) ⟨i6.1.1, fun t h => by rw [List.mem_singleton.mp h]; decide⟩ (Nat.le_refl 1) (show 1 ≤ 9 by decide) (fun b hb => absurd hb (by simp))
  obtain ⟨k1, k2, k3, k4⟩ := ν_cost (kbF (kb0 v.1) T 0).2.2.2.2.2.2 v
  refine JC.to hk (.int (jdA (kbW (kb0 v.1) T) (jbA (kbE (kbF (kb0 v.1) T 0).2 T.length) (kbF (kb0 v.1) T 0).2.2.2.2.1 (kbF (kb0 v.1) T 0).2.2.2.2.2.1 n))) ⟨_, rfl⟩ jv jv_0 G ((a, b, e), T, t0, past) ((kbF (kb0 v.1) T 0).2.2.2.2.2.2, v.2) (by omega) ⟨i1, i2, i3, i4, i5, hM⟩ ⟨k3 l2, k4 l1⟩ (fun d => ?_) (fun d => ?_)
  · rw [k1, k2]
    refine sp_weaken (c_judge ((a, b, e), (nI T.length, tb), s0, (nI past.length, nI w, s), r0, (v.2.1, wa, v.2.2, wb), bk) PM (d + 41) n T.length hn v.1 T rfl a1 rfl i1 a5 (fun x _ => i6.1.1 x) (fun x hx9 => mvB_14 hM (by omega) hx9)) ?_
    rintro r _ ⟨rfl, bk', PM', rfl, hy⟩
    exact ⟨rfl, tb, s0, w, s, r0, wa, wb, bk', PM', rfl, a1, a2, a3, a4, hy⟩
  · refine sp_weaken (G_judge d n hn T hx ht i1 (pT t0) (fun x hx9 => paL_P (hs.1 x hx9)) v.1 (fun y hy => (i6.1.2 y hy).2.1)) ?_
    rintro r h' ⟨rfl, q⟩
    exact ⟨rfl, gal, gps, grf, gtx, q, hr, ht, hs, hp⟩
theorem j_mark (hk : k < 512) (hS : sJ k v h1 h2) : JC zI 86 143 [.ref 0] k v h1 h2 := by
  obtain ⟨G, a, b, e, T, t0, past, tb, s0, w, s, r0, wa, wb, bk, PM, gal, gps, grf, gtx, hG, ⟨i1, i2, i3, i4, i5, i6⟩, rfl, ⟨a1, a2, a3, a4, a5⟩, hx, hr, ht, hs, hp⟩ := sJ_of hS
  have hM := mvB_kbF i6 i3
  obtain ⟨l1, l2, -⟩ := kbF_le T 0 (κ := kb0 v.1) ⟨i6.1.1, fun t h => by rw [List.mem_singleton.mp h]; decide⟩ (Nat.le_refl 1) (show 1 ≤ 9 by decide) (fun b hb => absurd hb (by simp))
  obtain ⟨k1, k2, k3, k4⟩ := ν_cost (kbF (kb0 v.1) T 0).2.2.2.2.2.2 v
  refine JC.to hk (.int (jdA (kbW (kb0 v.1) T) (nI (shF (kbE (kbF (kb0 v.1) T 0).2 T.length) (kbF (kb0 v.1) T 0).2.2.2.2.1).toNat))) ⟨_, rfl⟩ jv jv_0 G ((a, b, e), T, t0, past) ((kbF (kb0 v.1) T 0).2.2.2.2.2.2, v.2) (by omega) ⟨i1, i2, i3, i4, i5, hM⟩ ⟨k3 l2, k4 l1⟩ (fun d => ?_) (fun d => ?_)
  · rw [k1, k2]
    refine sp_weaken (c_mark ((a, b, e), (nI T.length, tb), s0, (nI past.length, nI w, s), r0, (v.2.1, wa, v.2.2, wb), bk) PM (d + 41) T.length v.1 T rfl a1 rfl i1 a5 (fun x _ => i6.1.1 x) (fun x hx9 => mvB_14 hM (by omega) hx9)) ?_
    rintro r _ ⟨rfl, bk', PM', rfl, hy⟩
    exact ⟨rfl, tb, s0, w, s, r0, wa, wb, bk', PM', rfl, a1, a2, a3, a4, hy⟩
  · refine sp_weaken (G_mark d T hx ht i1 (pT t0) (fun x hx9 => paL_P (hs.1 x hx9)) v.1 (fun y hy => (i6.1.2 y hy).2.1)) ?_
    rintro r h' ⟨rfl, q⟩
    exact ⟨rfl, gal, gps, grf, gtx, q, hr, ht, hs, hp⟩
theorem j_digest (hk : k < 512) (hS : sJ k v h1 h2) : JC zL 99 155 [.ref 0] k v h1 h2 := by
  obtain ⟨G, a, b, e, T, t0, past, tb, s0, w, s, r0, wa, wb, bk, PM, gal, gps, grf, gtx, hG, ⟨i1, i2, i3, i4, i5, i6⟩, rfl, ⟨a1, a2, a3, a4, a5⟩, hx, hr, ht, hs, hp⟩ := sJ_of hS
  have ho : t0.2.1 < 9 := a2.2.1
  have ev : ∀ x, x < 9 → (v.1 x).1 = pT t0 x := fun x hx9 => (i6.1.2 x hx9).2.1
  have hM := mvB_dgN i6 (by omega) ho i4.2.1 i4.2.2
  obtain ⟨m1, m2⟩ := dg9_le 9 i6.1.1
  obtain ⟨l1, l2⟩ := leW_tr m1 (orL_le (row := t0.2.2) ho 4 m2).1
  have htl : (List.range' 0 5).map (tlA ((a, b, e), (nI T.length, tb), s0, (nI past.length, nI w, s), r0, (v.2.1, wa, v.2.2, wb), bk)) = (List.range' 0 5).map (tlG grf (nI T.length) (nI past.length)) := by
    refine List.map_congr_left (fun y hy => ?_)
    have : y < 5 := by
      have := List.mem_range'_1.mp hy
      omega
    exact tl_eq _ hr rfl rfl rfl this
  have hdg : dgAll ((a, b, e), (nI T.length, tb), s0, (nI past.length, nI w, s), r0, (v.2.1, wa, v.2.2, wb), bk) (fun y => (v.1 y).1) t0.2.1 t0.2.2 = dgG (nI past.length) grf (nI T.length) (fun y => (v.1 y).1) t0.2.1 t0.2.2 := by
    unfold dgAll dgG
    rw [htl]
  refine JC.to hk (.long (dgF (lN 2521) (dgG (nI past.length) grf (nI T.length) (fun y => (v.1 y).1) t0.2.1 t0.2.2))) ⟨_, rfl⟩ jv jv_0 G ((a, b, e), T, t0, past) (dgN t0.2.1 t0.2.2 v) (by omega) ⟨i1, i2, i3, i4, i5, hM⟩ ⟨l2.1, l1⟩ (fun d => ?_) (fun d => ?_)
  · refine sp_weaken (c_digest (d + 41) ((a, b, e), (nI T.length, tb), s0, (nI past.length, nI w, s), r0, (v.2.1, wa, v.2.2, wb), bk) PM v (fun y => (v.1 y).1) t0.2.1 t0.2.2 rfl rfl a5 i6.1.1 i6.2.2 (fun y => rfl) a2.2 (by show rowL (v.1 t0.2.1).1 1 t0.2.2; rw [ev _ ho]; exact i4.2.1) (fun x hx9 => mvB_14 hM (by omega) hx9)) ?_
    rintro r _ ⟨rfl, wa', wb', PM', rfl, hy, hz⟩
    exact ⟨by rw [hdg], tb, s0, w, s, r0, wa', wb', bk, PM', rfl, a1, a2, a3, a4, hy⟩
  · refine sp_weaken (G_digest d hx (fun y => (v.1 y).1) (fun x hx9 => by show paP gal x (v.1 x).1; rw [ev x hx9]; exact paL_P (hs.1 x hx9)) t0.2.1 t0.2.2 hs.2) ?_
    rintro r h' ⟨rfl, q⟩
    exact ⟨rfl, gal, gps, grf, gtx, q, hr, ht, hs, hp⟩
theorem j_steps (hk : k < 512) (hS : sJ k v h1 h2) (x : Nat) (hx8 : x < 8) : JC zI 92 149 [.ref 0, .int (nI x)] k v h1 h2 := by
  obtain ⟨G, a, b, e, T, t0, past, tb, s0, w, s, r0, wa, wb, bk, PM, gal, gps, grf, gtx, hG, ⟨i1, i2, i3, i4, i5, i6⟩, rfl, ⟨a1, a2, a3, a4, a5⟩, hx, hr, ht, hs, hp⟩ := sJ_of hS
  have ho : t0.2.1 < 9 := a2.2.1
  have h20 : t0.2.2.length ≤ 20 := a2.2.2.1
  have ev : (v.1 t0.2.1).1 = pT t0 t0.2.1 := (i6.1.2 _ ho).2.1
  have hdue := due_eq (i4.1 _ ho) hx8 t0.2.2
  have hM := mvB_orW (w := 0) i6 ho i4.2.1 i4.2.2
  obtain ⟨l1, l2⟩ := (orW_le (o := t0.2.1) (w := 0) (row := t0.2.2) ho i6.1.1).1
  have h14 : (rowA (v.1 t0.2.1) 1 t0.2.2).1.2.1.1.length ≤ 2 ^ 14 := by
    have h15 : (orV v.1 t0.2.1 t0.2.2 0 t0.2.1).2.1.1.length ≤ 2 ^ 14 := mvB_14 hM (by omega) ho
    rw [orV_o (by decide)] at h15
    exact h15
  have hL : rowL (v.1 t0.2.1).1 1 t0.2.2 := by rw [ev]; exact i4.2.1
  obtain ⟨k1, k2, -⟩ := ν_cost (orV v.1 t0.2.1 t0.2.2 0) v
  by_cases hz : dltM (dG (pT t0 t0.2.1)) x (rowM (pT t0 t0.2.1) 1 t0.2.2) = 0
  · rw [hz] at hdue
    refine JC.to hk (.int (-3)) ⟨_, rfl⟩ jv jv_0 G ((a, b + 1, e), T, t0, past) (orW t0.2.1 t0.2.2 0 v) (by omega) ⟨i1, i2, i3, i4, i5, hM⟩ ⟨l2.1, l1⟩ (fun d => ?_) (fun d => ?_)
    · unfold orW
      rw [k1, k2]
      refine sp_weaken (c_stepsNo (d + 41) x t0.2.1 hx8 _ PM v.1 t0.2.2 a2.2 a5 hL h14 (by rw [ev]; exact hdue)) ?_
      rintro r _ ⟨rfl, PM', rfl, hy⟩
      exact ⟨rfl, tb, s0, w, s, r0, wa, wb, bk, PM', rfl, a1, a2, a3, a4, hy⟩
    · refine sp_weaken (G_stepsNo d hx x t0.2.1 hx8 t0.2.2 (pT t0 t0.2.1) (paL_P (hs.1 _ ho)) hs.2 hz) ?_
      rintro r h' ⟨rfl, q⟩
      exact ⟨rfl, gal, gps, rfG grf 1, gtx, q, (gK_1 (A := ((a, b, e), T, t0, past)) ⟨hr, ht, hs, hp⟩).1, ht, hs, hp⟩
  have hdue2 : (trM (dT (pT t0 t0.2.1)) (rowM (pT t0 t0.2.1) 1 t0.2.2)).testBit x = true := by
    rw [hdue]
    simp [hz]
  by_cases q20 : t0.2.2.length = 20
  · refine JC.to hk (.int (-4)) ⟨_, rfl⟩ jv jv_0 G ((a, b, e + 1), T, t0, past) (orW t0.2.1 t0.2.2 0 v) (by omega) ⟨i1, i2, i3, i4, i5, hM⟩ ⟨l2.1, l1⟩ (fun d => ?_) (fun d => ?_)
    · unfold orW
      rw [k1, k2]
      refine sp_weaken (c_stepsFull (d + 41) x t0.2.1 hx8 _ PM v.1 t0.2.2 a2.2 a5 hL h14 (by rw [ev]; exact hdue2) q20) ?_
      rintro r _ ⟨rfl, PM', rfl, hy⟩
      exact ⟨rfl, tb, s0, w, s, r0, wa, wb, bk, PM', rfl, a1, a2, a3, a4, hy⟩
    · refine sp_weaken (G_stepsFull d hx x t0.2.1 hx8 t0.2.2 (pT t0 t0.2.1) (paL_P (hs.1 _ ho)) hs.2 hz q20) ?_
      rintro r h' ⟨rfl, q⟩
      exact ⟨rfl, gal, gps, rfG grf 2, gtx, q, (gK_2 (A := ((a, b, e), T, t0, past)) ⟨hr, ht, hs, hp⟩).1, ht, hs, hp⟩
  obtain ⟨-, -, j3, j4, j5, j6⟩ := sI_G (G' := G ++ [(t0.2.1, t0.2.2 ++ [x])]) (A := ((a, b, e), T, t0, past)) ⟨i1, i2, i3, i4, i5, i6⟩ (fun t h => List.mem_append_left _ h)
  have hG2 : (G ++ [(t0.2.1, t0.2.2 ++ [x])]).length ≤ k + 1 := by
    rw [List.length_append, List.length_singleton]
    omega
  have hL2 : rowL (pT t0 t0.2.1) 1 (t0.2.2 ++ [x]) := rowL_app hx8 i4.2.1 hdue2
  have hg2 : ∀ j, 1 ≤ j → j ≤ (t0.2.2 ++ [x]).length → (t0.2.1, (t0.2.2 ++ [x]).take j) ∈ G ++ [(t0.2.1, t0.2.2 ++ [x])] := fun j q1 q2 => by
    rw [List.length_append, List.length_singleton] at q2
    by_cases q : j ≤ t0.2.2.length
    · rw [List.take_append_of_le_length q]
      exact j4.2.2 j q1 q
    · rw [List.take_of_length_le (by rw [List.length_append, List.length_singleton]; omega)]
      exact List.mem_append_right _ (List.mem_singleton.mpr rfl)
  have hM1 := mvB_orW (w := 0) j6 ho j4.2.1 j4.2.2
  have hM2 := mvB_orW (w := 0) hM1 ho hL2 hg2
  obtain ⟨n1, n2⟩ := leW_tr (orW_le (o := t0.2.1) (w := 0) (row := t0.2.2) ho i6.1.1).1 (orW_le (o := t0.2.1) (w := 0) (row := t0.2.2 ++ [x]) ho hM.1.1).1
  have h14b : (rowA (orV v.1 t0.2.1 t0.2.2 0 t0.2.1) 1 (t0.2.2 ++ [x])).1.2.1.1.length ≤ 2 ^ 14 := by
    have h15 : (orV (orV v.1 t0.2.1 t0.2.2 0) t0.2.1 (t0.2.2 ++ [x]) 0 t0.2.1).2.1.1.length ≤ 2 ^ 14 := mvB_14 hM2 (by omega) ho
    rw [orV_o (by decide)] at h15
    exact h15
  obtain ⟨k3, k4, -⟩ := ν_cost (orV (orV v.1 t0.2.1 t0.2.2 0) t0.2.1 (t0.2.2 ++ [x]) 0) v
  refine JC.to hk (.int (orA (pT t0 t0.2.1) t0.2.1 (t0.2.2 ++ [x]) 0)) ⟨_, rfl⟩ jv jv_0 (G ++ [(t0.2.1, t0.2.2 ++ [x])]) ((a, b, e), T, (t0.1, t0.2.1, t0.2.2 ++ [x]), (t0 :: past).take 4) (orV (orV v.1 t0.2.1 t0.2.2 0) t0.2.1 (t0.2.2 ++ [x]) 0, v.2) hG2 ⟨i1, kp_le t0 past, j3, ⟨j4.1, hL2, hg2⟩, kp_mem j4 j5, hM2⟩ ⟨n2.1, n1⟩ (fun d => ?_) (fun d => ?_)
  · rw [k3, k4]
    refine sp_weaken (c_steps (d + 41) x t0.2.1 past.length w hx8 _ PM v.1 t0.2.2 a2.2 a5 hL h14 (by rw [ev]; exact hdue2) (by omega) i2 a3 rfl rfl h14b) ?_
    rintro r _ ⟨rfl, v', PM', rfl, hq, hy⟩
    refine ⟨by rw [ev], jI_kp a1 ⟨a2.1, ho, ?_, ?_, a2.2.2.2.2.1, rwR_app a2.2.2.2.2.2 x⟩ a3 (scJ_sq hq a2) a4 hy⟩
    · show (t0.2.2 ++ [x]).length ≤ 20
      rw [List.length_append, List.length_singleton]
      omega
    · show nI (t0.2.2.length + 1) = nI (t0.2.2 ++ [x]).length
      rw [List.length_append, List.length_singleton]
  · refine sp_weaken (G_steps d hx x t0.2.1 past.length hx8 i2 rfl t0.2.2 (pT t0 t0.2.1) (paL_P (hs.1 _ ho)) hs.2 hz (by omega)) ?_
    rintro r h' ⟨rfl, gps', q, hkp⟩
    exact ⟨rfl, gI_kp q i2 hr ht ⟨fun y hy => paL_cg hy (fun j hj => by unfold adG; rw [upd_n (by omega), upd_n (by omega)]) (hs.1 y hy), rwG_add hs.2 hx8 (by omega)⟩ hs hp hkp⟩
theorem j_back (hk : k < 512) (hS : sJ k v h1 h2) : JC zI 95 152 [.ref 0] k v h1 h2 := by
  obtain ⟨G, a, b, e, T, t0, past, tb, s0, w, s, r0, wa, wb, bk, PM, gal, gps, grf, gtx, hG, ⟨i1, i2, i3, i4, i5, i6⟩, rfl, ⟨a1, a2, a3, a4, a5⟩, hx, hr, ht, hs, hp⟩ := sJ_of hS
  cases past with
  | nil =>
    refine JC.at hk (.int (-3)) ⟨_, rfl⟩ jv jv_0 G ((a, b + 1, e), T, t0, []) (by omega) ⟨i1, i2, i3, i4, i5, i6⟩ (fun d => ?_) (fun d => ?_)
    · refine sp_weaken (c_backNo (d + 50) a b e _ s0 _ s r0 _ bk PM) ?_
      rintro r _ ⟨rfl, rfl⟩
      exact ⟨rfl, tb, s0, w, s, r0, wa, wb, bk, PM, rfl, a1, a2, a3, a4, a5⟩
    · refine sp_weaken (G_backNo d hx rfl) ?_
      rintro r h' ⟨rfl, q⟩
      exact ⟨rfl, gal, gps, rfG grf 1, gtx, q, (gK_1 (A := ((a, b, e), T, t0, [])) ⟨hr, ht, hs, hp⟩).1, ht, hs, hp⟩
  | cons t1 past =>
    rw [List.length_cons] at i2
    have e0 : (w + 4 - 0) % 4 = w := by omega
    have hs1 := a4 0 t1 rfl
    rw [e0] at hs1
    have hk1 := i5 t1 (List.mem_cons_self ..)
    have hok : ∀ y, y < 9 → okP ((s w).1 y) := fun y hy => by rw [hs1.1 y hy]; exact hk1.1 y hy
    obtain ⟨co, hco⟩ := co_of a5
    obtain ⟨c1, c2, c3, c4⟩ := fw_cost (ν := v.1) (co := co) (pt := (s w).1) hok (fun x _ => i6.1.1 x)
    obtain ⟨k1, k2, k3, k4⟩ := ν_cost (fwN v.1 (s w).1) v
    have hM : mvB G (pT t1) (fwN v.1 (s w).1, v.2) := mvB_pt (mvB_fw i6 (by omega) hok) (fun y hy => hs1.1 y hy)
    refine JC.to hk (.int (nI past.length)) ⟨_, rfl⟩ jv jv_0 G ((a, b, e), T, t1, past) (fwN v.1 (s w).1, v.2) (by omega) ⟨i1, (by show past.length ≤ 4; omega), i3, hk1, fun t h => i5 t (List.mem_cons_of_mem _ h), hM⟩ ⟨k3 c4, k4 c3⟩ (fun d => ?_) (fun d => ?_)
    · rw [k1, k2, ← c1, ← c2]
      refine sp_weaken (c_back d past.length w ((a, b, e), (nI T.length, tb), s0, (nI (t1 :: past).length, nI w, s), r0, (v.2.1, wa, v.2.2, wb), bk) PM _ hco hok (by omega) a3 rfl rfl) ?_
      rintro r _ ⟨rfl, v', PM', rfl, hq, hf⟩
      refine ⟨rfl, tb, v', prv4 w, s, r0, wa, wb, bk, PM', rfl, a1, scJ_sq hq hs1, ?_, fun i t h => ?_, fw_yR a5 (fwR_pt hq.1 hf)⟩
      · unfold prv4
        split <;> omega
      · have hi : i < past.length := (List.getElem?_eq_some_iff.mp h).1
        have e1 : (prv4 w + 4 - i) % 4 = (w + 4 - (i + 1)) % 4 := by
          unfold prv4
          split <;> omega
        rw [e1]
        exact a4 (i + 1) t h
    · refine sp_weaken (G_back d hx past.length (by omega) rfl) ?_
      rintro r h' ⟨rfl, gal', q, hga⟩
      refine ⟨rfl, gal', gps, grf, gtx, q, hr, ht, scG_cg (fun j hj => hga j hj) (hp 0 t1 rfl), fun i t h => ?_⟩
      have e1 : (t1 :: past).length - 1 - (i + 1) = past.length - 1 - i := by
        rw [List.length_cons]
        omega
      have := hp (i + 1) t h
      rw [e1] at this
      exact this
theorem j_clears (hk : k < 512) (hS : sJ k v h1 h2) (x : Nat) (hx9 : x < 9) : JC zI 56 119 [.ref 0, .int (nI x)] k v h1 h2 := by
  obtain ⟨G, a, b, e, T, t0, past, tb, s0, w, s, r0, wa, wb, bk, PM, gal, gps, grf, gtx, hG, ⟨i1, i2, i3, i4, i5, i6⟩, rfl, ⟨a1, a2, a3, a4, a5⟩, hx, hr, ht, hs, hp⟩ := sJ_of hS
  have hpt : ∀ y, y < 9 → vp_updL s0.1 x (lN 9) y = pT (updG t0.1 x [9], 8, []) y := fun y hy => by
    show _ = lN (encN (updG t0.1 x [9] y))
    unfold updG
    by_cases q : y = x
    · rw [if_pos q, q, updL_s, enc9]
    · rw [if_neg q, updL_n q]
      exact a2.1 y hy
  have hok2 : ∀ y, y < 9 → okP (pT (updG t0.1 x [9], 8, []) y) := fun y hy => by
    show okP (lN (encN (updG t0.1 x [9] y)))
    unfold updG
    split
    · exact wfL_P ⟨_, kL9⟩
    · exact i4.1 y hy
  have hok : ∀ y, y < 9 → okP (vp_updL s0.1 x (lN 9) y) := fun y hy => by rw [hpt y hy]; exact hok2 y hy
  obtain ⟨co, hco⟩ := co_of a5
  obtain ⟨c1, c2, c3, c4⟩ := fw_cost (ν := v.1) (co := co) (pt := vp_updL s0.1 x (lN 9)) hok (fun x _ => i6.1.1 x)
  obtain ⟨k1, k2, k3, k4⟩ := ν_cost (fwN v.1 (vp_updL s0.1 x (lN 9))) v
  have hM : mvB G (pT (updG t0.1 x [9], 8, [])) (fwN v.1 (vp_updL s0.1 x (lN 9)), v.2) := mvB_pt (mvB_fw i6 (by omega) hok) hpt
  refine JC.to hk (.int (nI 1)) ⟨_, rfl⟩ jv jv_0 G ((a, b, e), T, (updG t0.1 x [9], 8, []), (t0 :: past).take 4) (fwN v.1 (vp_updL s0.1 x (lN 9)), v.2) (by omega) ⟨i1, kp_le t0 past, i3, ⟨hok2, trivial, fun j q1 q2 => absurd (Nat.le_trans q1 q2) (show ¬ 1 ≤ 0 by decide)⟩, kp_mem i4 i5, hM⟩ ⟨k3 c4, k4 c3⟩ (fun d => ?_) (fun d => ?_)
  · rw [k1, k2, ← c1, ← c2]
    refine sp_weaken (c_clears d x past.length w hx9 ((a, b, e), (nI T.length, tb), s0, (nI past.length, nI w, s), r0, (v.2.1, wa, v.2.2, wb), bk) PM _ hco hok i2 a3 rfl rfl) ?_
    rintro r _ ⟨rfl, v', PM', rfl, hq, hf⟩
    exact ⟨rfl, jI_kp a1 ⟨hpt, by show 8 < 9; decide, Nat.zero_le _, rfl, rfl, fun i y h => absurd h (by simp)⟩ a3 (scJ_sq hq a2) a4 (fw_yR a5 hf)⟩
  · refine sp_weaken (G_clears d hx x past.length hx9 i2 rfl) ?_
    rintro r h' ⟨rfl, gps', q, hkp⟩
    refine ⟨rfl, gI_kp q i2 hr ht ⟨fun y hy => ?_, by show 8 < 9; decide, Nat.zero_le _, ?_, ?_, fun y hy => absurd hy List.not_mem_nil, fun i y hy => by simp at hy⟩ hs hp hkp⟩
    · show paL (clG gal x) y (updG t0.1 x [9] y)
      unfold updG clG
      refine paL_cg (g := upd (upd (upd (upd gal (49 * x) (nI 1)) (49 * x + 1) (nI 0)) (49 * x + 2) (-1)) (49 * x + 3) (-1)) hy (fun j hj => by rw [upd_n (by omega), upd_n (by omega)]) ?_
      by_cases q2 : y = x
      · rw [if_pos q2, q2]
        exact emG_L ⟨by rw [upd_n (by omega), upd_n (by omega), upd_n (by omega), upd_s], by rw [upd_n (by omega), upd_n (by omega), upd_s], by rw [upd_n (by omega), upd_s], upd_s⟩
      · rw [if_neg q2]
        exact paL_ot (gmd := fun j => upd (upd (upd (upd gal (49 * x) (nI 1)) (49 * x + 1) (nI 0)) (49 * x + 2) (-1)) (49 * x + 3) (-1) (49 * x + j)) ⟨fun _ _ => rfl, fun j hj => by rw [upd_n (by omega), upd_n (by omega), upd_n (by omega), upd_n (by omega)]⟩ q2 (hs.1 y hy)
    · show clG gal x 442 = nI 8
      unfold clG
      rw [upd_n (by decide), upd_s]
    · show clG gal x 443 = nI 0
      unfold clG
      rw [upd_s]
theorem j_reads (hk : k < 512) (hS : sJ k v h1 h2) : JC zI 36 107 [.ref 0] k v h1 h2 := by
  obtain ⟨G, a, b, e, T, t0, past, tb, s0, w, s, r0, wa, wb, bk, PM, gal, gps, grf, gtx, hG, ⟨i1, i2, i3, i4, i5, i6⟩, rfl, ⟨a1, a2, a3, a4, a5⟩, hx, hr, ht, hs, hp⟩ := sJ_of hS
  rcases rd_or T t0.1 i1 (fun y hy => paL_wf (hs.1 y hy)) with ⟨j, hj, hW⟩ | ⟨σ, hQ, hF, ho, hwf⟩
  · refine JC.at hk (.int (-10 - nI j)) ⟨_, rfl⟩ jv jv_0 G ((a, b, e), T, t0, past) (by omega) ⟨i1, i2, i3, i4, i5, i6⟩ (fun d => ?_) (fun d => ?_)
    · refine sp_weaken (c_readsBad (d + 45) T.length T _ PM t0.1 rfl a1 rfl i1 a2.1 j hj hW) ?_
      rintro r _ ⟨rfl, rd, rfl⟩
      exact ⟨rfl, tb, s0, w, s, rd, wa, wb, bk, PM, rfl, a1, a2, a3, a4, a5⟩
    · refine sp_weaken (G_readsBad d j T hx ht i1 t0.1 hW) ?_
      rintro r h' ⟨rfl, q⟩
      exact ⟨rfl, gal, gps, grf, gtx, q, hr, ht, hs, hp⟩
  · have hok : ∀ y, y < 9 → okP (pT (σ.Gr, 8, []) y) := fun y hy => wfL_P (hwf y hy)
    obtain ⟨co, hco⟩ := co_of a5
    obtain ⟨c1, c2, c3, c4⟩ := fw_cost (ν := v.1) (co := co) (pt := pT (σ.Gr, 8, [])) hok (fun x _ => i6.1.1 x)
    obtain ⟨k1, k2, k3, k4⟩ := ν_cost (fwN v.1 (pT (σ.Gr, 8, []))) v
    have hM : mvB G (pT (σ.Gr, 8, [])) (fwN v.1 (pT (σ.Gr, 8, [])), v.2) := mvB_fw i6 (by omega) hok
    refine JC.to hk (.int (nI σ.ord)) ⟨_, rfl⟩ jv jv_0 G ((a, b, e), T, (σ.Gr, 8, []), (t0 :: past).take 4) (fwN v.1 (pT (σ.Gr, 8, [])), v.2) (by omega) ⟨i1, kp_le t0 past, i3, ⟨hok, trivial, fun j q1 q2 => absurd (Nat.le_trans q1 q2) (show ¬ 1 ≤ 0 by decide)⟩, kp_mem i4 i5, hM⟩ ⟨k3 c4, k4 c3⟩ (fun d => ?_) (fun d => ?_)
    · rw [k1, k2, ← c1, ← c2]
      refine sp_weaken (c_reads d T.length past.length w T ((a, b, e), (nI T.length, tb), s0, (nI past.length, nI w, s), r0, (v.2.1, wa, v.2.2, wb), bk) PM _ hco t0.1 rfl a1 rfl i1 a2.1 i2 a3 rfl rfl σ hQ hF ho hok) ?_
      rintro r _ ⟨rfl, rd, pt', v', PM', rfl, hq, hpt, hf⟩
      exact ⟨rfl, jI_kp a1 ⟨hpt, by show 8 < 9; decide, Nat.zero_le _, rfl, rfl, fun i y h => absurd h (by simp)⟩ a3 (scJ_sq hq a2) a4 (fw_yR a5 (fwR_pt hpt hf))⟩
    · refine sp_weaken (G_reads d past.length i2 rfl T hx ht i1 t0.1 hs.1 σ hQ hF) ?_
      rintro r h' ⟨rfl, gps', gal', q, hkp, h41, hpa⟩
      exact ⟨rfl, gI_kp q i2 hr ht ⟨fun y hy => paL_cg hy (fun j hj => by rw [upd_n (by omega), upd_n (by omega)]) (hpa y hy), by show 8 < 9; decide, Nat.zero_le _, by rw [upd_n (by decide), upd_s], by rw [upd_s]; rfl, fun y hy => absurd hy List.not_mem_nil, fun i y hy => by simp at hy⟩ hs hp hkp⟩
end JL
