/-! The law, from its entry -/
set_option maxHeartbeats 4000000 in
set_option maxRecDepth 100000 in
theorem whole_start {p : Program} {e : Env} {s : State} {m : MethodId} {below : List Frame} {meth : Method} {c : Code} (l : Launch) (hflags : l.flags = flags0) {b L : Nat} {xs : Nat → Int32} (hL : L ≤ 1536) (C0 : lw_At p s m meth c b L xs) : W p l e room_1 s m #[Value.ref b] below meth c s.heap [] 0 0 (lw_Z below #[Value.ref b] s) (entryFrame m ([Value.ref b] : List Value).toArray 4) := by
  obtain ⟨hx, hb, hr, hml, hown, hts, hX, hbl, hlocks, hgv⟩ := C0
  obtain ⟨D, dA, hK⟩ := law_K hts
  obtain ⟨k1, k2, k3, k4⟩ := c00
  have C : lC D dA p s m b L xs meth c := ⟨hx, hb, hr, hml, hown, fun w hw => hts w (List.mem_filter.mp hw).1, law_nw hts, hlocks, hK, hX, hbl⟩
  have hl := lv_entry ([.ref b]) (n := 4) (Nat.le_of_ble_eq_true rfl)
  rw [lg_entry_eq]
  generalize (lg_sl ([.ref b]) ++ List.replicate (4 - (lg_sl ([.ref b])).length) Slot.unset).toArray = ls at hl ⊢
  have hl : lv_has ls 4 [(0, .ref b)] := hl
  have S0 : lS D dA s (fun _ => 0) (fun _ => 0) [] [] s.heap [] := ⟨fun k q h => by simp [rws] at h, fun k q h => by simp [rws] at h, ⟨fun i j p q h => by simp [rws] at h, fun k q h => by simp [rws] at h⟩, ⟨fun i j p q h => by simp [rws] at h, fun k q h => by simp [rws] at h⟩, fun i j hi => absurd hi (Nat.not_lt_zero i), va_S.rf⟩
  refine law_new (pc := 0) (ci := 9) C S0 (by decide) dl_0 lwNew.1.1 lwNew.1.2 (Nat.le_of_ble_eq_true rfl) (by rw [nf_9]; exact Nat.le_of_ble_eq_true rfl) (fun q1 H1 S1 => ?_)
  rw [dfl_9] at S1
  rw [nf_9]
  refine lv_dup (pc := 3) hx hb dl_3 rfl ?_
  refine law_callI (pc := 4) (st := [.ref q1]) C S1.symm hl.1 dl_4 (by decide) lwIni.1.1 lwIni.1.2 (by decide +kernel) (by decide +kernel) (c_judgeInit 0) (by decide +kernel) (by decide) (by omega) (by omega) (Nat.le_of_ble_eq_true rfl) (fun r h' ρ' H' locs' w1 w2 S2 => ?_)
  obtain ⟨rfl, pt, sc, PM', rfl, hpt, hf⟩ := w1
  refine lv_astore_n (pc := 7) (lv' := [(1, .ref q1), (0, .ref b)]) hx hb dl_7 rfl hl (by decide) rfl (fun ls hl => ?_)
  refine law_new (pc := 8) (ci := 10) C S2 (by decide) dl_8 lwNew.2.1 lwNew.2.2 (by omega) (by rw [nf_10]; omega) (fun q2 H2 S3 => ?_)
  rw [dfl_10] at S3
  rw [nf_10]
  refine lv_dup (pc := 11) hx hb dl_11 rfl ?_
  refine law_callI (pc := 12) (st := [.ref q2]) C S3.symm hl.1 dl_12 (by decide) lwIni.2.1 lwIni.2.2 (by decide +kernel) (by decide +kernel) (g_init 0) (by decide +kernel) (by decide) (by omega) (by omega) (Nat.le_of_ble_eq_true rfl) (fun r2 h2' ρ2' H3 locs3 w3 w4 S4 => ?_)
  obtain ⟨rfl, gal, hgx, hem⟩ := w3
  refine lv_astore_n (pc := 15) (lv' := [(2, .ref q2), (1, .ref q1), (0, .ref b)]) hx hb dl_15 rfl hl (by decide) rfl (fun ls hl => ?_)
  refine lv_iconst (pc := 16) (v := 0) hx hb dl_16 (by decide) ?_
  refine lv_istore_n (pc := 17) (lv' := [(3, .int 0), (2, .ref q2), (1, .ref q1), (0, .ref b)]) hx hb dl_17 rfl hl (by decide) rfl (fun ls hl => ?_)
  refine W.widen (k := 214 + VC v00) (n := 11198 + VS v00) (by omega) (by omega) ?_
  have hq1 : ρ' 0 = q1 := w2 0 (by decide) rfl
  have hq2 : ρ2' 0 = q2 := w4 0 (by decide) rfl
  exact law_loop C hL 512 0 v00 ρ' ρ2' _ _ H3 locs3 ls (by omega) (by decide) (s_init hpt hf hgx hem) ⟨k3, k4⟩ S4.symm (by
    rw [hq1, hq2]
    exact lv_sub hl [3, 2, 1, 0] rfl)
