/-! The law: one call of a script -/
section LC
variable {l : Launch} {D : va_G} {dA : Nat → ClassId} {p : Program} {e : Env} {s : State} {m : MethodId} {b L : Nat} {xs : Nat → Int32} {below : List Frame} {meth : Method} {c : Code} {ρ1 ρ2 : Nat → Nat} {h1 h2 : aH} {H : Heap} {locs : List Loc} {lsr : Array Slot} {k pc : Nat} {v : aV} {x3 : Int32} {Q : State → Prop}
/-- behind a call of the script -/
def lNx (l : Launch) (D : va_G) (dA : Nat → ClassId) (p : Program) (e : Env) (s : State) (m : MethodId) (b : Nat) (below : List Frame) (meth : Method) (c : Code) (q1 q2 : Nat) (k : Nat) (lsr : Array Slot) (Q : State → Prop) : Prop := ∀ v' h1' h2' ρ1' ρ2' H' locs', sJ (k + 1) v' h1' h2' → ρ1' 0 = q1 → ρ2' 0 = q2 → lS D dA s ρ1' ρ2' h1' h2' H' locs' → W p l e room_1 s m #[Value.ref b] below meth c H' locs' (214 + VC v') (11198 + VS v') Q (F0 m 397 lsr [])
variable {μ1 μ2 i1 i2 a1 b1 c1 a2 b2 c2 : Nat} {off : Int}
theorem law_c0 (C : lC D dA p s m b L xs meth c) (S : lS D dA s ρ1 ρ2 h1 h2 H locs) (hl : lv_has lsr 4 [(0, .ref b), (1, .ref (ρ1 0)), (2, .ref (ρ2 0)), (3, .int x3)]) (hJ : JC zI μ1 μ2 [.ref 0] k v h1 h2) (hh : (∃ fs, hget h1 0 = some (.inr (9, fs))) ∧ ∃ fs, hget h2 0 = some (.inr (10, fs))) (hf1 : (i1, μ1, a1, b1, c1) ∈ lTab) (hf2 : (i2, μ2, a2, b2, c2) ∈ lTab) (hm1 : mK μ1 = 9 ∧ 0 = mP μ1) (hm2 : mK μ2 = 10 ∧ 0 = mP μ2)
    (d0 : decode code pc = .ok (.aload_n 1, 1)) (d1 : decode code (pc + 1) = .ok (.invokevirtual i1, 3)) (d4 : decode code (pc + 4) = .ok (.aload_n 2, 1)) (d5 : decode code (pc + 5) = .ok (.invokevirtual i2, 3)) (d8 : decode code (pc + 8) = .ok (.if_icmp .eq off, 3)) (ht : ((pc + 8 : Nat) : Int) + off = ((397 : Nat) : Int))
    (hK : lNx l D dA p e s m b below meth c (ρ1 0) (ρ2 0) k lsr Q) : W p l e room_1 s m #[Value.ref b] below meth c H locs (214 + VC v) (11198 + VS v) Q (F0 m pc lsr []) := by
  obtain ⟨v', z, mv, P1, P2, ⟨⟨cz, rfl⟩, hmv⟩, ⟨e1, e2, e3, e4⟩, s1, s2, hn⟩ := hJ
  obtain ⟨⟨fs1, g1⟩, fs2, g2⟩ := hh
  refine lv_aload_n C.1 C.2.1 d0 rfl (lv_at hl 1 rfl) ?_
  refine law_call (av := []) (st := []) C S hl.1 d1 hf1 hm1.1 (by decide) g1 (s1 0) (fun _ => rfl) hm1.2 (by decide) (by omega) (by omega) (by decide) (fun r h' ρ' H' locs' q1 q2 q3 => ?_)
  obtain ⟨rfl, q1⟩ := q1
  rw [show 214 + VC v + (VC v' - VC v) = 214 + VC v' by omega, show 11198 + VS v + (VS v' - VS v) = 11198 + VS v' by omega]
  refine lv_aload_n (pc := pc + 4) C.1 C.2.1 d4 rfl (lv_at hl 2 rfl) ?_
  refine law_call (pc := pc + 5) (av := []) (st := [.int cz]) C q3.symm hl.1 d5 hf2 hm2.1 (by decide) g2 (s2 0) (fun _ => rfl) hm2.2 (by decide) (by omega) (by omega) (Nat.le_of_ble_eq_true rfl) (fun r2 h2' ρ2' H2 locs2 w1 w2 w3 => ?_)
  obtain ⟨rfl, w1⟩ := w1
  refine lv_icmp_eq (pc := pc + 8) (x := cz) (y := cz) (tgt := 397) C.1 C.2.1 d8 ht (fun _ => ?_) (fun q => absurd rfl q)
  exact hK v' h' h2' ρ' ρ2' H2 locs2 (hn _ _ q1 w1) (q2 0 (hget_lt g1) hmv) (w2 0 (hget_lt g2) rfl) w3.symm
theorem law_cJ (C : lC D dA p s m b L xs meth c) (S : lS D dA s ρ1 ρ2 h1 h2 H locs) (hl : lv_has lsr 4 [(0, .ref b), (1, .ref (ρ1 0)), (2, .ref (ρ2 0)), (3, .int x3)]) (hJ : JC zL μ1 μ2 [.ref 0] k v h1 h2) (hh : (∃ fs, hget h1 0 = some (.inr (9, fs))) ∧ ∃ fs, hget h2 0 = some (.inr (10, fs))) (hf1 : (i1, μ1, a1, b1, c1) ∈ lTab) (hf2 : (i2, μ2, a2, b2, c2) ∈ lTab) (hm1 : mK μ1 = 9 ∧ 0 = mP μ1) (hm2 : mK μ2 = 10 ∧ 0 = mP μ2)
    (d0 : decode code pc = .ok (.aload_n 1, 1)) (d1 : decode code (pc + 1) = .ok (.invokevirtual i1, 3)) (d4 : decode code (pc + 4) = .ok (.aload_n 2, 1)) (d5 : decode code (pc + 5) = .ok (.invokevirtual i2, 3)) (d8 : decode code (pc + 8) = .ok (.lcmp, 1)) (d9 : decode code (pc + 9) = .ok (.ifCond .eq off, 3)) (ht : ((pc + 9 : Nat) : Int) + off = ((397 : Nat) : Int))
    (hK : lNx l D dA p e s m b below meth c (ρ1 0) (ρ2 0) k lsr Q) : W p l e room_1 s m #[Value.ref b] below meth c H locs (214 + VC v) (11198 + VS v) Q (F0 m pc lsr []) := by
  obtain ⟨v', z, mv, P1, P2, ⟨⟨cz, rfl⟩, hmv⟩, ⟨e1, e2, e3, e4⟩, s1, s2, hn⟩ := hJ
  obtain ⟨⟨fs1, g1⟩, fs2, g2⟩ := hh
  refine lv_aload_n C.1 C.2.1 d0 rfl (lv_at hl 1 rfl) ?_
  refine law_call (av := []) (st := []) C S hl.1 d1 hf1 hm1.1 (by decide) g1 (s1 0) (fun _ => rfl) hm1.2 (by decide) (by omega) (by omega) (by decide) (fun r h' ρ' H' locs' q1 q2 q3 => ?_)
  obtain ⟨rfl, q1⟩ := q1
  rw [show 214 + VC v + (VC v' - VC v) = 214 + VC v' by omega, show 11198 + VS v + (VS v' - VS v) = 11198 + VS v' by omega]
  refine lv_aload_n (pc := pc + 4) C.1 C.2.1 d4 rfl (lv_at hl 2 rfl) ?_
  refine law_call (pc := pc + 5) (av := []) (st := [.long cz]) C q3.symm hl.1 d5 hf2 hm2.1 (by decide) g2 (s2 0) (fun _ => rfl) hm2.2 (by decide) (by omega) (by omega) (Nat.le_of_ble_eq_true rfl) (fun r2 h2' ρ2' H2 locs2 w1 w2 w3 => ?_)
  obtain ⟨rfl, w1⟩ := w1
  refine W.lcmp (pc := pc + 8) (x := cz) (y := cz) C.1 C.2.1 d8 ?_
  refine lv_if_eq (pc := pc + 9) (tgt := 397) C.1 C.2.1 d9 ht (fun _ => ?_) (fun q => absurd (lcmp_0.mpr rfl) q)
  exact hK v' h' h2' ρ' ρ2' H2 locs2 (hn _ _ q1 w1) (q2 0 (hget_lt g1) hmv) (w2 0 (hget_lt g2) rfl) w3.symm
theorem law_c1 (C : lC D dA p s m b L xs meth c) (S : lS D dA s ρ1 ρ2 h1 h2 H locs) (hl : lv_has lsr 4 [(0, .ref b), (1, .ref (ρ1 0)), (2, .ref (ρ2 0)), (3, .int x3)]) (hin : vp_in (x3 + 1) L) (hJ : ∀ y, JC zI μ1 μ2 [.ref 0, .int y] k v h1 h2) (hh : (∃ fs, hget h1 0 = some (.inr (9, fs))) ∧ ∃ fs, hget h2 0 = some (.inr (10, fs))) (hf1 : (i1, μ1, a1, b1, c1) ∈ lTab) (hf2 : (i2, μ2, a2, b2, c2) ∈ lTab) (hm1 : mK μ1 = 9 ∧ 1 = mP μ1) (hm2 : mK μ2 = 10 ∧ 1 = mP μ2)
    (d0 : decode code pc = .ok (.aload_n 1, 1)) (d1 : decode code (pc + 1) = .ok (.aload_n 0, 1)) (d2 : decode code (pc + 2) = .ok (.iload_n 3, 1)) (d3 : decode code (pc + 3) = .ok (.iconst 1, 1)) (d4 : decode code (pc + 4) = .ok (.iadd, 1)) (d5 : decode code (pc + 5) = .ok (.iaload, 1)) (d6 : decode code (pc + 6) = .ok (.invokevirtual i1, 3))
    (f0 : decode code (pc + 9) = .ok (.aload_n 2, 1)) (f1 : decode code (pc + 10) = .ok (.aload_n 0, 1)) (f2 : decode code (pc + 11) = .ok (.iload_n 3, 1)) (f3 : decode code (pc + 12) = .ok (.iconst 1, 1)) (f4 : decode code (pc + 13) = .ok (.iadd, 1)) (f5 : decode code (pc + 14) = .ok (.iaload, 1)) (f6 : decode code (pc + 15) = .ok (.invokevirtual i2, 3)) (f9 : decode code (pc + 18) = .ok (.if_icmp .eq off, 3)) (ht : ((pc + 18 : Nat) : Int) + off = ((397 : Nat) : Int))
    (hK : lNx l D dA p e s m b below meth c (ρ1 0) (ρ2 0) k lsr Q) : W p l e room_1 s m #[Value.ref b] below meth c H locs (214 + VC v) (11198 + VS v) Q (F0 m pc lsr []) := by
  obtain ⟨v', z, mv, P1, P2, ⟨⟨cz, rfl⟩, hmv⟩, ⟨e1, e2, e3, e4⟩, s1, s2, hn⟩ := hJ (xs (x3 + 1).toNatClampNeg)
  obtain ⟨⟨fs1, g1⟩, fs2, g2⟩ := hh
  have hX := C.2.2.2.2.2.2.2.2.2.1
  have hbl := C.2.2.2.2.2.2.2.2.2.2
  have hbA : ¬ lA s b := Nat.not_le.mpr hbl
  refine lv_aload_n C.1 C.2.1 d0 rfl (lv_at hl 1 rfl) ?_
  refine lv_aload_n (pc := pc + 1) C.1 C.2.1 d1 rfl (lv_at hl 0 rfl) ?_
  refine lv_iload_n (pc := pc + 2) C.1 C.2.1 d2 rfl (lv_at hl 3 rfl) ?_
  refine lv_iconst (pc := pc + 3) (v := 1) C.1 C.2.1 d3 (by decide) ?_
  refine lv_iadd (pc := pc + 4) C.1 C.2.1 d4 ?_
  refine va_sld (pc := pc + 5) C.1 C.2.1 hX hbl hbA S.2.2.2.2.2 hin d5 ?_
  refine law_call (pc := pc + 6) (av := [.int (xs (x3 + 1).toNatClampNeg)]) (st := []) C S hl.1 d6 hf1 hm1.1 (by decide) g1 (s1 0) (fun _ => rfl) hm1.2 (by decide) (by omega) (by omega) (by decide) (fun r h' ρ' H' locs' q1 q2 q3 => ?_)
  obtain ⟨rfl, q1⟩ := q1
  rw [show 214 + VC v + (VC v' - VC v) = 214 + VC v' by omega, show 11198 + VS v + (VS v' - VS v) = 11198 + VS v' by omega]
  refine lv_aload_n (pc := pc + 9) C.1 C.2.1 f0 rfl (lv_at hl 2 rfl) ?_
  refine lv_aload_n (pc := pc + 10) C.1 C.2.1 f1 rfl (lv_at hl 0 rfl) ?_
  refine lv_iload_n (pc := pc + 11) C.1 C.2.1 f2 rfl (lv_at hl 3 rfl) ?_
  refine lv_iconst (pc := pc + 12) (v := 1) C.1 C.2.1 f3 (by decide) ?_
  refine lv_iadd (pc := pc + 13) C.1 C.2.1 f4 ?_
  refine va_sld (pc := pc + 14) C.1 C.2.1 hX hbl hbA q3.2.2.2.2.2 hin f5 ?_
  refine law_call (pc := pc + 15) (av := [.int (xs (x3 + 1).toNatClampNeg)]) (st := [.int cz]) C q3.symm hl.1 f6 hf2 hm2.1 (by decide) g2 (s2 0) (fun _ => rfl) hm2.2 (by decide) (by omega) (by omega) (Nat.le_of_ble_eq_true rfl) (fun r2 h2' ρ2' H2 locs2 w1 w2 w3 => ?_)
  obtain ⟨rfl, w1⟩ := w1
  refine lv_icmp_eq (pc := pc + 18) (x := cz) (y := cz) (tgt := 397) C.1 C.2.1 f9 ht (fun _ => ?_) (fun q => absurd rfl q)
  exact hK v' h' h2' ρ' ρ2' H2 locs2 (hn _ _ q1 w1) (q2 0 (hget_lt g1) hmv) (w2 0 (hget_lt g2) rfl) w3.symm
theorem law_c2 (C : lC D dA p s m b L xs meth c) (S : lS D dA s ρ1 ρ2 h1 h2 H locs) (hl : lv_has lsr 4 [(0, .ref b), (1, .ref (ρ1 0)), (2, .ref (ρ2 0)), (3, .int x3)]) (hin : vp_in (x3 + 1) L) (hin2 : vp_in (x3 + 2) L) (hJ : ∀ y z, JC zI μ1 μ2 [.ref 0, .int y, .int z] k v h1 h2) (hh : (∃ fs, hget h1 0 = some (.inr (9, fs))) ∧ ∃ fs, hget h2 0 = some (.inr (10, fs))) (hf1 : (i1, μ1, a1, b1, c1) ∈ lTab) (hf2 : (i2, μ2, a2, b2, c2) ∈ lTab) (hm1 : mK μ1 = 9 ∧ 2 = mP μ1) (hm2 : mK μ2 = 10 ∧ 2 = mP μ2)
    (d0 : decode code pc = .ok (.aload_n 1, 1)) (d1 : decode code (pc + 1) = .ok (.aload_n 0, 1)) (d2 : decode code (pc + 2) = .ok (.iload_n 3, 1)) (d3 : decode code (pc + 3) = .ok (.iconst 1, 1)) (d4 : decode code (pc + 4) = .ok (.iadd, 1)) (d5 : decode code (pc + 5) = .ok (.iaload, 1)) (d6 : decode code (pc + 6) = .ok (.aload_n 0, 1)) (d7 : decode code (pc + 7) = .ok (.iload_n 3, 1)) (d8 : decode code (pc + 8) = .ok (.iconst 2, 1)) (d9 : decode code (pc + 9) = .ok (.iadd, 1)) (d10 : decode code (pc + 10) = .ok (.iaload, 1)) (d11 : decode code (pc + 11) = .ok (.invokevirtual i1, 3))
    (f0 : decode code (pc + 14) = .ok (.aload_n 2, 1)) (f1 : decode code (pc + 15) = .ok (.aload_n 0, 1)) (f2 : decode code (pc + 16) = .ok (.iload_n 3, 1)) (f3 : decode code (pc + 17) = .ok (.iconst 1, 1)) (f4 : decode code (pc + 18) = .ok (.iadd, 1)) (f5 : decode code (pc + 19) = .ok (.iaload, 1)) (f6 : decode code (pc + 20) = .ok (.aload_n 0, 1)) (f7 : decode code (pc + 21) = .ok (.iload_n 3, 1)) (f8 : decode code (pc + 22) = .ok (.iconst 2, 1)) (f9 : decode code (pc + 23) = .ok (.iadd, 1)) (f10 : decode code (pc + 24) = .ok (.iaload, 1)) (f11 : decode code (pc + 25) = .ok (.invokevirtual i2, 3)) (f14 : decode code (pc + 28) = .ok (.if_icmp .eq off, 3)) (ht : ((pc + 28 : Nat) : Int) + off = ((397 : Nat) : Int))
    (hK : lNx l D dA p e s m b below meth c (ρ1 0) (ρ2 0) k lsr Q) : W p l e room_1 s m #[Value.ref b] below meth c H locs (214 + VC v) (11198 + VS v) Q (F0 m pc lsr []) := by
  obtain ⟨v', z, mv, P1, P2, ⟨⟨cz, rfl⟩, hmv⟩, ⟨e1, e2, e3, e4⟩, s1, s2, hn⟩ := hJ (xs (x3 + 1).toNatClampNeg) (xs (x3 + 2).toNatClampNeg)
  obtain ⟨⟨fs1, g1⟩, fs2, g2⟩ := hh
  have hX := C.2.2.2.2.2.2.2.2.2.1
  have hbl := C.2.2.2.2.2.2.2.2.2.2
  have hbA : ¬ lA s b := Nat.not_le.mpr hbl
  refine lv_aload_n C.1 C.2.1 d0 rfl (lv_at hl 1 rfl) ?_
  refine lv_aload_n (pc := pc + 1) C.1 C.2.1 d1 rfl (lv_at hl 0 rfl) ?_
  refine lv_iload_n (pc := pc + 2) C.1 C.2.1 d2 rfl (lv_at hl 3 rfl) ?_
  refine lv_iconst (pc := pc + 3) (v := 1) C.1 C.2.1 d3 (by decide) ?_
  refine lv_iadd (pc := pc + 4) C.1 C.2.1 d4 ?_
  refine va_sld (pc := pc + 5) C.1 C.2.1 hX hbl hbA S.2.2.2.2.2 hin d5 ?_
  refine lv_aload_n (pc := pc + 6) C.1 C.2.1 d6 rfl (lv_at hl 0 rfl) ?_
  refine lv_iload_n (pc := pc + 7) C.1 C.2.1 d7 rfl (lv_at hl 3 rfl) ?_
  refine lv_iconst (pc := pc + 8) (v := 2) C.1 C.2.1 d8 (by decide) ?_
  refine lv_iadd (pc := pc + 9) C.1 C.2.1 d9 ?_
  refine va_sld (pc := pc + 10) C.1 C.2.1 hX hbl hbA S.2.2.2.2.2 hin2 d10 ?_
  refine law_call (pc := pc + 11) (av := [.int (xs (x3 + 1).toNatClampNeg), .int (xs (x3 + 2).toNatClampNeg)]) (st := []) C S hl.1 d11 hf1 hm1.1 (by decide) g1 (s1 0) (fun _ => rfl) hm1.2 (by decide) (by omega) (by omega) (by decide) (fun r h' ρ' H' locs' q1 q2 q3 => ?_)
  obtain ⟨rfl, q1⟩ := q1
  rw [show 214 + VC v + (VC v' - VC v) = 214 + VC v' by omega, show 11198 + VS v + (VS v' - VS v) = 11198 + VS v' by omega]
  refine lv_aload_n (pc := pc + 14) C.1 C.2.1 f0 rfl (lv_at hl 2 rfl) ?_
  refine lv_aload_n (pc := pc + 15) C.1 C.2.1 f1 rfl (lv_at hl 0 rfl) ?_
  refine lv_iload_n (pc := pc + 16) C.1 C.2.1 f2 rfl (lv_at hl 3 rfl) ?_
  refine lv_iconst (pc := pc + 17) (v := 1) C.1 C.2.1 f3 (by decide) ?_
  refine lv_iadd (pc := pc + 18) C.1 C.2.1 f4 ?_
  refine va_sld (pc := pc + 19) C.1 C.2.1 hX hbl hbA q3.2.2.2.2.2 hin f5 ?_
  refine lv_aload_n (pc := pc + 20) C.1 C.2.1 f6 rfl (lv_at hl 0 rfl) ?_
  refine lv_iload_n (pc := pc + 21) C.1 C.2.1 f7 rfl (lv_at hl 3 rfl) ?_
  refine lv_iconst (pc := pc + 22) (v := 2) C.1 C.2.1 f8 (by decide) ?_
  refine lv_iadd (pc := pc + 23) C.1 C.2.1 f9 ?_
  refine va_sld (pc := pc + 24) C.1 C.2.1 hX hbl hbA q3.2.2.2.2.2 hin2 f10 ?_
  refine law_call (pc := pc + 25) (av := [.int (xs (x3 + 1).toNatClampNeg), .int (xs (x3 + 2).toNatClampNeg)]) (st := [.int cz]) C q3.symm hl.1 f11 hf2 hm2.1 (by decide) g2 (s2 0) (fun _ => rfl) hm2.2 (by decide) (by omega) (by omega) (Nat.le_of_ble_eq_true rfl) (fun r2 h2' ρ2' H2 locs2 w1 w2 w3 => ?_)
  obtain ⟨rfl, w1⟩ := w1
  refine lv_icmp_eq (pc := pc + 28) (x := cz) (y := cz) (tgt := 397) C.1 C.2.1 f14 ht (fun _ => ?_) (fun q => absurd rfl q)
  exact hK v' h' h2' ρ' ρ2' H2 locs2 (hn _ _ q1 w1) (q2 0 (hget_lt g1) hmv) (w2 0 (hget_lt g2) rfl) w3.symm
end LC
