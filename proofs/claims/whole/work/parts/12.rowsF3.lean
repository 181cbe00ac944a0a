/-! rows of 135 Model.mayEnd, 136 Model.judge, 137 Model.bookFault, 138 Model.judges, 139 Model.isEndFlawed, 140 Model.isFlaw, 141 Model.isFlawed, 142 Model.judged, 143 Model.mark, 146 Model.begins, 147 Model.goesRow, 148 Model.rowLong, 149 Model.steps, 150 Model.now, 151 Model.nowOf, 152 Model.back, 153 Model.told, 154 Model.toldOf, 155 Model.digest -/
theorem dd_135_0 : decode (mB 135) 0 = .ok (.iconst 0, 1) := by decide +kernel
theorem u_135_0 {G : aG} {S : Nat → Bool} {f : Nat} {st : List Value} {ls : aL} {h : aH} {k n : Nat} (hs : S 0 = false) : WP 135 G S (f + 1) 0 ls st h k n = (WP 135 G S f 1 ls (.int (nI 0) :: st) h k n) := by rw [wp_s dd_135_0 rfl hs]; rfl
theorem dd_135_1 : decode (mB 135) 1 = .ok (.istore_n 2, 1) := by decide +kernel
theorem u_135_1 {G : aG} {S : Nat → Bool} {f : Nat} {st : List Value} {ls : aL} {h : aH} {k n : Nat} {x : Int32} (hs : S 1 = false) : WP 135 G S (f + 1) 1 ls (.int x :: st) h k n = (WP 135 G S f 2 (lput1 ls 2 (.int x)) st h k n) := by rw [wp_s dd_135_1 rfl hs]; rfl
theorem dd_135_2 : decode (mB 135) 2 = .ok (.iconst 0, 1) := by decide +kernel
theorem u_135_2 {G : aG} {S : Nat → Bool} {f : Nat} {st : List Value} {ls : aL} {h : aH} {k n : Nat} (hs : S 2 = false) : WP 135 G S (f + 1) 2 ls st h k n = (WP 135 G S f 3 ls (.int (nI 0) :: st) h k n) := by rw [wp_s dd_135_2 rfl hs]; rfl
theorem dd_135_3 : decode (mB 135) 3 = .ok (.istore_n 3, 1) := by decide +kernel
theorem u_135_3 {G : aG} {S : Nat → Bool} {f : Nat} {st : List Value} {ls : aL} {h : aH} {k n : Nat} {x : Int32} (hs : S 3 = false) : WP 135 G S (f + 1) 3 ls (.int x :: st) h k n = (WP 135 G S f 4 (lput1 ls 3 (.int x)) st h k n) := by rw [wp_s dd_135_3 rfl hs]; rfl
theorem dd_135_4 : decode (mB 135) 4 = .ok (.iload_n 3, 1) := by decide +kernel
theorem u_135_4 {G : aG} {S : Nat → Bool} {f : Nat} {st : List Value} {ls : aL} {h : aH} {k n : Nat} (hs : S 4 = false) : WP 135 G S (f + 1) 4 ls st h k n = (oI (lget ls 3) (WP 135 G S f) 5 ls st h k n) := by rw [wp_s dd_135_4 rfl hs]; rfl
theorem v_135_4 {G : aG} {S : Nat → Bool} {f : Nat} {st : List Value} {ls : aL} {h : aH} {k n : Nat} : WQ 135 G S f 4 ls st h k n = (oI (lget ls 3) (WP 135 G S f) 5 ls st h k n) := by rw [wq_s dd_135_4 rfl]; rfl
theorem dd_135_5 : decode (mB 135) 5 = .ok (.aload_n 0, 1) := by decide +kernel
theorem u_135_5 {G : aG} {S : Nat → Bool} {f : Nat} {st : List Value} {ls : aL} {h : aH} {k n : Nat} (hs : S 5 = false) : WP 135 G S (f + 1) 5 ls st h k n = (oA (lget ls 0) (WP 135 G S f) 6 ls st h k n) := by rw [wp_s dd_135_5 rfl hs]; rfl
theorem dd_135_6 : decode (mB 135) 6 = .ok (.getfield 46, 3) := by decide +kernel
theorem u_135_6 {G : aG} {S : Nat → Bool} {f : Nat} {st : List Value} {ls : aL} {h : aH} {k n : Nat} {a : Nat} (hs : S 6 = false) : WP 135 G S (f + 1) 6 ls (.ref a :: st) h k n = (oV (fget h a 10 14) (WP 135 G S f) 9 ls st h k n) := by rw [wp_s dd_135_6 rfl hs]; rfl
theorem dd_135_9 : decode (mB 135) 9 = .ok (.iload_n 1, 1) := by decide +kernel
theorem u_135_9 {G : aG} {S : Nat → Bool} {f : Nat} {st : List Value} {ls : aL} {h : aH} {k n : Nat} (hs : S 9 = false) : WP 135 G S (f + 1) 9 ls st h k n = (oI (lget ls 1) (WP 135 G S f) 10 ls st h k n) := by rw [wp_s dd_135_9 rfl hs]; rfl
theorem dd_135_10 : decode (mB 135) 10 = .ok (.iaload, 1) := by decide +kernel
theorem u_135_10 {G : aG} {S : Nat → Bool} {f : Nat} {st : List Value} {ls : aL} {h : aH} {k n : Nat} {i : Int32} {a : Nat} (hs : S 10 = false) : WP 135 G S (f + 1) 10 ls (.int i :: .ref a :: st) h k n = (oIld (iget h a 1) i (WP 135 G S f) 11 ls st h k n) := by rw [wp_s dd_135_10 rfl hs]; rfl
theorem dd_135_11 : decode (mB 135) 11 = .ok (.if_icmp .ge 38, 3) := by decide +kernel
theorem u_135_11 {G : aG} {S : Nat → Bool} {f : Nat} {st : List Value} {ls : aL} {h : aH} {k n : Nat} {x y : Int32} (hs : S 11 = false) : WP 135 G S (f + 1) 11 ls (.int y :: .int x :: st) h k n = (if y ≤ x then WP 135 G S f 49 ls st h k n else WP 135 G S f 14 ls st h k n) := by rw [wp_s dd_135_11 rfl hs]; exact br_ite (c := y ≤ x)
theorem dd_135_14 : decode (mB 135) 14 = .ok (.aload_n 0, 1) := by decide +kernel
theorem u_135_14 {G : aG} {S : Nat → Bool} {f : Nat} {st : List Value} {ls : aL} {h : aH} {k n : Nat} (hs : S 14 = false) : WP 135 G S (f + 1) 14 ls st h k n = (oA (lget ls 0) (WP 135 G S f) 15 ls st h k n) := by rw [wp_s dd_135_14 rfl hs]; rfl
theorem dd_135_15 : decode (mB 135) 15 = .ok (.aload_n 0, 1) := by decide +kernel
theorem u_135_15 {G : aG} {S : Nat → Bool} {f : Nat} {st : List Value} {ls : aL} {h : aH} {k n : Nat} (hs : S 15 = false) : WP 135 G S (f + 1) 15 ls st h k n = (oA (lget ls 0) (WP 135 G S f) 16 ls st h k n) := by rw [wp_s dd_135_15 rfl hs]; rfl
theorem dd_135_16 : decode (mB 135) 16 = .ok (.getfield 43, 3) := by decide +kernel
theorem u_135_16 {G : aG} {S : Nat → Bool} {f : Nat} {st : List Value} {ls : aL} {h : aH} {k n : Nat} {a : Nat} (hs : S 16 = false) : WP 135 G S (f + 1) 16 ls (.ref a :: st) h k n = (oV (fget h a 10 13) (WP 135 G S f) 19 ls st h k n) := by rw [wp_s dd_135_16 rfl hs]; rfl
theorem dd_135_19 : decode (mB 135) 19 = .ok (.sipush 256, 3) := by decide +kernel
theorem u_135_19 {G : aG} {S : Nat → Bool} {f : Nat} {st : List Value} {ls : aL} {h : aH} {k n : Nat} (hs : S 19 = false) : WP 135 G S (f + 1) 19 ls st h k n = (WP 135 G S f 22 ls (.int (nI 256) :: st) h k n) := by rw [wp_s dd_135_19 rfl hs]; rfl
theorem dd_135_22 : decode (mB 135) 22 = .ok (.iload_n 1, 1) := by decide +kernel
theorem u_135_22 {G : aG} {S : Nat → Bool} {f : Nat} {st : List Value} {ls : aL} {h : aH} {k n : Nat} (hs : S 22 = false) : WP 135 G S (f + 1) 22 ls st h k n = (oI (lget ls 1) (WP 135 G S f) 23 ls st h k n) := by rw [wp_s dd_135_22 rfl hs]; rfl
theorem dd_135_23 : decode (mB 135) 23 = .ok (.imul, 1) := by decide +kernel
theorem u_135_23 {G : aG} {S : Nat → Bool} {f : Nat} {st : List Value} {ls : aL} {h : aH} {k n : Nat} {x y : Int32} (hs : S 23 = false) : WP 135 G S (f + 1) 23 ls (.int y :: .int x :: st) h k n = (WP 135 G S f 24 ls (.int (x * y) :: st) h k n) := by rw [wp_s dd_135_23 rfl hs]; rfl
theorem dd_135_24 : decode (mB 135) 24 = .ok (.iload_n 3, 1) := by decide +kernel
theorem u_135_24 {G : aG} {S : Nat → Bool} {f : Nat} {st : List Value} {ls : aL} {h : aH} {k n : Nat} (hs : S 24 = false) : WP 135 G S (f + 1) 24 ls st h k n = (oI (lget ls 3) (WP 135 G S f) 25 ls st h k n) := by rw [wp_s dd_135_24 rfl hs]; rfl
theorem dd_135_25 : decode (mB 135) 25 = .ok (.iadd, 1) := by decide +kernel
theorem u_135_25 {G : aG} {S : Nat → Bool} {f : Nat} {st : List Value} {ls : aL} {h : aH} {k n : Nat} {x y : Int32} (hs : S 25 = false) : WP 135 G S (f + 1) 25 ls (.int y :: .int x :: st) h k n = (WP 135 G S f 26 ls (.int (x + y) :: st) h k n) := by rw [wp_s dd_135_25 rfl hs]; rfl
theorem dd_135_26 : decode (mB 135) 26 = .ok (.iaload, 1) := by decide +kernel
theorem u_135_26 {G : aG} {S : Nat → Bool} {f : Nat} {st : List Value} {ls : aL} {h : aH} {k n : Nat} {i : Int32} {a : Nat} (hs : S 26 = false) : WP 135 G S (f + 1) 26 ls (.int i :: .ref a :: st) h k n = (oIld (iget h a 1) i (WP 135 G S f) 27 ls st h k n) := by rw [wp_s dd_135_26 rfl hs]; rfl
theorem dd_135_27 : decode (mB 135) 27 = .ok (.invokevirtual 96, 3) := by decide +kernel
theorem u_135_27 {G : aG} {S : Nat → Bool} {f : Nat} {st : List Value} {ls : aL} {h : aH} {k n : Nat} {v1 : Value} {b : Nat} (hs : S 27 = false) : WP 135 G S (f + 1) 27 ls (v1 :: .ref b :: st) h k n = (rcv (hget h b) 10 ∧ CAL G (WP 135 G S f) 129 [.ref b, v1] 30 ls st h k n) := by rw [wp_s dd_135_27 rfl hs]; rfl
theorem dd_135_30 : decode (mB 135) 30 = .ok (.ifCond .ne 7, 3) := by decide +kernel
theorem u_135_30 {G : aG} {S : Nat → Bool} {f : Nat} {st : List Value} {ls : aL} {h : aH} {k n : Nat} {x : Int32} (hs : S 30 = false) : WP 135 G S (f + 1) 30 ls (.int x :: st) h k n = (if x = nI 0 then WP 135 G S f 33 ls st h k n else WP 135 G S f 37 ls st h k n) := by rw [wp_s dd_135_30 rfl hs]; exact br_iten (c := x = nI 0)
theorem dd_135_33 : decode (mB 135) 33 = .ok (.iload_n 2, 1) := by decide +kernel
theorem u_135_33 {G : aG} {S : Nat → Bool} {f : Nat} {st : List Value} {ls : aL} {h : aH} {k n : Nat} (hs : S 33 = false) : WP 135 G S (f + 1) 33 ls st h k n = (oI (lget ls 2) (WP 135 G S f) 34 ls st h k n) := by rw [wp_s dd_135_33 rfl hs]; rfl
theorem dd_135_34 : decode (mB 135) 34 = .ok (.ifCond .eq 7, 3) := by decide +kernel
theorem u_135_34 {G : aG} {S : Nat → Bool} {f : Nat} {st : List Value} {ls : aL} {h : aH} {k n : Nat} {x : Int32} (hs : S 34 = false) : WP 135 G S (f + 1) 34 ls (.int x :: st) h k n = (if x = nI 0 then WP 135 G S f 41 ls st h k n else WP 135 G S f 37 ls st h k n) := by rw [wp_s dd_135_34 rfl hs]; exact br_ite (c := x = nI 0)
theorem dd_135_37 : decode (mB 135) 37 = .ok (.iconst 1, 1) := by decide +kernel
theorem u_135_37 {G : aG} {S : Nat → Bool} {f : Nat} {st : List Value} {ls : aL} {h : aH} {k n : Nat} (hs : S 37 = false) : WP 135 G S (f + 1) 37 ls st h k n = (WP 135 G S f 38 ls (.int (nI 1) :: st) h k n) := by rw [wp_s dd_135_37 rfl hs]; rfl
theorem dd_135_38 : decode (mB 135) 38 = .ok (.goto 4, 3) := by decide +kernel
theorem u_135_38 {G : aG} {S : Nat → Bool} {f : Nat} {st : List Value} {ls : aL} {h : aH} {k n : Nat} (hs : S 38 = false) : WP 135 G S (f + 1) 38 ls st h k n = (WP 135 G S f 42 ls st h k n) := by rw [wp_s dd_135_38 rfl hs]; rfl
theorem dd_135_41 : decode (mB 135) 41 = .ok (.iconst 0, 1) := by decide +kernel
theorem u_135_41 {G : aG} {S : Nat → Bool} {f : Nat} {st : List Value} {ls : aL} {h : aH} {k n : Nat} (hs : S 41 = false) : WP 135 G S (f + 1) 41 ls st h k n = (WP 135 G S f 42 ls (.int (nI 0) :: st) h k n) := by rw [wp_s dd_135_41 rfl hs]; rfl
theorem dd_135_42 : decode (mB 135) 42 = .ok (.istore_n 2, 1) := by decide +kernel
theorem u_135_42 {G : aG} {S : Nat → Bool} {f : Nat} {st : List Value} {ls : aL} {h : aH} {k n : Nat} {x : Int32} (hs : S 42 = false) : WP 135 G S (f + 1) 42 ls (.int x :: st) h k n = (WP 135 G S f 43 (lput1 ls 2 (.int x)) st h k n) := by rw [wp_s dd_135_42 rfl hs]; rfl
theorem dd_135_43 : decode (mB 135) 43 = .ok (.iinc 3 1, 3) := by decide +kernel
theorem u_135_43 {G : aG} {S : Nat → Bool} {f : Nat} {st : List Value} {ls : aL} {h : aH} {k n : Nat} (hs : S 43 = false) : WP 135 G S (f + 1) 43 ls st h k n = (oInc (lget ls 3) (nI 1) (WP 135 G S f) 3 46 ls st h k n) := by rw [wp_s dd_135_43 rfl hs]; rfl
theorem dd_135_46 : decode (mB 135) 46 = .ok (.goto (-42), 3) := by decide +kernel
theorem u_135_46 {G : aG} {S : Nat → Bool} {f : Nat} {st : List Value} {ls : aL} {h : aH} {k n : Nat} (hs : S 46 = false) : WP 135 G S (f + 1) 46 ls st h k n = (WP 135 G S f 4 ls st h k n) := by rw [wp_s dd_135_46 rfl hs]; rfl
theorem dd_135_49 : decode (mB 135) 49 = .ok (.iload_n 2, 1) := by decide +kernel
theorem u_135_49 {G : aG} {S : Nat → Bool} {f : Nat} {st : List Value} {ls : aL} {h : aH} {k n : Nat} (hs : S 49 = false) : WP 135 G S (f + 1) 49 ls st h k n = (oI (lget ls 2) (WP 135 G S f) 50 ls st h k n) := by rw [wp_s dd_135_49 rfl hs]; rfl
theorem dd_135_50 : decode (mB 135) 50 = .ok (.ireturn, 1) := by decide +kernel
theorem u_135_50 {G : aG} {S : Nat → Bool} {f : Nat} {ls : aL} {h : aH} {k n : Nat} {x : Int32} (hs : S 50 = false) : WP 135 G S (f + 1) 50 ls [.int x] h k n = (cond (x == nI 0 || x == nI 1) (RET G (some (.int x)) h k n) False) := by rw [wp_s dd_135_50 rfl hs]; rfl
theorem dd_136_0 : decode (mB 136) 0 = .ok (.iload_n 1, 1) := by decide +kernel
theorem u_136_0 {G : aG} {S : Nat → Bool} {f : Nat} {st : List Value} {ls : aL} {h : aH} {k n : Nat} (hs : S 0 = false) : WP 136 G S (f + 1) 0 ls st h k n = (oI (lget ls 1) (WP 136 G S f) 1 ls st h k n) := by rw [wp_s dd_136_0 rfl hs]; rfl
theorem dd_136_1 : decode (mB 136) 1 = .ok (.i2l, 1) := by decide +kernel
theorem u_136_1 {G : aG} {S : Nat → Bool} {f : Nat} {st : List Value} {ls : aL} {h : aH} {k n : Nat} {x : Int32} (hs : S 1 = false) : WP 136 G S (f + 1) 1 ls (.int x :: st) h k n = (WP 136 G S f 2 ls (.long x.toInt64 :: st) h k n) := by rw [wp_s dd_136_1 rfl hs]; rfl
theorem dd_136_2 : decode (mB 136) 2 = .ok (.lconst 0, 1) := by decide +kernel
theorem u_136_2 {G : aG} {S : Nat → Bool} {f : Nat} {st : List Value} {ls : aL} {h : aH} {k n : Nat} (hs : S 2 = false) : WP 136 G S (f + 1) 2 ls st h k n = (WP 136 G S f 3 ls (.long (lN 0) :: st) h k n) := by rw [wp_s dd_136_2 rfl hs]; rfl
theorem dd_136_3 : decode (mB 136) 3 = .ok (.ldc2_w 230, 3) := by decide +kernel
theorem u_136_3 {G : aG} {S : Nat → Bool} {f : Nat} {st : List Value} {ls : aL} {h : aH} {k n : Nat} (hs : S 3 = false) : WP 136 G S (f + 1) 3 ls st h k n = (WP 136 G S f 6 ls (.long (lN 5) :: st) h k n) := by rw [wp_s dd_136_3 rfl hs]; rfl
theorem dd_136_6 : decode (mB 136) 6 = .ok (.invokestatic 109, 3) := by decide +kernel
theorem u_136_6 {G : aG} {S : Nat → Bool} {f : Nat} {st : List Value} {ls : aL} {h : aH} {k n : Nat} {v1 v2 v3 : Value} (hs : S 6 = false) : WP 136 G S (f + 1) 6 ls (v3 :: v2 :: v1 :: st) h k n = (CAL G (WP 136 G S f) 104 [v1, v2, v3] 9 ls st h k n) := by rw [wp_s dd_136_6 rfl hs]; rfl
theorem dd_136_9 : decode (mB 136) 9 = .ok (.ifCond .ne 10, 3) := by decide +kernel
theorem u_136_9 {G : aG} {S : Nat → Bool} {f : Nat} {st : List Value} {ls : aL} {h : aH} {k n : Nat} {x : Int32} (hs : S 9 = false) : WP 136 G S (f + 1) 9 ls (.int x :: st) h k n = (if x = nI 0 then WP 136 G S f 12 ls st h k n else WP 136 G S f 19 ls st h k n) := by rw [wp_s dd_136_9 rfl hs]; exact br_iten (c := x = nI 0)
theorem dd_136_12 : decode (mB 136) 12 = .ok (.aload_n 0, 1) := by decide +kernel
theorem u_136_12 {G : aG} {S : Nat → Bool} {f : Nat} {st : List Value} {ls : aL} {h : aH} {k n : Nat} (hs : S 12 = false) : WP 136 G S (f + 1) 12 ls st h k n = (oA (lget ls 0) (WP 136 G S f) 13 ls st h k n) := by rw [wp_s dd_136_12 rfl hs]; rfl
theorem dd_136_13 : decode (mB 136) 13 = .ok (.bipush (-2), 2) := by decide +kernel
theorem u_136_13 {G : aG} {S : Nat → Bool} {f : Nat} {st : List Value} {ls : aL} {h : aH} {k n : Nat} (hs : S 13 = false) : WP 136 G S (f + 1) 13 ls st h k n = (WP 136 G S f 15 ls (.int (-2) :: st) h k n) := by rw [wp_s dd_136_13 rfl hs]; rfl
theorem dd_136_15 : decode (mB 136) 15 = .ok (.invokevirtual 113, 3) := by decide +kernel
theorem u_136_15 {G : aG} {S : Nat → Bool} {f : Nat} {st : List Value} {ls : aL} {h : aH} {k n : Nat} {v1 : Value} {b : Nat} (hs : S 15 = false) : WP 136 G S (f + 1) 15 ls (v1 :: .ref b :: st) h k n = (rcv (hget h b) 10 ∧ CAL G (WP 136 G S f) 105 [.ref b, v1] 18 ls st h k n) := by rw [wp_s dd_136_15 rfl hs]; rfl
theorem dd_136_18 : decode (mB 136) 18 = .ok (.ireturn, 1) := by decide +kernel
theorem u_136_18 {G : aG} {S : Nat → Bool} {f : Nat} {ls : aL} {h : aH} {k n : Nat} {x : Int32} (hs : S 18 = false) : WP 136 G S (f + 1) 18 ls [.int x] h k n = (RET G (some (.int x)) h k n) := by rw [wp_s dd_136_18 rfl hs]; rfl
theorem dd_136_19 : decode (mB 136) 19 = .ok (.aload_n 0, 1) := by decide +kernel
theorem u_136_19 {G : aG} {S : Nat → Bool} {f : Nat} {st : List Value} {ls : aL} {h : aH} {k n : Nat} (hs : S 19 = false) : WP 136 G S (f + 1) 19 ls st h k n = (oA (lget ls 0) (WP 136 G S f) 20 ls st h k n) := by rw [wp_s dd_136_19 rfl hs]; rfl
theorem dd_136_20 : decode (mB 136) 20 = .ok (.invokevirtual 232, 3) := by decide +kernel
theorem u_136_20 {G : aG} {S : Nat → Bool} {f : Nat} {st : List Value} {ls : aL} {h : aH} {k n : Nat} {b : Nat} (hs : S 20 = false) : WP 136 G S (f + 1) 20 ls (.ref b :: st) h k n = (rcv (hget h b) 10 ∧ CAL G (WP 136 G S f) 137 [.ref b] 23 ls st h k n) := by rw [wp_s dd_136_20 rfl hs]; rfl
theorem dd_136_23 : decode (mB 136) 23 = .ok (.istore_n 2, 1) := by decide +kernel
theorem u_136_23 {G : aG} {S : Nat → Bool} {f : Nat} {st : List Value} {ls : aL} {h : aH} {k n : Nat} {x : Int32} (hs : S 23 = false) : WP 136 G S (f + 1) 23 ls (.int x :: st) h k n = (WP 136 G S f 24 (lput1 ls 2 (.int x)) st h k n) := by rw [wp_s dd_136_23 rfl hs]; rfl
theorem dd_136_24 : decode (mB 136) 24 = .ok (.iload_n 2, 1) := by decide +kernel
theorem u_136_24 {G : aG} {S : Nat → Bool} {f : Nat} {st : List Value} {ls : aL} {h : aH} {k n : Nat} (hs : S 24 = false) : WP 136 G S (f + 1) 24 ls st h k n = (oI (lget ls 2) (WP 136 G S f) 25 ls st h k n) := by rw [wp_s dd_136_24 rfl hs]; rfl
theorem dd_136_25 : decode (mB 136) 25 = .ok (.iconst (-1), 1) := by decide +kernel
theorem u_136_25 {G : aG} {S : Nat → Bool} {f : Nat} {st : List Value} {ls : aL} {h : aH} {k n : Nat} (hs : S 25 = false) : WP 136 G S (f + 1) 25 ls st h k n = (WP 136 G S f 26 ls (.int (-1) :: st) h k n) := by rw [wp_s dd_136_25 rfl hs]; rfl
theorem dd_136_26 : decode (mB 136) 26 = .ok (.if_icmp .eq 8, 3) := by decide +kernel
theorem u_136_26 {G : aG} {S : Nat → Bool} {f : Nat} {st : List Value} {ls : aL} {h : aH} {k n : Nat} {x y : Int32} (hs : S 26 = false) : WP 136 G S (f + 1) 26 ls (.int y :: .int x :: st) h k n = (if x = y then WP 136 G S f 34 ls st h k n else WP 136 G S f 29 ls st h k n) := by rw [wp_s dd_136_26 rfl hs]; exact br_ite (c := x = y)
theorem dd_136_29 : decode (mB 136) 29 = .ok (.bipush (-10), 2) := by decide +kernel
theorem u_136_29 {G : aG} {S : Nat → Bool} {f : Nat} {st : List Value} {ls : aL} {h : aH} {k n : Nat} (hs : S 29 = false) : WP 136 G S (f + 1) 29 ls st h k n = (WP 136 G S f 31 ls (.int (-10) :: st) h k n) := by rw [wp_s dd_136_29 rfl hs]; rfl
theorem dd_136_31 : decode (mB 136) 31 = .ok (.iload_n 2, 1) := by decide +kernel
theorem u_136_31 {G : aG} {S : Nat → Bool} {f : Nat} {st : List Value} {ls : aL} {h : aH} {k n : Nat} (hs : S 31 = false) : WP 136 G S (f + 1) 31 ls st h k n = (oI (lget ls 2) (WP 136 G S f) 32 ls st h k n) := by rw [wp_s dd_136_31 rfl hs]; rfl
theorem dd_136_32 : decode (mB 136) 32 = .ok (.isub, 1) := by decide +kernel
theorem u_136_32 {G : aG} {S : Nat → Bool} {f : Nat} {st : List Value} {ls : aL} {h : aH} {k n : Nat} {x y : Int32} (hs : S 32 = false) : WP 136 G S (f + 1) 32 ls (.int y :: .int x :: st) h k n = (WP 136 G S f 33 ls (.int (x - y) :: st) h k n) := by rw [wp_s dd_136_32 rfl hs]; rfl
theorem dd_136_33 : decode (mB 136) 33 = .ok (.ireturn, 1) := by decide +kernel
theorem u_136_33 {G : aG} {S : Nat → Bool} {f : Nat} {ls : aL} {h : aH} {k n : Nat} {x : Int32} (hs : S 33 = false) : WP 136 G S (f + 1) 33 ls [.int x] h k n = (RET G (some (.int x)) h k n) := by rw [wp_s dd_136_33 rfl hs]; rfl
theorem dd_136_34 : decode (mB 136) 34 = .ok (.aload_n 0, 1) := by decide +kernel
theorem u_136_34 {G : aG} {S : Nat → Bool} {f : Nat} {st : List Value} {ls : aL} {h : aH} {k n : Nat} (hs : S 34 = false) : WP 136 G S (f + 1) 34 ls st h k n = (oA (lget ls 0) (WP 136 G S f) 35 ls st h k n) := by rw [wp_s dd_136_34 rfl hs]; rfl
theorem dd_136_35 : decode (mB 136) 35 = .ok (.invokevirtual 235, 3) := by decide +kernel
theorem u_136_35 {G : aG} {S : Nat → Bool} {f : Nat} {st : List Value} {ls : aL} {h : aH} {k n : Nat} {b : Nat} (hs : S 35 = false) : WP 136 G S (f + 1) 35 ls (.ref b :: st) h k n = (rcv (hget h b) 10 ∧ CAL G (WP 136 G S f) 138 [.ref b] 38 ls st h k n) := by rw [wp_s dd_136_35 rfl hs]; rfl
theorem dd_136_38 : decode (mB 136) 38 = .ok (.aload_n 0, 1) := by decide +kernel
theorem u_136_38 {G : aG} {S : Nat → Bool} {f : Nat} {st : List Value} {ls : aL} {h : aH} {k n : Nat} (hs : S 38 = false) : WP 136 G S (f + 1) 38 ls st h k n = (oA (lget ls 0) (WP 136 G S f) 39 ls st h k n) := by rw [wp_s dd_136_38 rfl hs]; rfl
theorem dd_136_39 : decode (mB 136) 39 = .ok (.iload_n 1, 1) := by decide +kernel
theorem u_136_39 {G : aG} {S : Nat → Bool} {f : Nat} {st : List Value} {ls : aL} {h : aH} {k n : Nat} (hs : S 39 = false) : WP 136 G S (f + 1) 39 ls st h k n = (oI (lget ls 1) (WP 136 G S f) 40 ls st h k n) := by rw [wp_s dd_136_39 rfl hs]; rfl
theorem dd_136_40 : decode (mB 136) 40 = .ok (.invokevirtual 238, 3) := by decide +kernel
theorem u_136_40 {G : aG} {S : Nat → Bool} {f : Nat} {st : List Value} {ls : aL} {h : aH} {k n : Nat} {v1 : Value} {b : Nat} (hs : S 40 = false) : WP 136 G S (f + 1) 40 ls (v1 :: .ref b :: st) h k n = (rcv (hget h b) 10 ∧ CAL G (WP 136 G S f) 142 [.ref b, v1] 43 ls st h k n) := by rw [wp_s dd_136_40 rfl hs]; rfl
theorem dd_136_43 : decode (mB 136) 43 = .ok (.ireturn, 1) := by decide +kernel
theorem u_136_43 {G : aG} {S : Nat → Bool} {f : Nat} {ls : aL} {h : aH} {k n : Nat} {x : Int32} (hs : S 43 = false) : WP 136 G S (f + 1) 43 ls [.int x] h k n = (RET G (some (.int x)) h k n) := by rw [wp_s dd_136_43 rfl hs]; rfl
theorem dd_137_0 : decode (mB 137) 0 = .ok (.aload_n 0, 1) := by decide +kernel
theorem u_137_0 {G : aG} {S : Nat → Bool} {f : Nat} {st : List Value} {ls : aL} {h : aH} {k n : Nat} (hs : S 0 = false) : WP 137 G S (f + 1) 0 ls st h k n = (oA (lget ls 0) (WP 137 G S f) 1 ls st h k n) := by rw [wp_s dd_137_0 rfl hs]; rfl
theorem dd_137_1 : decode (mB 137) 1 = .ok (.iconst 0, 1) := by decide +kernel
theorem u_137_1 {G : aG} {S : Nat → Bool} {f : Nat} {st : List Value} {ls : aL} {h : aH} {k n : Nat} (hs : S 1 = false) : WP 137 G S (f + 1) 1 ls st h k n = (WP 137 G S f 2 ls (.int (nI 0) :: st) h k n) := by rw [wp_s dd_137_1 rfl hs]; rfl
theorem dd_137_2 : decode (mB 137) 2 = .ok (.putfield 120, 3) := by decide +kernel
theorem u_137_2 {G : aG} {S : Nat → Bool} {f : Nat} {st : List Value} {ls : aL} {h : aH} {k n : Nat} {a : Nat} {x : Int32} (hs : S 2 = false) : WP 137 G S (f + 1) 2 ls (.int x :: .ref a :: st) h k n = (oH (fput h a 10 17 (.int x)) (WP 137 G S f) 5 ls st k n) := by rw [wp_s dd_137_2 rfl hs]; rfl
theorem dd_137_5 : decode (mB 137) 5 = .ok (.iconst 0, 1) := by decide +kernel
theorem u_137_5 {G : aG} {S : Nat → Bool} {f : Nat} {st : List Value} {ls : aL} {h : aH} {k n : Nat} (hs : S 5 = false) : WP 137 G S (f + 1) 5 ls st h k n = (WP 137 G S f 6 ls (.int (nI 0) :: st) h k n) := by rw [wp_s dd_137_5 rfl hs]; rfl
theorem dd_137_6 : decode (mB 137) 6 = .ok (.istore_n 1, 1) := by decide +kernel
theorem u_137_6 {G : aG} {S : Nat → Bool} {f : Nat} {st : List Value} {ls : aL} {h : aH} {k n : Nat} {x : Int32} (hs : S 6 = false) : WP 137 G S (f + 1) 6 ls (.int x :: st) h k n = (WP 137 G S f 7 (lput1 ls 1 (.int x)) st h k n) := by rw [wp_s dd_137_6 rfl hs]; rfl
theorem dd_137_7 : decode (mB 137) 7 = .ok (.iconst 0, 1) := by decide +kernel
theorem u_137_7 {G : aG} {S : Nat → Bool} {f : Nat} {st : List Value} {ls : aL} {h : aH} {k n : Nat} (hs : S 7 = false) : WP 137 G S (f + 1) 7 ls st h k n = (WP 137 G S f 8 ls (.int (nI 0) :: st) h k n) := by rw [wp_s dd_137_7 rfl hs]; rfl
theorem dd_137_8 : decode (mB 137) 8 = .ok (.istore_n 2, 1) := by decide +kernel
theorem u_137_8 {G : aG} {S : Nat → Bool} {f : Nat} {st : List Value} {ls : aL} {h : aH} {k n : Nat} {x : Int32} (hs : S 8 = false) : WP 137 G S (f + 1) 8 ls (.int x :: st) h k n = (WP 137 G S f 9 (lput1 ls 2 (.int x)) st h k n) := by rw [wp_s dd_137_8 rfl hs]; rfl
theorem dd_137_9 : decode (mB 137) 9 = .ok (.aload_n 0, 1) := by decide +kernel
theorem u_137_9 {G : aG} {S : Nat → Bool} {f : Nat} {st : List Value} {ls : aL} {h : aH} {k n : Nat} (hs : S 9 = false) : WP 137 G S (f + 1) 9 ls st h k n = (oA (lget ls 0) (WP 137 G S f) 10 ls st h k n) := by rw [wp_s dd_137_9 rfl hs]; rfl
theorem dd_137_10 : decode (mB 137) 10 = .ok (.iconst 0, 1) := by decide +kernel
theorem u_137_10 {G : aG} {S : Nat → Bool} {f : Nat} {st : List Value} {ls : aL} {h : aH} {k n : Nat} (hs : S 10 = false) : WP 137 G S (f + 1) 10 ls st h k n = (WP 137 G S f 11 ls (.int (nI 0) :: st) h k n) := by rw [wp_s dd_137_10 rfl hs]; rfl
theorem dd_137_11 : decode (mB 137) 11 = .ok (.putfield 206, 3) := by decide +kernel
theorem u_137_11 {G : aG} {S : Nat → Bool} {f : Nat} {st : List Value} {ls : aL} {h : aH} {k n : Nat} {a : Nat} {x : Int32} (hs : S 11 = false) : WP 137 G S (f + 1) 11 ls (.int x :: .ref a :: st) h k n = (oH (fput h a 10 27 (.int x)) (WP 137 G S f) 14 ls st k n) := by rw [wp_s dd_137_11 rfl hs]; rfl
theorem dd_137_14 : decode (mB 137) 14 = .ok (.aload_n 0, 1) := by decide +kernel
theorem u_137_14 {G : aG} {S : Nat → Bool} {f : Nat} {st : List Value} {ls : aL} {h : aH} {k n : Nat} (hs : S 14 = false) : WP 137 G S (f + 1) 14 ls st h k n = (oA (lget ls 0) (WP 137 G S f) 15 ls st h k n) := by rw [wp_s dd_137_14 rfl hs]; rfl
theorem dd_137_15 : decode (mB 137) 15 = .ok (.iconst 0, 1) := by decide +kernel
theorem u_137_15 {G : aG} {S : Nat → Bool} {f : Nat} {st : List Value} {ls : aL} {h : aH} {k n : Nat} (hs : S 15 = false) : WP 137 G S (f + 1) 15 ls st h k n = (WP 137 G S f 16 ls (.int (nI 0) :: st) h k n) := by rw [wp_s dd_137_15 rfl hs]; rfl
theorem dd_137_16 : decode (mB 137) 16 = .ok (.putfield 209, 3) := by decide +kernel
theorem u_137_16 {G : aG} {S : Nat → Bool} {f : Nat} {st : List Value} {ls : aL} {h : aH} {k n : Nat} {a : Nat} {x : Int32} (hs : S 16 = false) : WP 137 G S (f + 1) 16 ls (.int x :: .ref a :: st) h k n = (oH (fput h a 10 28 (.int x)) (WP 137 G S f) 19 ls st k n) := by rw [wp_s dd_137_16 rfl hs]; rfl
theorem dd_137_19 : decode (mB 137) 19 = .ok (.aload_n 0, 1) := by decide +kernel
theorem u_137_19 {G : aG} {S : Nat → Bool} {f : Nat} {st : List Value} {ls : aL} {h : aH} {k n : Nat} (hs : S 19 = false) : WP 137 G S (f + 1) 19 ls st h k n = (oA (lget ls 0) (WP 137 G S f) 20 ls st h k n) := by rw [wp_s dd_137_19 rfl hs]; rfl
theorem v_137_19 {G : aG} {S : Nat → Bool} {f : Nat} {st : List Value} {ls : aL} {h : aH} {k n : Nat} : WQ 137 G S f 19 ls st h k n = (oA (lget ls 0) (WP 137 G S f) 20 ls st h k n) := by rw [wq_s dd_137_19 rfl]; rfl
theorem dd_137_20 : decode (mB 137) 20 = .ok (.invokevirtual 152, 3) := by decide +kernel
theorem u_137_20 {G : aG} {S : Nat → Bool} {f : Nat} {st : List Value} {ls : aL} {h : aH} {k n : Nat} {b : Nat} (hs : S 20 = false) : WP 137 G S (f + 1) 20 ls (.ref b :: st) h k n = (rcv (hget h b) 10 ∧ CAL G (WP 137 G S f) 109 [.ref b] 23 ls st h k n) := by rw [wp_s dd_137_20 rfl hs]; rfl
theorem dd_137_23 : decode (mB 137) 23 = .ok (.iconst (-1), 1) := by decide +kernel
theorem u_137_23 {G : aG} {S : Nat → Bool} {f : Nat} {st : List Value} {ls : aL} {h : aH} {k n : Nat} (hs : S 23 = false) : WP 137 G S (f + 1) 23 ls st h k n = (WP 137 G S f 24 ls (.int (-1) :: st) h k n) := by rw [wp_s dd_137_23 rfl hs]; rfl
theorem dd_137_24 : decode (mB 137) 24 = .ok (.if_icmp .eq 167, 3) := by decide +kernel
theorem u_137_24 {G : aG} {S : Nat → Bool} {f : Nat} {st : List Value} {ls : aL} {h : aH} {k n : Nat} {x y : Int32} (hs : S 24 = false) : WP 137 G S (f + 1) 24 ls (.int y :: .int x :: st) h k n = (if x = y then WP 137 G S f 191 ls st h k n else WP 137 G S f 27 ls st h k n) := by rw [wp_s dd_137_24 rfl hs]; exact br_ite (c := x = y)
theorem dd_137_27 : decode (mB 137) 27 = .ok (.aload_n 0, 1) := by decide +kernel
theorem u_137_27 {G : aG} {S : Nat → Bool} {f : Nat} {st : List Value} {ls : aL} {h : aH} {k n : Nat} (hs : S 27 = false) : WP 137 G S (f + 1) 27 ls st h k n = (oA (lget ls 0) (WP 137 G S f) 28 ls st h k n) := by rw [wp_s dd_137_27 rfl hs]; rfl
theorem dd_137_28 : decode (mB 137) 28 = .ok (.invokevirtual 152, 3) := by decide +kernel
theorem u_137_28 {G : aG} {S : Nat → Bool} {f : Nat} {st : List Value} {ls : aL} {h : aH} {k n : Nat} {b : Nat} (hs : S 28 = false) : WP 137 G S (f + 1) 28 ls (.ref b :: st) h k n = (rcv (hget h b) 10 ∧ CAL G (WP 137 G S f) 109 [.ref b] 31 ls st h k n) := by rw [wp_s dd_137_28 rfl hs]; rfl
theorem dd_137_31 : decode (mB 137) 31 = .ok (.istore_n 3, 1) := by decide +kernel
theorem u_137_31 {G : aG} {S : Nat → Bool} {f : Nat} {st : List Value} {ls : aL} {h : aH} {k n : Nat} {x : Int32} (hs : S 31 = false) : WP 137 G S (f + 1) 31 ls (.int x :: st) h k n = (WP 137 G S f 32 (lput1 ls 3 (.int x)) st h k n) := by rw [wp_s dd_137_31 rfl hs]; rfl
theorem dd_137_32 : decode (mB 137) 32 = .ok (.iload_n 3, 1) := by decide +kernel
theorem u_137_32 {G : aG} {S : Nat → Bool} {f : Nat} {st : List Value} {ls : aL} {h : aH} {k n : Nat} (hs : S 32 = false) : WP 137 G S (f + 1) 32 ls st h k n = (oI (lget ls 3) (WP 137 G S f) 33 ls st h k n) := by rw [wp_s dd_137_32 rfl hs]; rfl
theorem dd_137_33 : decode (mB 137) 33 = .ok (.i2l, 1) := by decide +kernel
theorem u_137_33 {G : aG} {S : Nat → Bool} {f : Nat} {st : List Value} {ls : aL} {h : aH} {k n : Nat} {x : Int32} (hs : S 33 = false) : WP 137 G S (f + 1) 33 ls (.int x :: st) h k n = (WP 137 G S f 34 ls (.long x.toInt64 :: st) h k n) := by rw [wp_s dd_137_33 rfl hs]; rfl
theorem dd_137_34 : decode (mB 137) 34 = .ok (.ldc2_w 142, 3) := by decide +kernel
theorem u_137_34 {G : aG} {S : Nat → Bool} {f : Nat} {st : List Value} {ls : aL} {h : aH} {k n : Nat} (hs : S 34 = false) : WP 137 G S (f + 1) 34 ls st h k n = (WP 137 G S f 37 ls (.long (lN 97) :: st) h k n) := by rw [wp_s dd_137_34 rfl hs]; rfl
theorem dd_137_37 : decode (mB 137) 37 = .ok (.ldc2_w 144, 3) := by decide +kernel
theorem u_137_37 {G : aG} {S : Nat → Bool} {f : Nat} {st : List Value} {ls : aL} {h : aH} {k n : Nat} (hs : S 37 = false) : WP 137 G S (f + 1) 37 ls st h k n = (WP 137 G S f 40 ls (.long (lN 104) :: st) h k n) := by rw [wp_s dd_137_37 rfl hs]; rfl
theorem dd_137_40 : decode (mB 137) 40 = .ok (.invokestatic 109, 3) := by decide +kernel
theorem u_137_40 {G : aG} {S : Nat → Bool} {f : Nat} {st : List Value} {ls : aL} {h : aH} {k n : Nat} {v1 v2 v3 : Value} (hs : S 40 = false) : WP 137 G S (f + 1) 40 ls (v3 :: v2 :: v1 :: st) h k n = (CAL G (WP 137 G S f) 104 [v1, v2, v3] 43 ls st h k n) := by rw [wp_s dd_137_40 rfl hs]; rfl
theorem dd_137_43 : decode (mB 137) 43 = .ok (.istore 4, 2) := by decide +kernel
theorem u_137_43 {G : aG} {S : Nat → Bool} {f : Nat} {st : List Value} {ls : aL} {h : aH} {k n : Nat} {x : Int32} (hs : S 43 = false) : WP 137 G S (f + 1) 43 ls (.int x :: st) h k n = (WP 137 G S f 45 (lput1 ls 4 (.int x)) st h k n) := by rw [wp_s dd_137_43 rfl hs]; rfl
theorem dd_137_45 : decode (mB 137) 45 = .ok (.iload_n 3, 1) := by decide +kernel
theorem u_137_45 {G : aG} {S : Nat → Bool} {f : Nat} {st : List Value} {ls : aL} {h : aH} {k n : Nat} (hs : S 45 = false) : WP 137 G S (f + 1) 45 ls st h k n = (oI (lget ls 3) (WP 137 G S f) 46 ls st h k n) := by rw [wp_s dd_137_45 rfl hs]; rfl
theorem dd_137_46 : decode (mB 137) 46 = .ok (.bipush 40, 2) := by decide +kernel
theorem u_137_46 {G : aG} {S : Nat → Bool} {f : Nat} {st : List Value} {ls : aL} {h : aH} {k n : Nat} (hs : S 46 = false) : WP 137 G S (f + 1) 46 ls st h k n = (WP 137 G S f 48 ls (.int (nI 40) :: st) h k n) := by rw [wp_s dd_137_46 rfl hs]; rfl
theorem dd_137_48 : decode (mB 137) 48 = .ok (.if_icmp .ne 17, 3) := by decide +kernel
theorem u_137_48 {G : aG} {S : Nat → Bool} {f : Nat} {st : List Value} {ls : aL} {h : aH} {k n : Nat} {x y : Int32} (hs : S 48 = false) : WP 137 G S (f + 1) 48 ls (.int y :: .int x :: st) h k n = (if x = y then WP 137 G S f 51 ls st h k n else WP 137 G S f 65 ls st h k n) := by rw [wp_s dd_137_48 rfl hs]; exact br_iten (c := x = y)
theorem dd_137_51 : decode (mB 137) 51 = .ok (.iload_n 2, 1) := by decide +kernel
theorem u_137_51 {G : aG} {S : Nat → Bool} {f : Nat} {st : List Value} {ls : aL} {h : aH} {k n : Nat} (hs : S 51 = false) : WP 137 G S (f + 1) 51 ls st h k n = (oI (lget ls 2) (WP 137 G S f) 52 ls st h k n) := by rw [wp_s dd_137_51 rfl hs]; rfl
theorem dd_137_52 : decode (mB 137) 52 = .ok (.ifCond .eq 13, 3) := by decide +kernel
theorem u_137_52 {G : aG} {S : Nat → Bool} {f : Nat} {st : List Value} {ls : aL} {h : aH} {k n : Nat} {x : Int32} (hs : S 52 = false) : WP 137 G S (f + 1) 52 ls (.int x :: st) h k n = (if x = nI 0 then WP 137 G S f 65 ls st h k n else WP 137 G S f 55 ls st h k n) := by rw [wp_s dd_137_52 rfl hs]; exact br_ite (c := x = nI 0)
theorem dd_137_55 : decode (mB 137) 55 = .ok (.iload_n 1, 1) := by decide +kernel
theorem u_137_55 {G : aG} {S : Nat → Bool} {f : Nat} {st : List Value} {ls : aL} {h : aH} {k n : Nat} (hs : S 55 = false) : WP 137 G S (f + 1) 55 ls st h k n = (oI (lget ls 1) (WP 137 G S f) 56 ls st h k n) := by rw [wp_s dd_137_55 rfl hs]; rfl
theorem dd_137_56 : decode (mB 137) 56 = .ok (.bipush 8, 2) := by decide +kernel
theorem u_137_56 {G : aG} {S : Nat → Bool} {f : Nat} {st : List Value} {ls : aL} {h : aH} {k n : Nat} (hs : S 56 = false) : WP 137 G S (f + 1) 56 ls st h k n = (WP 137 G S f 58 ls (.int (nI 8) :: st) h k n) := by rw [wp_s dd_137_56 rfl hs]; rfl
theorem dd_137_58 : decode (mB 137) 58 = .ok (.if_icmp .ge 7, 3) := by decide +kernel
theorem u_137_58 {G : aG} {S : Nat → Bool} {f : Nat} {st : List Value} {ls : aL} {h : aH} {k n : Nat} {x y : Int32} (hs : S 58 = false) : WP 137 G S (f + 1) 58 ls (.int y :: .int x :: st) h k n = (if y ≤ x then WP 137 G S f 65 ls st h k n else WP 137 G S f 61 ls st h k n) := by rw [wp_s dd_137_58 rfl hs]; exact br_ite (c := y ≤ x)
theorem dd_137_61 : decode (mB 137) 61 = .ok (.iconst 1, 1) := by decide +kernel
theorem u_137_61 {G : aG} {S : Nat → Bool} {f : Nat} {st : List Value} {ls : aL} {h : aH} {k n : Nat} (hs : S 61 = false) : WP 137 G S (f + 1) 61 ls st h k n = (WP 137 G S f 62 ls (.int (nI 1) :: st) h k n) := by rw [wp_s dd_137_61 rfl hs]; rfl
theorem dd_137_62 : decode (mB 137) 62 = .ok (.goto 4, 3) := by decide +kernel
theorem u_137_62 {G : aG} {S : Nat → Bool} {f : Nat} {st : List Value} {ls : aL} {h : aH} {k n : Nat} (hs : S 62 = false) : WP 137 G S (f + 1) 62 ls st h k n = (WP 137 G S f 66 ls st h k n) := by rw [wp_s dd_137_62 rfl hs]; rfl
theorem dd_137_65 : decode (mB 137) 65 = .ok (.iconst 0, 1) := by decide +kernel
theorem u_137_65 {G : aG} {S : Nat → Bool} {f : Nat} {st : List Value} {ls : aL} {h : aH} {k n : Nat} (hs : S 65 = false) : WP 137 G S (f + 1) 65 ls st h k n = (WP 137 G S f 66 ls (.int (nI 0) :: st) h k n) := by rw [wp_s dd_137_65 rfl hs]; rfl
theorem dd_137_66 : decode (mB 137) 66 = .ok (.istore 5, 2) := by decide +kernel
theorem u_137_66 {G : aG} {S : Nat → Bool} {f : Nat} {st : List Value} {ls : aL} {h : aH} {k n : Nat} {x : Int32} (hs : S 66 = false) : WP 137 G S (f + 1) 66 ls (.int x :: st) h k n = (WP 137 G S f 68 (lput1 ls 5 (.int x)) st h k n) := by rw [wp_s dd_137_66 rfl hs]; rfl
theorem dd_137_68 : decode (mB 137) 68 = .ok (.iload_n 3, 1) := by decide +kernel
theorem u_137_68 {G : aG} {S : Nat → Bool} {f : Nat} {st : List Value} {ls : aL} {h : aH} {k n : Nat} (hs : S 68 = false) : WP 137 G S (f + 1) 68 ls st h k n = (oI (lget ls 3) (WP 137 G S f) 69 ls st h k n) := by rw [wp_s dd_137_68 rfl hs]; rfl
theorem dd_137_69 : decode (mB 137) 69 = .ok (.bipush 41, 2) := by decide +kernel
theorem u_137_69 {G : aG} {S : Nat → Bool} {f : Nat} {st : List Value} {ls : aL} {h : aH} {k n : Nat} (hs : S 69 = false) : WP 137 G S (f + 1) 69 ls st h k n = (WP 137 G S f 71 ls (.int (nI 41) :: st) h k n) := by rw [wp_s dd_137_69 rfl hs]; rfl
theorem dd_137_71 : decode (mB 137) 71 = .ok (.if_icmp .ne 11, 3) := by decide +kernel
theorem u_137_71 {G : aG} {S : Nat → Bool} {f : Nat} {st : List Value} {ls : aL} {h : aH} {k n : Nat} {x y : Int32} (hs : S 71 = false) : WP 137 G S (f + 1) 71 ls (.int y :: .int x :: st) h k n = (if x = y then WP 137 G S f 74 ls st h k n else WP 137 G S f 82 ls st h k n) := by rw [wp_s dd_137_71 rfl hs]; exact br_iten (c := x = y)
theorem dd_137_74 : decode (mB 137) 74 = .ok (.iload_n 1, 1) := by decide +kernel
theorem u_137_74 {G : aG} {S : Nat → Bool} {f : Nat} {st : List Value} {ls : aL} {h : aH} {k n : Nat} (hs : S 74 = false) : WP 137 G S (f + 1) 74 ls st h k n = (oI (lget ls 1) (WP 137 G S f) 75 ls st h k n) := by rw [wp_s dd_137_74 rfl hs]; rfl
theorem dd_137_75 : decode (mB 137) 75 = .ok (.ifCond .le 7, 3) := by decide +kernel
theorem u_137_75 {G : aG} {S : Nat → Bool} {f : Nat} {st : List Value} {ls : aL} {h : aH} {k n : Nat} {x : Int32} (hs : S 75 = false) : WP 137 G S (f + 1) 75 ls (.int x :: st) h k n = (if x ≤ nI 0 then WP 137 G S f 82 ls st h k n else WP 137 G S f 78 ls st h k n) := by rw [wp_s dd_137_75 rfl hs]; exact br_ite (c := x ≤ nI 0)
theorem dd_137_78 : decode (mB 137) 78 = .ok (.iconst 1, 1) := by decide +kernel
theorem u_137_78 {G : aG} {S : Nat → Bool} {f : Nat} {st : List Value} {ls : aL} {h : aH} {k n : Nat} (hs : S 78 = false) : WP 137 G S (f + 1) 78 ls st h k n = (WP 137 G S f 79 ls (.int (nI 1) :: st) h k n) := by rw [wp_s dd_137_78 rfl hs]; rfl
theorem dd_137_79 : decode (mB 137) 79 = .ok (.goto 4, 3) := by decide +kernel
theorem u_137_79 {G : aG} {S : Nat → Bool} {f : Nat} {st : List Value} {ls : aL} {h : aH} {k n : Nat} (hs : S 79 = false) : WP 137 G S (f + 1) 79 ls st h k n = (WP 137 G S f 83 ls st h k n) := by rw [wp_s dd_137_79 rfl hs]; rfl
theorem dd_137_82 : decode (mB 137) 82 = .ok (.iconst 0, 1) := by decide +kernel
theorem u_137_82 {G : aG} {S : Nat → Bool} {f : Nat} {st : List Value} {ls : aL} {h : aH} {k n : Nat} (hs : S 82 = false) : WP 137 G S (f + 1) 82 ls st h k n = (WP 137 G S f 83 ls (.int (nI 0) :: st) h k n) := by rw [wp_s dd_137_82 rfl hs]; rfl
theorem dd_137_83 : decode (mB 137) 83 = .ok (.istore 6, 2) := by decide +kernel
theorem u_137_83 {G : aG} {S : Nat → Bool} {f : Nat} {st : List Value} {ls : aL} {h : aH} {k n : Nat} {x : Int32} (hs : S 83 = false) : WP 137 G S (f + 1) 83 ls (.int x :: st) h k n = (WP 137 G S f 85 (lput1 ls 6 (.int x)) st h k n) := by rw [wp_s dd_137_83 rfl hs]; rfl
theorem dd_137_85 : decode (mB 137) 85 = .ok (.iload 4, 2) := by decide +kernel
theorem u_137_85 {G : aG} {S : Nat → Bool} {f : Nat} {st : List Value} {ls : aL} {h : aH} {k n : Nat} (hs : S 85 = false) : WP 137 G S (f + 1) 85 ls st h k n = (oI (lget ls 4) (WP 137 G S f) 87 ls st h k n) := by rw [wp_s dd_137_85 rfl hs]; rfl
theorem dd_137_87 : decode (mB 137) 87 = .ok (.ifCond .ne 18, 3) := by decide +kernel
theorem u_137_87 {G : aG} {S : Nat → Bool} {f : Nat} {st : List Value} {ls : aL} {h : aH} {k n : Nat} {x : Int32} (hs : S 87 = false) : WP 137 G S (f + 1) 87 ls (.int x :: st) h k n = (if x = nI 0 then WP 137 G S f 90 ls st h k n else WP 137 G S f 105 ls st h k n) := by rw [wp_s dd_137_87 rfl hs]; exact br_iten (c := x = nI 0)
theorem dd_137_90 : decode (mB 137) 90 = .ok (.iload 5, 2) := by decide +kernel
theorem u_137_90 {G : aG} {S : Nat → Bool} {f : Nat} {st : List Value} {ls : aL} {h : aH} {k n : Nat} (hs : S 90 = false) : WP 137 G S (f + 1) 90 ls st h k n = (oI (lget ls 5) (WP 137 G S f) 92 ls st h k n) := by rw [wp_s dd_137_90 rfl hs]; rfl
theorem dd_137_92 : decode (mB 137) 92 = .ok (.ifCond .ne 13, 3) := by decide +kernel
theorem u_137_92 {G : aG} {S : Nat → Bool} {f : Nat} {st : List Value} {ls : aL} {h : aH} {k n : Nat} {x : Int32} (hs : S 92 = false) : WP 137 G S (f + 1) 92 ls (.int x :: st) h k n = (if x = nI 0 then WP 137 G S f 95 ls st h k n else WP 137 G S f 105 ls st h k n) := by rw [wp_s dd_137_92 rfl hs]; exact br_iten (c := x = nI 0)
theorem dd_137_95 : decode (mB 137) 95 = .ok (.iload 6, 2) := by decide +kernel
theorem u_137_95 {G : aG} {S : Nat → Bool} {f : Nat} {st : List Value} {ls : aL} {h : aH} {k n : Nat} (hs : S 95 = false) : WP 137 G S (f + 1) 95 ls st h k n = (oI (lget ls 6) (WP 137 G S f) 97 ls st h k n) := by rw [wp_s dd_137_95 rfl hs]; rfl
theorem dd_137_97 : decode (mB 137) 97 = .ok (.ifCond .ne 8, 3) := by decide +kernel
theorem u_137_97 {G : aG} {S : Nat → Bool} {f : Nat} {st : List Value} {ls : aL} {h : aH} {k n : Nat} {x : Int32} (hs : S 97 = false) : WP 137 G S (f + 1) 97 ls (.int x :: st) h k n = (if x = nI 0 then WP 137 G S f 100 ls st h k n else WP 137 G S f 105 ls st h k n) := by rw [wp_s dd_137_97 rfl hs]; exact br_iten (c := x = nI 0)
theorem dd_137_100 : decode (mB 137) 100 = .ok (.aload_n 0, 1) := by decide +kernel
theorem u_137_100 {G : aG} {S : Nat → Bool} {f : Nat} {st : List Value} {ls : aL} {h : aH} {k n : Nat} (hs : S 100 = false) : WP 137 G S (f + 1) 100 ls st h k n = (oA (lget ls 0) (WP 137 G S f) 101 ls st h k n) := by rw [wp_s dd_137_100 rfl hs]; rfl
theorem dd_137_101 : decode (mB 137) 101 = .ok (.getfield 120, 3) := by decide +kernel
theorem u_137_101 {G : aG} {S : Nat → Bool} {f : Nat} {st : List Value} {ls : aL} {h : aH} {k n : Nat} {a : Nat} (hs : S 101 = false) : WP 137 G S (f + 1) 101 ls (.ref a :: st) h k n = (oV (fget h a 10 17) (WP 137 G S f) 104 ls st h k n) := by rw [wp_s dd_137_101 rfl hs]; rfl
theorem dd_137_104 : decode (mB 137) 104 = .ok (.ireturn, 1) := by decide +kernel
theorem u_137_104 {G : aG} {S : Nat → Bool} {f : Nat} {ls : aL} {h : aH} {k n : Nat} {x : Int32} (hs : S 104 = false) : WP 137 G S (f + 1) 104 ls [.int x] h k n = (RET G (some (.int x)) h k n) := by rw [wp_s dd_137_104 rfl hs]; rfl
theorem dd_137_105 : decode (mB 137) 105 = .ok (.aload_n 0, 1) := by decide +kernel
theorem u_137_105 {G : aG} {S : Nat → Bool} {f : Nat} {st : List Value} {ls : aL} {h : aH} {k n : Nat} (hs : S 105 = false) : WP 137 G S (f + 1) 105 ls st h k n = (oA (lget ls 0) (WP 137 G S f) 106 ls st h k n) := by rw [wp_s dd_137_105 rfl hs]; rfl
theorem dd_137_106 : decode (mB 137) 106 = .ok (.dup, 1) := by decide +kernel
theorem u_137_106 {G : aG} {S : Nat → Bool} {f : Nat} {st : List Value} {ls : aL} {h : aH} {k n : Nat} {v : Value} (hs : S 106 = false) : WP 137 G S (f + 1) 106 ls (v :: st) h k n = (cond (cat1 v) (WP 137 G S f 107 ls (v :: v :: st) h k n) False) := by rw [wp_s dd_137_106 rfl hs]; rfl
theorem dd_137_107 : decode (mB 137) 107 = .ok (.getfield 206, 3) := by decide +kernel
theorem u_137_107 {G : aG} {S : Nat → Bool} {f : Nat} {st : List Value} {ls : aL} {h : aH} {k n : Nat} {a : Nat} (hs : S 107 = false) : WP 137 G S (f + 1) 107 ls (.ref a :: st) h k n = (oV (fget h a 10 27) (WP 137 G S f) 110 ls st h k n) := by rw [wp_s dd_137_107 rfl hs]; rfl
theorem dd_137_110 : decode (mB 137) 110 = .ok (.iload 4, 2) := by decide +kernel
theorem u_137_110 {G : aG} {S : Nat → Bool} {f : Nat} {st : List Value} {ls : aL} {h : aH} {k n : Nat} (hs : S 110 = false) : WP 137 G S (f + 1) 110 ls st h k n = (oI (lget ls 4) (WP 137 G S f) 112 ls st h k n) := by rw [wp_s dd_137_110 rfl hs]; rfl
theorem dd_137_112 : decode (mB 137) 112 = .ok (.ifCond .eq 7, 3) := by decide +kernel
theorem u_137_112 {G : aG} {S : Nat → Bool} {f : Nat} {st : List Value} {ls : aL} {h : aH} {k n : Nat} {x : Int32} (hs : S 112 = false) : WP 137 G S (f + 1) 112 ls (.int x :: st) h k n = (if x = nI 0 then WP 137 G S f 119 ls st h k n else WP 137 G S f 115 ls st h k n) := by rw [wp_s dd_137_112 rfl hs]; exact br_ite (c := x = nI 0)
theorem dd_137_115 : decode (mB 137) 115 = .ok (.iconst 1, 1) := by decide +kernel
theorem u_137_115 {G : aG} {S : Nat → Bool} {f : Nat} {st : List Value} {ls : aL} {h : aH} {k n : Nat} (hs : S 115 = false) : WP 137 G S (f + 1) 115 ls st h k n = (WP 137 G S f 116 ls (.int (nI 1) :: st) h k n) := by rw [wp_s dd_137_115 rfl hs]; rfl
theorem dd_137_116 : decode (mB 137) 116 = .ok (.goto 4, 3) := by decide +kernel
theorem u_137_116 {G : aG} {S : Nat → Bool} {f : Nat} {st : List Value} {ls : aL} {h : aH} {k n : Nat} (hs : S 116 = false) : WP 137 G S (f + 1) 116 ls st h k n = (WP 137 G S f 120 ls st h k n) := by rw [wp_s dd_137_116 rfl hs]; rfl
theorem dd_137_119 : decode (mB 137) 119 = .ok (.iconst 0, 1) := by decide +kernel
theorem u_137_119 {G : aG} {S : Nat → Bool} {f : Nat} {st : List Value} {ls : aL} {h : aH} {k n : Nat} (hs : S 119 = false) : WP 137 G S (f + 1) 119 ls st h k n = (WP 137 G S f 120 ls (.int (nI 0) :: st) h k n) := by rw [wp_s dd_137_119 rfl hs]; rfl
theorem dd_137_120 : decode (mB 137) 120 = .ok (.iadd, 1) := by decide +kernel
theorem u_137_120 {G : aG} {S : Nat → Bool} {f : Nat} {st : List Value} {ls : aL} {h : aH} {k n : Nat} {x y : Int32} (hs : S 120 = false) : WP 137 G S (f + 1) 120 ls (.int y :: .int x :: st) h k n = (WP 137 G S f 121 ls (.int (x + y) :: st) h k n) := by rw [wp_s dd_137_120 rfl hs]; rfl
theorem dd_137_121 : decode (mB 137) 121 = .ok (.putfield 206, 3) := by decide +kernel
theorem u_137_121 {G : aG} {S : Nat → Bool} {f : Nat} {st : List Value} {ls : aL} {h : aH} {k n : Nat} {a : Nat} {x : Int32} (hs : S 121 = false) : WP 137 G S (f + 1) 121 ls (.int x :: .ref a :: st) h k n = (oH (fput h a 10 27 (.int x)) (WP 137 G S f) 124 ls st k n) := by rw [wp_s dd_137_121 rfl hs]; rfl
theorem dd_137_124 : decode (mB 137) 124 = .ok (.aload_n 0, 1) := by decide +kernel
theorem u_137_124 {G : aG} {S : Nat → Bool} {f : Nat} {st : List Value} {ls : aL} {h : aH} {k n : Nat} (hs : S 124 = false) : WP 137 G S (f + 1) 124 ls st h k n = (oA (lget ls 0) (WP 137 G S f) 125 ls st h k n) := by rw [wp_s dd_137_124 rfl hs]; rfl
theorem dd_137_125 : decode (mB 137) 125 = .ok (.iload 4, 2) := by decide +kernel
theorem u_137_125 {G : aG} {S : Nat → Bool} {f : Nat} {st : List Value} {ls : aL} {h : aH} {k n : Nat} (hs : S 125 = false) : WP 137 G S (f + 1) 125 ls st h k n = (oI (lget ls 4) (WP 137 G S f) 127 ls st h k n) := by rw [wp_s dd_137_125 rfl hs]; rfl
theorem dd_137_127 : decode (mB 137) 127 = .ok (.ifCond .eq 19, 3) := by decide +kernel
theorem u_137_127 {G : aG} {S : Nat → Bool} {f : Nat} {st : List Value} {ls : aL} {h : aH} {k n : Nat} {x : Int32} (hs : S 127 = false) : WP 137 G S (f + 1) 127 ls (.int x :: st) h k n = (if x = nI 0 then WP 137 G S f 146 ls st h k n else WP 137 G S f 130 ls st h k n) := by rw [wp_s dd_137_127 rfl hs]; exact br_ite (c := x = nI 0)
theorem dd_137_130 : decode (mB 137) 130 = .ok (.iload_n 1, 1) := by decide +kernel
theorem u_137_130 {G : aG} {S : Nat → Bool} {f : Nat} {st : List Value} {ls : aL} {h : aH} {k n : Nat} (hs : S 130 = false) : WP 137 G S (f + 1) 130 ls st h k n = (oI (lget ls 1) (WP 137 G S f) 131 ls st h k n) := by rw [wp_s dd_137_130 rfl hs]; rfl
theorem dd_137_131 : decode (mB 137) 131 = .ok (.iconst 1, 1) := by decide +kernel
theorem u_137_131 {G : aG} {S : Nat → Bool} {f : Nat} {st : List Value} {ls : aL} {h : aH} {k n : Nat} (hs : S 131 = false) : WP 137 G S (f + 1) 131 ls st h k n = (WP 137 G S f 132 ls (.int (nI 1) :: st) h k n) := by rw [wp_s dd_137_131 rfl hs]; rfl
theorem dd_137_132 : decode (mB 137) 132 = .ok (.iadd, 1) := by decide +kernel
theorem u_137_132 {G : aG} {S : Nat → Bool} {f : Nat} {st : List Value} {ls : aL} {h : aH} {k n : Nat} {x y : Int32} (hs : S 132 = false) : WP 137 G S (f + 1) 132 ls (.int y :: .int x :: st) h k n = (WP 137 G S f 133 ls (.int (x + y) :: st) h k n) := by rw [wp_s dd_137_132 rfl hs]; rfl
theorem dd_137_133 : decode (mB 137) 133 = .ok (.aload_n 0, 1) := by decide +kernel
theorem u_137_133 {G : aG} {S : Nat → Bool} {f : Nat} {st : List Value} {ls : aL} {h : aH} {k n : Nat} (hs : S 133 = false) : WP 137 G S (f + 1) 133 ls st h k n = (oA (lget ls 0) (WP 137 G S f) 134 ls st h k n) := by rw [wp_s dd_137_133 rfl hs]; rfl
theorem dd_137_134 : decode (mB 137) 134 = .ok (.getfield 209, 3) := by decide +kernel
theorem u_137_134 {G : aG} {S : Nat → Bool} {f : Nat} {st : List Value} {ls : aL} {h : aH} {k n : Nat} {a : Nat} (hs : S 134 = false) : WP 137 G S (f + 1) 134 ls (.ref a :: st) h k n = (oV (fget h a 10 28) (WP 137 G S f) 137 ls st h k n) := by rw [wp_s dd_137_134 rfl hs]; rfl
theorem dd_137_137 : decode (mB 137) 137 = .ok (.if_icmp .le 9, 3) := by decide +kernel
theorem u_137_137 {G : aG} {S : Nat → Bool} {f : Nat} {st : List Value} {ls : aL} {h : aH} {k n : Nat} {x y : Int32} (hs : S 137 = false) : WP 137 G S (f + 1) 137 ls (.int y :: .int x :: st) h k n = (if x ≤ y then WP 137 G S f 146 ls st h k n else WP 137 G S f 140 ls st h k n) := by rw [wp_s dd_137_137 rfl hs]; exact br_ite (c := x ≤ y)
theorem dd_137_140 : decode (mB 137) 140 = .ok (.iload_n 1, 1) := by decide +kernel
theorem u_137_140 {G : aG} {S : Nat → Bool} {f : Nat} {st : List Value} {ls : aL} {h : aH} {k n : Nat} (hs : S 140 = false) : WP 137 G S (f + 1) 140 ls st h k n = (oI (lget ls 1) (WP 137 G S f) 141 ls st h k n) := by rw [wp_s dd_137_140 rfl hs]; rfl
theorem dd_137_141 : decode (mB 137) 141 = .ok (.iconst 1, 1) := by decide +kernel
theorem u_137_141 {G : aG} {S : Nat → Bool} {f : Nat} {st : List Value} {ls : aL} {h : aH} {k n : Nat} (hs : S 141 = false) : WP 137 G S (f + 1) 141 ls st h k n = (WP 137 G S f 142 ls (.int (nI 1) :: st) h k n) := by rw [wp_s dd_137_141 rfl hs]; rfl
theorem dd_137_142 : decode (mB 137) 142 = .ok (.iadd, 1) := by decide +kernel
theorem u_137_142 {G : aG} {S : Nat → Bool} {f : Nat} {st : List Value} {ls : aL} {h : aH} {k n : Nat} {x y : Int32} (hs : S 142 = false) : WP 137 G S (f + 1) 142 ls (.int y :: .int x :: st) h k n = (WP 137 G S f 143 ls (.int (x + y) :: st) h k n) := by rw [wp_s dd_137_142 rfl hs]; rfl
theorem dd_137_143 : decode (mB 137) 143 = .ok (.goto 7, 3) := by decide +kernel
theorem u_137_143 {G : aG} {S : Nat → Bool} {f : Nat} {st : List Value} {ls : aL} {h : aH} {k n : Nat} (hs : S 143 = false) : WP 137 G S (f + 1) 143 ls st h k n = (WP 137 G S f 150 ls st h k n) := by rw [wp_s dd_137_143 rfl hs]; rfl
theorem dd_137_146 : decode (mB 137) 146 = .ok (.aload_n 0, 1) := by decide +kernel
theorem u_137_146 {G : aG} {S : Nat → Bool} {f : Nat} {st : List Value} {ls : aL} {h : aH} {k n : Nat} (hs : S 146 = false) : WP 137 G S (f + 1) 146 ls st h k n = (oA (lget ls 0) (WP 137 G S f) 147 ls st h k n) := by rw [wp_s dd_137_146 rfl hs]; rfl
theorem dd_137_147 : decode (mB 137) 147 = .ok (.getfield 209, 3) := by decide +kernel
theorem u_137_147 {G : aG} {S : Nat → Bool} {f : Nat} {st : List Value} {ls : aL} {h : aH} {k n : Nat} {a : Nat} (hs : S 147 = false) : WP 137 G S (f + 1) 147 ls (.ref a :: st) h k n = (oV (fget h a 10 28) (WP 137 G S f) 150 ls st h k n) := by rw [wp_s dd_137_147 rfl hs]; rfl
theorem dd_137_150 : decode (mB 137) 150 = .ok (.putfield 209, 3) := by decide +kernel
theorem u_137_150 {G : aG} {S : Nat → Bool} {f : Nat} {st : List Value} {ls : aL} {h : aH} {k n : Nat} {a : Nat} {x : Int32} (hs : S 150 = false) : WP 137 G S (f + 1) 150 ls (.int x :: .ref a :: st) h k n = (oH (fput h a 10 28 (.int x)) (WP 137 G S f) 153 ls st k n) := by rw [wp_s dd_137_150 rfl hs]; rfl
theorem dd_137_153 : decode (mB 137) 153 = .ok (.iload_n 1, 1) := by decide +kernel
theorem u_137_153 {G : aG} {S : Nat → Bool} {f : Nat} {st : List Value} {ls : aL} {h : aH} {k n : Nat} (hs : S 153 = false) : WP 137 G S (f + 1) 153 ls st h k n = (oI (lget ls 1) (WP 137 G S f) 154 ls st h k n) := by rw [wp_s dd_137_153 rfl hs]; rfl
theorem dd_137_154 : decode (mB 137) 154 = .ok (.iload 5, 2) := by decide +kernel
theorem u_137_154 {G : aG} {S : Nat → Bool} {f : Nat} {st : List Value} {ls : aL} {h : aH} {k n : Nat} (hs : S 154 = false) : WP 137 G S (f + 1) 154 ls st h k n = (oI (lget ls 5) (WP 137 G S f) 156 ls st h k n) := by rw [wp_s dd_137_154 rfl hs]; rfl
theorem dd_137_156 : decode (mB 137) 156 = .ok (.ifCond .eq 7, 3) := by decide +kernel
theorem u_137_156 {G : aG} {S : Nat → Bool} {f : Nat} {st : List Value} {ls : aL} {h : aH} {k n : Nat} {x : Int32} (hs : S 156 = false) : WP 137 G S (f + 1) 156 ls (.int x :: st) h k n = (if x = nI 0 then WP 137 G S f 163 ls st h k n else WP 137 G S f 159 ls st h k n) := by rw [wp_s dd_137_156 rfl hs]; exact br_ite (c := x = nI 0)
theorem dd_137_159 : decode (mB 137) 159 = .ok (.iconst 1, 1) := by decide +kernel
theorem u_137_159 {G : aG} {S : Nat → Bool} {f : Nat} {st : List Value} {ls : aL} {h : aH} {k n : Nat} (hs : S 159 = false) : WP 137 G S (f + 1) 159 ls st h k n = (WP 137 G S f 160 ls (.int (nI 1) :: st) h k n) := by rw [wp_s dd_137_159 rfl hs]; rfl
theorem dd_137_160 : decode (mB 137) 160 = .ok (.goto 13, 3) := by decide +kernel
theorem u_137_160 {G : aG} {S : Nat → Bool} {f : Nat} {st : List Value} {ls : aL} {h : aH} {k n : Nat} (hs : S 160 = false) : WP 137 G S (f + 1) 160 ls st h k n = (WP 137 G S f 173 ls st h k n) := by rw [wp_s dd_137_160 rfl hs]; rfl
theorem dd_137_163 : decode (mB 137) 163 = .ok (.iload 6, 2) := by decide +kernel
theorem u_137_163 {G : aG} {S : Nat → Bool} {f : Nat} {st : List Value} {ls : aL} {h : aH} {k n : Nat} (hs : S 163 = false) : WP 137 G S (f + 1) 163 ls st h k n = (oI (lget ls 6) (WP 137 G S f) 165 ls st h k n) := by rw [wp_s dd_137_163 rfl hs]; rfl
theorem dd_137_165 : decode (mB 137) 165 = .ok (.ifCond .eq 7, 3) := by decide +kernel
theorem u_137_165 {G : aG} {S : Nat → Bool} {f : Nat} {st : List Value} {ls : aL} {h : aH} {k n : Nat} {x : Int32} (hs : S 165 = false) : WP 137 G S (f + 1) 165 ls (.int x :: st) h k n = (if x = nI 0 then WP 137 G S f 172 ls st h k n else WP 137 G S f 168 ls st h k n) := by rw [wp_s dd_137_165 rfl hs]; exact br_ite (c := x = nI 0)
theorem dd_137_168 : decode (mB 137) 168 = .ok (.iconst (-1), 1) := by decide +kernel
theorem u_137_168 {G : aG} {S : Nat → Bool} {f : Nat} {st : List Value} {ls : aL} {h : aH} {k n : Nat} (hs : S 168 = false) : WP 137 G S (f + 1) 168 ls st h k n = (WP 137 G S f 169 ls (.int (-1) :: st) h k n) := by rw [wp_s dd_137_168 rfl hs]; rfl
theorem dd_137_169 : decode (mB 137) 169 = .ok (.goto 4, 3) := by decide +kernel
theorem u_137_169 {G : aG} {S : Nat → Bool} {f : Nat} {st : List Value} {ls : aL} {h : aH} {k n : Nat} (hs : S 169 = false) : WP 137 G S (f + 1) 169 ls st h k n = (WP 137 G S f 173 ls st h k n) := by rw [wp_s dd_137_169 rfl hs]; rfl
theorem dd_137_172 : decode (mB 137) 172 = .ok (.iconst 0, 1) := by decide +kernel
theorem u_137_172 {G : aG} {S : Nat → Bool} {f : Nat} {st : List Value} {ls : aL} {h : aH} {k n : Nat} (hs : S 172 = false) : WP 137 G S (f + 1) 172 ls st h k n = (WP 137 G S f 173 ls (.int (nI 0) :: st) h k n) := by rw [wp_s dd_137_172 rfl hs]; rfl
theorem dd_137_173 : decode (mB 137) 173 = .ok (.iadd, 1) := by decide +kernel
theorem u_137_173 {G : aG} {S : Nat → Bool} {f : Nat} {st : List Value} {ls : aL} {h : aH} {k n : Nat} {x y : Int32} (hs : S 173 = false) : WP 137 G S (f + 1) 173 ls (.int y :: .int x :: st) h k n = (WP 137 G S f 174 ls (.int (x + y) :: st) h k n) := by rw [wp_s dd_137_173 rfl hs]; rfl
theorem dd_137_174 : decode (mB 137) 174 = .ok (.istore_n 1, 1) := by decide +kernel
theorem u_137_174 {G : aG} {S : Nat → Bool} {f : Nat} {st : List Value} {ls : aL} {h : aH} {k n : Nat} {x : Int32} (hs : S 174 = false) : WP 137 G S (f + 1) 174 ls (.int x :: st) h k n = (WP 137 G S f 175 (lput1 ls 1 (.int x)) st h k n) := by rw [wp_s dd_137_174 rfl hs]; rfl
theorem dd_137_175 : decode (mB 137) 175 = .ok (.iload 4, 2) := by decide +kernel
theorem u_137_175 {G : aG} {S : Nat → Bool} {f : Nat} {st : List Value} {ls : aL} {h : aH} {k n : Nat} (hs : S 175 = false) : WP 137 G S (f + 1) 175 ls st h k n = (oI (lget ls 4) (WP 137 G S f) 177 ls st h k n) := by rw [wp_s dd_137_175 rfl hs]; rfl
theorem dd_137_177 : decode (mB 137) 177 = .ok (.istore_n 2, 1) := by decide +kernel
theorem u_137_177 {G : aG} {S : Nat → Bool} {f : Nat} {st : List Value} {ls : aL} {h : aH} {k n : Nat} {x : Int32} (hs : S 177 = false) : WP 137 G S (f + 1) 177 ls (.int x :: st) h k n = (WP 137 G S f 178 (lput1 ls 2 (.int x)) st h k n) := by rw [wp_s dd_137_177 rfl hs]; rfl
theorem dd_137_178 : decode (mB 137) 178 = .ok (.aload_n 0, 1) := by decide +kernel
theorem u_137_178 {G : aG} {S : Nat → Bool} {f : Nat} {st : List Value} {ls : aL} {h : aH} {k n : Nat} (hs : S 178 = false) : WP 137 G S (f + 1) 178 ls st h k n = (oA (lget ls 0) (WP 137 G S f) 179 ls st h k n) := by rw [wp_s dd_137_178 rfl hs]; rfl
theorem dd_137_179 : decode (mB 137) 179 = .ok (.dup, 1) := by decide +kernel
theorem u_137_179 {G : aG} {S : Nat → Bool} {f : Nat} {st : List Value} {ls : aL} {h : aH} {k n : Nat} {v : Value} (hs : S 179 = false) : WP 137 G S (f + 1) 179 ls (v :: st) h k n = (cond (cat1 v) (WP 137 G S f 180 ls (v :: v :: st) h k n) False) := by rw [wp_s dd_137_179 rfl hs]; rfl
theorem dd_137_180 : decode (mB 137) 180 = .ok (.getfield 120, 3) := by decide +kernel
theorem u_137_180 {G : aG} {S : Nat → Bool} {f : Nat} {st : List Value} {ls : aL} {h : aH} {k n : Nat} {a : Nat} (hs : S 180 = false) : WP 137 G S (f + 1) 180 ls (.ref a :: st) h k n = (oV (fget h a 10 17) (WP 137 G S f) 183 ls st h k n) := by rw [wp_s dd_137_180 rfl hs]; rfl
theorem dd_137_183 : decode (mB 137) 183 = .ok (.iconst 1, 1) := by decide +kernel
theorem u_137_183 {G : aG} {S : Nat → Bool} {f : Nat} {st : List Value} {ls : aL} {h : aH} {k n : Nat} (hs : S 183 = false) : WP 137 G S (f + 1) 183 ls st h k n = (WP 137 G S f 184 ls (.int (nI 1) :: st) h k n) := by rw [wp_s dd_137_183 rfl hs]; rfl
theorem dd_137_184 : decode (mB 137) 184 = .ok (.iadd, 1) := by decide +kernel
theorem u_137_184 {G : aG} {S : Nat → Bool} {f : Nat} {st : List Value} {ls : aL} {h : aH} {k n : Nat} {x y : Int32} (hs : S 184 = false) : WP 137 G S (f + 1) 184 ls (.int y :: .int x :: st) h k n = (WP 137 G S f 185 ls (.int (x + y) :: st) h k n) := by rw [wp_s dd_137_184 rfl hs]; rfl
theorem dd_137_185 : decode (mB 137) 185 = .ok (.putfield 120, 3) := by decide +kernel
theorem u_137_185 {G : aG} {S : Nat → Bool} {f : Nat} {st : List Value} {ls : aL} {h : aH} {k n : Nat} {a : Nat} {x : Int32} (hs : S 185 = false) : WP 137 G S (f + 1) 185 ls (.int x :: .ref a :: st) h k n = (oH (fput h a 10 17 (.int x)) (WP 137 G S f) 188 ls st k n) := by rw [wp_s dd_137_185 rfl hs]; rfl
theorem dd_137_188 : decode (mB 137) 188 = .ok (.goto (-169), 3) := by decide +kernel
theorem u_137_188 {G : aG} {S : Nat → Bool} {f : Nat} {st : List Value} {ls : aL} {h : aH} {k n : Nat} (hs : S 188 = false) : WP 137 G S (f + 1) 188 ls st h k n = (WP 137 G S f 19 ls st h k n) := by rw [wp_s dd_137_188 rfl hs]; rfl
theorem dd_137_191 : decode (mB 137) 191 = .ok (.iload_n 1, 1) := by decide +kernel
theorem u_137_191 {G : aG} {S : Nat → Bool} {f : Nat} {st : List Value} {ls : aL} {h : aH} {k n : Nat} (hs : S 191 = false) : WP 137 G S (f + 1) 191 ls st h k n = (oI (lget ls 1) (WP 137 G S f) 192 ls st h k n) := by rw [wp_s dd_137_191 rfl hs]; rfl
theorem dd_137_192 : decode (mB 137) 192 = .ok (.ifCond .le 10, 3) := by decide +kernel
theorem u_137_192 {G : aG} {S : Nat → Bool} {f : Nat} {st : List Value} {ls : aL} {h : aH} {k n : Nat} {x : Int32} (hs : S 192 = false) : WP 137 G S (f + 1) 192 ls (.int x :: st) h k n = (if x ≤ nI 0 then WP 137 G S f 202 ls st h k n else WP 137 G S f 195 ls st h k n) := by rw [wp_s dd_137_192 rfl hs]; exact br_ite (c := x ≤ nI 0)
theorem dd_137_195 : decode (mB 137) 195 = .ok (.aload_n 0, 1) := by decide +kernel
theorem u_137_195 {G : aG} {S : Nat → Bool} {f : Nat} {st : List Value} {ls : aL} {h : aH} {k n : Nat} (hs : S 195 = false) : WP 137 G S (f + 1) 195 ls st h k n = (oA (lget ls 0) (WP 137 G S f) 196 ls st h k n) := by rw [wp_s dd_137_195 rfl hs]; rfl
theorem dd_137_196 : decode (mB 137) 196 = .ok (.getfield 117, 3) := by decide +kernel
theorem u_137_196 {G : aG} {S : Nat → Bool} {f : Nat} {st : List Value} {ls : aL} {h : aH} {k n : Nat} {a : Nat} (hs : S 196 = false) : WP 137 G S (f + 1) 196 ls (.ref a :: st) h k n = (oV (fget h a 10 16) (WP 137 G S f) 199 ls st h k n) := by rw [wp_s dd_137_196 rfl hs]; rfl
theorem dd_137_199 : decode (mB 137) 199 = .ok (.goto 4, 3) := by decide +kernel
theorem u_137_199 {G : aG} {S : Nat → Bool} {f : Nat} {st : List Value} {ls : aL} {h : aH} {k n : Nat} (hs : S 199 = false) : WP 137 G S (f + 1) 199 ls st h k n = (WP 137 G S f 203 ls st h k n) := by rw [wp_s dd_137_199 rfl hs]; rfl
theorem dd_137_202 : decode (mB 137) 202 = .ok (.iconst (-1), 1) := by decide +kernel
theorem u_137_202 {G : aG} {S : Nat → Bool} {f : Nat} {st : List Value} {ls : aL} {h : aH} {k n : Nat} (hs : S 202 = false) : WP 137 G S (f + 1) 202 ls st h k n = (WP 137 G S f 203 ls (.int (-1) :: st) h k n) := by rw [wp_s dd_137_202 rfl hs]; rfl
theorem dd_137_203 : decode (mB 137) 203 = .ok (.ireturn, 1) := by decide +kernel
theorem u_137_203 {G : aG} {S : Nat → Bool} {f : Nat} {ls : aL} {h : aH} {k n : Nat} {x : Int32} (hs : S 203 = false) : WP 137 G S (f + 1) 203 ls [.int x] h k n = (RET G (some (.int x)) h k n) := by rw [wp_s dd_137_203 rfl hs]; rfl
theorem dd_138_0 : decode (mB 138) 0 = .ok (.aload_n 0, 1) := by decide +kernel
theorem u_138_0 {G : aG} {S : Nat → Bool} {f : Nat} {st : List Value} {ls : aL} {h : aH} {k n : Nat} (hs : S 0 = false) : WP 138 G S (f + 1) 0 ls st h k n = (oA (lget ls 0) (WP 138 G S f) 1 ls st h k n) := by rw [wp_s dd_138_0 rfl hs]; rfl
theorem dd_138_1 : decode (mB 138) 1 = .ok (.iconst (-1), 1) := by decide +kernel
theorem u_138_1 {G : aG} {S : Nat → Bool} {f : Nat} {st : List Value} {ls : aL} {h : aH} {k n : Nat} (hs : S 1 = false) : WP 138 G S (f + 1) 1 ls st h k n = (WP 138 G S f 2 ls (.int (-1) :: st) h k n) := by rw [wp_s dd_138_1 rfl hs]; rfl
theorem dd_138_2 : decode (mB 138) 2 = .ok (.putfield 212, 3) := by decide +kernel
theorem u_138_2 {G : aG} {S : Nat → Bool} {f : Nat} {st : List Value} {ls : aL} {h : aH} {k n : Nat} {a : Nat} {x : Int32} (hs : S 2 = false) : WP 138 G S (f + 1) 2 ls (.int x :: .ref a :: st) h k n = (oH (fput h a 10 30 (.int x)) (WP 138 G S f) 5 ls st k n) := by rw [wp_s dd_138_2 rfl hs]; rfl
theorem dd_138_5 : decode (mB 138) 5 = .ok (.aload_n 0, 1) := by decide +kernel
theorem u_138_5 {G : aG} {S : Nat → Bool} {f : Nat} {st : List Value} {ls : aL} {h : aH} {k n : Nat} (hs : S 5 = false) : WP 138 G S (f + 1) 5 ls st h k n = (oA (lget ls 0) (WP 138 G S f) 6 ls st h k n) := by rw [wp_s dd_138_5 rfl hs]; rfl
theorem dd_138_6 : decode (mB 138) 6 = .ok (.iconst 0, 1) := by decide +kernel
theorem u_138_6 {G : aG} {S : Nat → Bool} {f : Nat} {st : List Value} {ls : aL} {h : aH} {k n : Nat} (hs : S 6 = false) : WP 138 G S (f + 1) 6 ls st h k n = (WP 138 G S f 7 ls (.int (nI 0) :: st) h k n) := by rw [wp_s dd_138_6 rfl hs]; rfl
theorem dd_138_7 : decode (mB 138) 7 = .ok (.putfield 215, 3) := by decide +kernel
theorem u_138_7 {G : aG} {S : Nat → Bool} {f : Nat} {st : List Value} {ls : aL} {h : aH} {k n : Nat} {a : Nat} {x : Int32} (hs : S 7 = false) : WP 138 G S (f + 1) 7 ls (.int x :: .ref a :: st) h k n = (oH (fput h a 10 31 (.int x)) (WP 138 G S f) 10 ls st k n) := by rw [wp_s dd_138_7 rfl hs]; rfl
theorem dd_138_10 : decode (mB 138) 10 = .ok (.aload_n 0, 1) := by decide +kernel
theorem u_138_10 {G : aG} {S : Nat → Bool} {f : Nat} {st : List Value} {ls : aL} {h : aH} {k n : Nat} (hs : S 10 = false) : WP 138 G S (f + 1) 10 ls st h k n = (oA (lget ls 0) (WP 138 G S f) 11 ls st h k n) := by rw [wp_s dd_138_10 rfl hs]; rfl
theorem dd_138_11 : decode (mB 138) 11 = .ok (.iconst 1, 1) := by decide +kernel
theorem u_138_11 {G : aG} {S : Nat → Bool} {f : Nat} {st : List Value} {ls : aL} {h : aH} {k n : Nat} (hs : S 11 = false) : WP 138 G S (f + 1) 11 ls st h k n = (WP 138 G S f 12 ls (.int (nI 1) :: st) h k n) := by rw [wp_s dd_138_11 rfl hs]; rfl
theorem dd_138_12 : decode (mB 138) 12 = .ok (.putfield 218, 3) := by decide +kernel
theorem u_138_12 {G : aG} {S : Nat → Bool} {f : Nat} {st : List Value} {ls : aL} {h : aH} {k n : Nat} {a : Nat} {x : Int32} (hs : S 12 = false) : WP 138 G S (f + 1) 12 ls (.int x :: .ref a :: st) h k n = (oH (fput h a 10 32 (.int x)) (WP 138 G S f) 15 ls st k n) := by rw [wp_s dd_138_12 rfl hs]; rfl
theorem dd_138_15 : decode (mB 138) 15 = .ok (.aload_n 0, 1) := by decide +kernel
theorem u_138_15 {G : aG} {S : Nat → Bool} {f : Nat} {st : List Value} {ls : aL} {h : aH} {k n : Nat} (hs : S 15 = false) : WP 138 G S (f + 1) 15 ls st h k n = (oA (lget ls 0) (WP 138 G S f) 16 ls st h k n) := by rw [wp_s dd_138_15 rfl hs]; rfl
theorem dd_138_16 : decode (mB 138) 16 = .ok (.iconst 0, 1) := by decide +kernel
theorem u_138_16 {G : aG} {S : Nat → Bool} {f : Nat} {st : List Value} {ls : aL} {h : aH} {k n : Nat} (hs : S 16 = false) : WP 138 G S (f + 1) 16 ls st h k n = (WP 138 G S f 17 ls (.int (nI 0) :: st) h k n) := by rw [wp_s dd_138_16 rfl hs]; rfl
theorem dd_138_17 : decode (mB 138) 17 = .ok (.putfield 120, 3) := by decide +kernel
theorem u_138_17 {G : aG} {S : Nat → Bool} {f : Nat} {st : List Value} {ls : aL} {h : aH} {k n : Nat} {a : Nat} {x : Int32} (hs : S 17 = false) : WP 138 G S (f + 1) 17 ls (.int x :: .ref a :: st) h k n = (oH (fput h a 10 17 (.int x)) (WP 138 G S f) 20 ls st k n) := by rw [wp_s dd_138_17 rfl hs]; rfl
theorem dd_138_20 : decode (mB 138) 20 = .ok (.iconst 0, 1) := by decide +kernel
theorem u_138_20 {G : aG} {S : Nat → Bool} {f : Nat} {st : List Value} {ls : aL} {h : aH} {k n : Nat} (hs : S 20 = false) : WP 138 G S (f + 1) 20 ls st h k n = (WP 138 G S f 21 ls (.int (nI 0) :: st) h k n) := by rw [wp_s dd_138_20 rfl hs]; rfl
theorem dd_138_21 : decode (mB 138) 21 = .ok (.istore_n 1, 1) := by decide +kernel
theorem u_138_21 {G : aG} {S : Nat → Bool} {f : Nat} {st : List Value} {ls : aL} {h : aH} {k n : Nat} {x : Int32} (hs : S 21 = false) : WP 138 G S (f + 1) 21 ls (.int x :: st) h k n = (WP 138 G S f 22 (lput1 ls 1 (.int x)) st h k n) := by rw [wp_s dd_138_21 rfl hs]; rfl
theorem dd_138_22 : decode (mB 138) 22 = .ok (.aload_n 0, 1) := by decide +kernel
theorem u_138_22 {G : aG} {S : Nat → Bool} {f : Nat} {st : List Value} {ls : aL} {h : aH} {k n : Nat} (hs : S 22 = false) : WP 138 G S (f + 1) 22 ls st h k n = (oA (lget ls 0) (WP 138 G S f) 23 ls st h k n) := by rw [wp_s dd_138_22 rfl hs]; rfl
theorem dd_138_23 : decode (mB 138) 23 = .ok (.getfield 67, 3) := by decide +kernel
theorem u_138_23 {G : aG} {S : Nat → Bool} {f : Nat} {st : List Value} {ls : aL} {h : aH} {k n : Nat} {a : Nat} (hs : S 23 = false) : WP 138 G S (f + 1) 23 ls (.ref a :: st) h k n = (oV (fget h a 10 29) (WP 138 G S f) 26 ls st h k n) := by rw [wp_s dd_138_23 rfl hs]; rfl
theorem dd_138_26 : decode (mB 138) 26 = .ok (.iconst 0, 1) := by decide +kernel
theorem u_138_26 {G : aG} {S : Nat → Bool} {f : Nat} {st : List Value} {ls : aL} {h : aH} {k n : Nat} (hs : S 26 = false) : WP 138 G S (f + 1) 26 ls st h k n = (WP 138 G S f 27 ls (.int (nI 0) :: st) h k n) := by rw [wp_s dd_138_26 rfl hs]; rfl
theorem dd_138_27 : decode (mB 138) 27 = .ok (.bipush 8, 2) := by decide +kernel
theorem u_138_27 {G : aG} {S : Nat → Bool} {f : Nat} {st : List Value} {ls : aL} {h : aH} {k n : Nat} (hs : S 27 = false) : WP 138 G S (f + 1) 27 ls st h k n = (WP 138 G S f 29 ls (.int (nI 8) :: st) h k n) := by rw [wp_s dd_138_27 rfl hs]; rfl
theorem dd_138_29 : decode (mB 138) 29 = .ok (.iastore, 1) := by decide +kernel
theorem u_138_29 {G : aG} {S : Nat → Bool} {f : Nat} {st : List Value} {ls : aL} {h : aH} {k n : Nat} {i x : Int32} {a : Nat} (hs : S 29 = false) : WP 138 G S (f + 1) 29 ls (.int x :: .int i :: .ref a :: st) h k n = (oIst (iget h a 1) a i x (WP 138 G S f) 30 ls st h k n) := by rw [wp_s dd_138_29 rfl hs]; rfl
theorem dd_138_30 : decode (mB 138) 30 = .ok (.aload_n 0, 1) := by decide +kernel
theorem u_138_30 {G : aG} {S : Nat → Bool} {f : Nat} {st : List Value} {ls : aL} {h : aH} {k n : Nat} (hs : S 30 = false) : WP 138 G S (f + 1) 30 ls st h k n = (oA (lget ls 0) (WP 138 G S f) 31 ls st h k n) := by rw [wp_s dd_138_30 rfl hs]; rfl
theorem dd_138_31 : decode (mB 138) 31 = .ok (.iconst 0, 1) := by decide +kernel
theorem u_138_31 {G : aG} {S : Nat → Bool} {f : Nat} {st : List Value} {ls : aL} {h : aH} {k n : Nat} (hs : S 31 = false) : WP 138 G S (f + 1) 31 ls st h k n = (WP 138 G S f 32 ls (.int (nI 0) :: st) h k n) := by rw [wp_s dd_138_31 rfl hs]; rfl
theorem dd_138_32 : decode (mB 138) 32 = .ok (.invokevirtual 186, 3) := by decide +kernel
theorem u_138_32 {G : aG} {S : Nat → Bool} {f : Nat} {st : List Value} {ls : aL} {h : aH} {k n : Nat} {v1 : Value} {b : Nat} (hs : S 32 = false) : WP 138 G S (f + 1) 32 ls (v1 :: .ref b :: st) h k n = (rcv (hget h b) 10 ∧ CAL G (WP 138 G S f) 126 [.ref b, v1] 35 ls st h k n) := by rw [wp_s dd_138_32 rfl hs]; rfl
theorem dd_138_35 : decode (mB 138) 35 = .ok (.aload_n 0, 1) := by decide +kernel
theorem u_138_35 {G : aG} {S : Nat → Bool} {f : Nat} {st : List Value} {ls : aL} {h : aH} {k n : Nat} (hs : S 35 = false) : WP 138 G S (f + 1) 35 ls st h k n = (oA (lget ls 0) (WP 138 G S f) 36 ls st h k n) := by rw [wp_s dd_138_35 rfl hs]; rfl
theorem v_138_35 {G : aG} {S : Nat → Bool} {f : Nat} {st : List Value} {ls : aL} {h : aH} {k n : Nat} : WQ 138 G S f 35 ls st h k n = (oA (lget ls 0) (WP 138 G S f) 36 ls st h k n) := by rw [wq_s dd_138_35 rfl]; rfl
theorem dd_138_36 : decode (mB 138) 36 = .ok (.invokevirtual 152, 3) := by decide +kernel
theorem u_138_36 {G : aG} {S : Nat → Bool} {f : Nat} {st : List Value} {ls : aL} {h : aH} {k n : Nat} {b : Nat} (hs : S 36 = false) : WP 138 G S (f + 1) 36 ls (.ref b :: st) h k n = (rcv (hget h b) 10 ∧ CAL G (WP 138 G S f) 109 [.ref b] 39 ls st h k n) := by rw [wp_s dd_138_36 rfl hs]; rfl
theorem dd_138_39 : decode (mB 138) 39 = .ok (.iconst (-1), 1) := by decide +kernel
theorem u_138_39 {G : aG} {S : Nat → Bool} {f : Nat} {st : List Value} {ls : aL} {h : aH} {k n : Nat} (hs : S 39 = false) : WP 138 G S (f + 1) 39 ls st h k n = (WP 138 G S f 40 ls (.int (-1) :: st) h k n) := by rw [wp_s dd_138_39 rfl hs]; rfl
theorem dd_138_40 : decode (mB 138) 40 = .ok (.if_icmp .eq 86, 3) := by decide +kernel
theorem u_138_40 {G : aG} {S : Nat → Bool} {f : Nat} {st : List Value} {ls : aL} {h : aH} {k n : Nat} {x y : Int32} (hs : S 40 = false) : WP 138 G S (f + 1) 40 ls (.int y :: .int x :: st) h k n = (if x = y then WP 138 G S f 126 ls st h k n else WP 138 G S f 43 ls st h k n) := by rw [wp_s dd_138_40 rfl hs]; exact br_ite (c := x = y)
theorem dd_138_43 : decode (mB 138) 43 = .ok (.aload_n 0, 1) := by decide +kernel
theorem u_138_43 {G : aG} {S : Nat → Bool} {f : Nat} {st : List Value} {ls : aL} {h : aH} {k n : Nat} (hs : S 43 = false) : WP 138 G S (f + 1) 43 ls st h k n = (oA (lget ls 0) (WP 138 G S f) 44 ls st h k n) := by rw [wp_s dd_138_43 rfl hs]; rfl
theorem dd_138_44 : decode (mB 138) 44 = .ok (.getfield 49, 3) := by decide +kernel
theorem u_138_44 {G : aG} {S : Nat → Bool} {f : Nat} {st : List Value} {ls : aL} {h : aH} {k n : Nat} {a : Nat} (hs : S 44 = false) : WP 138 G S (f + 1) 44 ls (.ref a :: st) h k n = (oV (fget h a 10 15) (WP 138 G S f) 47 ls st h k n) := by rw [wp_s dd_138_44 rfl hs]; rfl
theorem dd_138_47 : decode (mB 138) 47 = .ok (.aload_n 0, 1) := by decide +kernel
theorem u_138_47 {G : aG} {S : Nat → Bool} {f : Nat} {st : List Value} {ls : aL} {h : aH} {k n : Nat} (hs : S 47 = false) : WP 138 G S (f + 1) 47 ls st h k n = (oA (lget ls 0) (WP 138 G S f) 48 ls st h k n) := by rw [wp_s dd_138_47 rfl hs]; rfl
theorem dd_138_48 : decode (mB 138) 48 = .ok (.getfield 120, 3) := by decide +kernel
theorem u_138_48 {G : aG} {S : Nat → Bool} {f : Nat} {st : List Value} {ls : aL} {h : aH} {k n : Nat} {a : Nat} (hs : S 48 = false) : WP 138 G S (f + 1) 48 ls (.ref a :: st) h k n = (oV (fget h a 10 17) (WP 138 G S f) 51 ls st h k n) := by rw [wp_s dd_138_48 rfl hs]; rfl
theorem dd_138_51 : decode (mB 138) 51 = .ok (.iaload, 1) := by decide +kernel
theorem u_138_51 {G : aG} {S : Nat → Bool} {f : Nat} {st : List Value} {ls : aL} {h : aH} {k n : Nat} {i : Int32} {a : Nat} (hs : S 51 = false) : WP 138 G S (f + 1) 51 ls (.int i :: .ref a :: st) h k n = (oIld (iget h a 1) i (WP 138 G S f) 52 ls st h k n) := by rw [wp_s dd_138_51 rfl hs]; rfl
theorem dd_138_52 : decode (mB 138) 52 = .ok (.istore_n 2, 1) := by decide +kernel
theorem u_138_52 {G : aG} {S : Nat → Bool} {f : Nat} {st : List Value} {ls : aL} {h : aH} {k n : Nat} {x : Int32} (hs : S 52 = false) : WP 138 G S (f + 1) 52 ls (.int x :: st) h k n = (WP 138 G S f 53 (lput1 ls 2 (.int x)) st h k n) := by rw [wp_s dd_138_52 rfl hs]; rfl
theorem dd_138_53 : decode (mB 138) 53 = .ok (.iload_n 2, 1) := by decide +kernel
theorem u_138_53 {G : aG} {S : Nat → Bool} {f : Nat} {st : List Value} {ls : aL} {h : aH} {k n : Nat} (hs : S 53 = false) : WP 138 G S (f + 1) 53 ls st h k n = (oI (lget ls 2) (WP 138 G S f) 54 ls st h k n) := by rw [wp_s dd_138_53 rfl hs]; rfl
theorem dd_138_54 : decode (mB 138) 54 = .ok (.bipush 40, 2) := by decide +kernel
theorem u_138_54 {G : aG} {S : Nat → Bool} {f : Nat} {st : List Value} {ls : aL} {h : aH} {k n : Nat} (hs : S 54 = false) : WP 138 G S (f + 1) 54 ls st h k n = (WP 138 G S f 56 ls (.int (nI 40) :: st) h k n) := by rw [wp_s dd_138_54 rfl hs]; rfl
theorem dd_138_56 : decode (mB 138) 56 = .ok (.if_icmp .ne 19, 3) := by decide +kernel
theorem u_138_56 {G : aG} {S : Nat → Bool} {f : Nat} {st : List Value} {ls : aL} {h : aH} {k n : Nat} {x y : Int32} (hs : S 56 = false) : WP 138 G S (f + 1) 56 ls (.int y :: .int x :: st) h k n = (if x = y then WP 138 G S f 59 ls st h k n else WP 138 G S f 75 ls st h k n) := by rw [wp_s dd_138_56 rfl hs]; exact br_iten (c := x = y)
theorem dd_138_59 : decode (mB 138) 59 = .ok (.iinc 1 1, 3) := by decide +kernel
theorem u_138_59 {G : aG} {S : Nat → Bool} {f : Nat} {st : List Value} {ls : aL} {h : aH} {k n : Nat} (hs : S 59 = false) : WP 138 G S (f + 1) 59 ls st h k n = (oInc (lget ls 1) (nI 1) (WP 138 G S f) 1 62 ls st h k n) := by rw [wp_s dd_138_59 rfl hs]; rfl
theorem dd_138_62 : decode (mB 138) 62 = .ok (.aload_n 0, 1) := by decide +kernel
theorem u_138_62 {G : aG} {S : Nat → Bool} {f : Nat} {st : List Value} {ls : aL} {h : aH} {k n : Nat} (hs : S 62 = false) : WP 138 G S (f + 1) 62 ls st h k n = (oA (lget ls 0) (WP 138 G S f) 63 ls st h k n) := by rw [wp_s dd_138_62 rfl hs]; rfl
theorem dd_138_63 : decode (mB 138) 63 = .ok (.dup, 1) := by decide +kernel
theorem u_138_63 {G : aG} {S : Nat → Bool} {f : Nat} {st : List Value} {ls : aL} {h : aH} {k n : Nat} {v : Value} (hs : S 63 = false) : WP 138 G S (f + 1) 63 ls (v :: st) h k n = (cond (cat1 v) (WP 138 G S f 64 ls (v :: v :: st) h k n) False) := by rw [wp_s dd_138_63 rfl hs]; rfl
theorem dd_138_64 : decode (mB 138) 64 = .ok (.getfield 120, 3) := by decide +kernel
theorem u_138_64 {G : aG} {S : Nat → Bool} {f : Nat} {st : List Value} {ls : aL} {h : aH} {k n : Nat} {a : Nat} (hs : S 64 = false) : WP 138 G S (f + 1) 64 ls (.ref a :: st) h k n = (oV (fget h a 10 17) (WP 138 G S f) 67 ls st h k n) := by rw [wp_s dd_138_64 rfl hs]; rfl
theorem dd_138_67 : decode (mB 138) 67 = .ok (.iconst 1, 1) := by decide +kernel
theorem u_138_67 {G : aG} {S : Nat → Bool} {f : Nat} {st : List Value} {ls : aL} {h : aH} {k n : Nat} (hs : S 67 = false) : WP 138 G S (f + 1) 67 ls st h k n = (WP 138 G S f 68 ls (.int (nI 1) :: st) h k n) := by rw [wp_s dd_138_67 rfl hs]; rfl
theorem dd_138_68 : decode (mB 138) 68 = .ok (.iadd, 1) := by decide +kernel
theorem u_138_68 {G : aG} {S : Nat → Bool} {f : Nat} {st : List Value} {ls : aL} {h : aH} {k n : Nat} {x y : Int32} (hs : S 68 = false) : WP 138 G S (f + 1) 68 ls (.int y :: .int x :: st) h k n = (WP 138 G S f 69 ls (.int (x + y) :: st) h k n) := by rw [wp_s dd_138_68 rfl hs]; rfl
theorem dd_138_69 : decode (mB 138) 69 = .ok (.putfield 120, 3) := by decide +kernel
theorem u_138_69 {G : aG} {S : Nat → Bool} {f : Nat} {st : List Value} {ls : aL} {h : aH} {k n : Nat} {a : Nat} {x : Int32} (hs : S 69 = false) : WP 138 G S (f + 1) 69 ls (.int x :: .ref a :: st) h k n = (oH (fput h a 10 17 (.int x)) (WP 138 G S f) 72 ls st k n) := by rw [wp_s dd_138_69 rfl hs]; rfl
theorem dd_138_72 : decode (mB 138) 72 = .ok (.goto 51, 3) := by decide +kernel
theorem u_138_72 {G : aG} {S : Nat → Bool} {f : Nat} {st : List Value} {ls : aL} {h : aH} {k n : Nat} (hs : S 72 = false) : WP 138 G S (f + 1) 72 ls st h k n = (WP 138 G S f 123 ls st h k n) := by rw [wp_s dd_138_72 rfl hs]; rfl
theorem dd_138_75 : decode (mB 138) 75 = .ok (.iload_n 2, 1) := by decide +kernel
theorem u_138_75 {G : aG} {S : Nat → Bool} {f : Nat} {st : List Value} {ls : aL} {h : aH} {k n : Nat} (hs : S 75 = false) : WP 138 G S (f + 1) 75 ls st h k n = (oI (lget ls 2) (WP 138 G S f) 76 ls st h k n) := by rw [wp_s dd_138_75 rfl hs]; rfl
theorem dd_138_76 : decode (mB 138) 76 = .ok (.bipush 41, 2) := by decide +kernel
theorem u_138_76 {G : aG} {S : Nat → Bool} {f : Nat} {st : List Value} {ls : aL} {h : aH} {k n : Nat} (hs : S 76 = false) : WP 138 G S (f + 1) 76 ls st h k n = (WP 138 G S f 78 ls (.int (nI 41) :: st) h k n) := by rw [wp_s dd_138_76 rfl hs]; rfl
theorem dd_138_78 : decode (mB 138) 78 = .ok (.if_icmp .ne 32, 3) := by decide +kernel
theorem u_138_78 {G : aG} {S : Nat → Bool} {f : Nat} {st : List Value} {ls : aL} {h : aH} {k n : Nat} {x y : Int32} (hs : S 78 = false) : WP 138 G S (f + 1) 78 ls (.int y :: .int x :: st) h k n = (if x = y then WP 138 G S f 81 ls st h k n else WP 138 G S f 110 ls st h k n) := by rw [wp_s dd_138_78 rfl hs]; exact br_iten (c := x = y)
theorem dd_138_81 : decode (mB 138) 81 = .ok (.aload_n 0, 1) := by decide +kernel
theorem u_138_81 {G : aG} {S : Nat → Bool} {f : Nat} {st : List Value} {ls : aL} {h : aH} {k n : Nat} (hs : S 81 = false) : WP 138 G S (f + 1) 81 ls st h k n = (oA (lget ls 0) (WP 138 G S f) 82 ls st h k n) := by rw [wp_s dd_138_81 rfl hs]; rfl
theorem dd_138_82 : decode (mB 138) 82 = .ok (.aload_n 0, 1) := by decide +kernel
theorem u_138_82 {G : aG} {S : Nat → Bool} {f : Nat} {st : List Value} {ls : aL} {h : aH} {k n : Nat} (hs : S 82 = false) : WP 138 G S (f + 1) 82 ls st h k n = (oA (lget ls 0) (WP 138 G S f) 83 ls st h k n) := by rw [wp_s dd_138_82 rfl hs]; rfl
theorem dd_138_83 : decode (mB 138) 83 = .ok (.getfield 120, 3) := by decide +kernel
theorem u_138_83 {G : aG} {S : Nat → Bool} {f : Nat} {st : List Value} {ls : aL} {h : aH} {k n : Nat} {a : Nat} (hs : S 83 = false) : WP 138 G S (f + 1) 83 ls (.ref a :: st) h k n = (oV (fget h a 10 17) (WP 138 G S f) 86 ls st h k n) := by rw [wp_s dd_138_83 rfl hs]; rfl
theorem dd_138_86 : decode (mB 138) 86 = .ok (.iload_n 1, 1) := by decide +kernel
theorem u_138_86 {G : aG} {S : Nat → Bool} {f : Nat} {st : List Value} {ls : aL} {h : aH} {k n : Nat} (hs : S 86 = false) : WP 138 G S (f + 1) 86 ls st h k n = (oI (lget ls 1) (WP 138 G S f) 87 ls st h k n) := by rw [wp_s dd_138_86 rfl hs]; rfl
theorem dd_138_87 : decode (mB 138) 87 = .ok (.invokevirtual 224, 3) := by decide +kernel
theorem u_138_87 {G : aG} {S : Nat → Bool} {f : Nat} {st : List Value} {ls : aL} {h : aH} {k n : Nat} {v1 v2 : Value} {b : Nat} (hs : S 87 = false) : WP 138 G S (f + 1) 87 ls (v2 :: v1 :: .ref b :: st) h k n = (rcv (hget h b) 10 ∧ CAL G (WP 138 G S f) 139 [.ref b, v1, v2] 90 ls st h k n) := by rw [wp_s dd_138_87 rfl hs]; rfl
theorem dd_138_90 : decode (mB 138) 90 = .ok (.ifCond .eq 4, 3) := by decide +kernel
theorem u_138_90 {G : aG} {S : Nat → Bool} {f : Nat} {st : List Value} {ls : aL} {h : aH} {k n : Nat} {x : Int32} (hs : S 90 = false) : WP 138 G S (f + 1) 90 ls (.int x :: st) h k n = (if x = nI 0 then WP 138 G S f 94 ls st h k n else WP 138 G S f 93 ls st h k n) := by rw [wp_s dd_138_90 rfl hs]; exact br_ite (c := x = nI 0)
theorem dd_138_93 : decode (mB 138) 93 = .ok (.return_, 1) := by decide +kernel
theorem u_138_93 {G : aG} {S : Nat → Bool} {f : Nat} {ls : aL} {h : aH} {k n : Nat} (hs : S 93 = false) : WP 138 G S (f + 1) 93 ls [] h k n = (RET G none h k n) := by rw [wp_s dd_138_93 rfl hs]; rfl
theorem dd_138_94 : decode (mB 138) 94 = .ok (.iinc 1 (-1), 3) := by decide +kernel
theorem u_138_94 {G : aG} {S : Nat → Bool} {f : Nat} {st : List Value} {ls : aL} {h : aH} {k n : Nat} (hs : S 94 = false) : WP 138 G S (f + 1) 94 ls st h k n = (oInc (lget ls 1) (-1) (WP 138 G S f) 1 97 ls st h k n) := by rw [wp_s dd_138_94 rfl hs]; rfl
theorem dd_138_97 : decode (mB 138) 97 = .ok (.aload_n 0, 1) := by decide +kernel
theorem u_138_97 {G : aG} {S : Nat → Bool} {f : Nat} {st : List Value} {ls : aL} {h : aH} {k n : Nat} (hs : S 97 = false) : WP 138 G S (f + 1) 97 ls st h k n = (oA (lget ls 0) (WP 138 G S f) 98 ls st h k n) := by rw [wp_s dd_138_97 rfl hs]; rfl
theorem dd_138_98 : decode (mB 138) 98 = .ok (.dup, 1) := by decide +kernel
theorem u_138_98 {G : aG} {S : Nat → Bool} {f : Nat} {st : List Value} {ls : aL} {h : aH} {k n : Nat} {v : Value} (hs : S 98 = false) : WP 138 G S (f + 1) 98 ls (v :: st) h k n = (cond (cat1 v) (WP 138 G S f 99 ls (v :: v :: st) h k n) False) := by rw [wp_s dd_138_98 rfl hs]; rfl
theorem dd_138_99 : decode (mB 138) 99 = .ok (.getfield 120, 3) := by decide +kernel
theorem u_138_99 {G : aG} {S : Nat → Bool} {f : Nat} {st : List Value} {ls : aL} {h : aH} {k n : Nat} {a : Nat} (hs : S 99 = false) : WP 138 G S (f + 1) 99 ls (.ref a :: st) h k n = (oV (fget h a 10 17) (WP 138 G S f) 102 ls st h k n) := by rw [wp_s dd_138_99 rfl hs]; rfl
theorem dd_138_102 : decode (mB 138) 102 = .ok (.iconst 1, 1) := by decide +kernel
theorem u_138_102 {G : aG} {S : Nat → Bool} {f : Nat} {st : List Value} {ls : aL} {h : aH} {k n : Nat} (hs : S 102 = false) : WP 138 G S (f + 1) 102 ls st h k n = (WP 138 G S f 103 ls (.int (nI 1) :: st) h k n) := by rw [wp_s dd_138_102 rfl hs]; rfl
theorem dd_138_103 : decode (mB 138) 103 = .ok (.iadd, 1) := by decide +kernel
theorem u_138_103 {G : aG} {S : Nat → Bool} {f : Nat} {st : List Value} {ls : aL} {h : aH} {k n : Nat} {x y : Int32} (hs : S 103 = false) : WP 138 G S (f + 1) 103 ls (.int y :: .int x :: st) h k n = (WP 138 G S f 104 ls (.int (x + y) :: st) h k n) := by rw [wp_s dd_138_103 rfl hs]; rfl
theorem dd_138_104 : decode (mB 138) 104 = .ok (.putfield 120, 3) := by decide +kernel
theorem u_138_104 {G : aG} {S : Nat → Bool} {f : Nat} {st : List Value} {ls : aL} {h : aH} {k n : Nat} {a : Nat} {x : Int32} (hs : S 104 = false) : WP 138 G S (f + 1) 104 ls (.int x :: .ref a :: st) h k n = (oH (fput h a 10 17 (.int x)) (WP 138 G S f) 107 ls st k n) := by rw [wp_s dd_138_104 rfl hs]; rfl
theorem dd_138_107 : decode (mB 138) 107 = .ok (.goto 16, 3) := by decide +kernel
theorem u_138_107 {G : aG} {S : Nat → Bool} {f : Nat} {st : List Value} {ls : aL} {h : aH} {k n : Nat} (hs : S 107 = false) : WP 138 G S (f + 1) 107 ls st h k n = (WP 138 G S f 123 ls st h k n) := by rw [wp_s dd_138_107 rfl hs]; rfl
theorem dd_138_110 : decode (mB 138) 110 = .ok (.aload_n 0, 1) := by decide +kernel
theorem u_138_110 {G : aG} {S : Nat → Bool} {f : Nat} {st : List Value} {ls : aL} {h : aH} {k n : Nat} (hs : S 110 = false) : WP 138 G S (f + 1) 110 ls st h k n = (oA (lget ls 0) (WP 138 G S f) 111 ls st h k n) := by rw [wp_s dd_138_110 rfl hs]; rfl
theorem dd_138_111 : decode (mB 138) 111 = .ok (.iload_n 2, 1) := by decide +kernel
theorem u_138_111 {G : aG} {S : Nat → Bool} {f : Nat} {st : List Value} {ls : aL} {h : aH} {k n : Nat} (hs : S 111 = false) : WP 138 G S (f + 1) 111 ls st h k n = (oI (lget ls 2) (WP 138 G S f) 112 ls st h k n) := by rw [wp_s dd_138_111 rfl hs]; rfl
theorem dd_138_112 : decode (mB 138) 112 = .ok (.bipush 97, 2) := by decide +kernel
theorem u_138_112 {G : aG} {S : Nat → Bool} {f : Nat} {st : List Value} {ls : aL} {h : aH} {k n : Nat} (hs : S 112 = false) : WP 138 G S (f + 1) 112 ls st h k n = (WP 138 G S f 114 ls (.int (nI 97) :: st) h k n) := by rw [wp_s dd_138_112 rfl hs]; rfl
theorem dd_138_114 : decode (mB 138) 114 = .ok (.isub, 1) := by decide +kernel
theorem u_138_114 {G : aG} {S : Nat → Bool} {f : Nat} {st : List Value} {ls : aL} {h : aH} {k n : Nat} {x y : Int32} (hs : S 114 = false) : WP 138 G S (f + 1) 114 ls (.int y :: .int x :: st) h k n = (WP 138 G S f 115 ls (.int (x - y) :: st) h k n) := by rw [wp_s dd_138_114 rfl hs]; rfl
theorem dd_138_115 : decode (mB 138) 115 = .ok (.iload_n 1, 1) := by decide +kernel
theorem u_138_115 {G : aG} {S : Nat → Bool} {f : Nat} {st : List Value} {ls : aL} {h : aH} {k n : Nat} (hs : S 115 = false) : WP 138 G S (f + 1) 115 ls st h k n = (oI (lget ls 1) (WP 138 G S f) 116 ls st h k n) := by rw [wp_s dd_138_115 rfl hs]; rfl
theorem dd_138_116 : decode (mB 138) 116 = .ok (.invokevirtual 227, 3) := by decide +kernel
theorem u_138_116 {G : aG} {S : Nat → Bool} {f : Nat} {st : List Value} {ls : aL} {h : aH} {k n : Nat} {v1 v2 : Value} {b : Nat} (hs : S 116 = false) : WP 138 G S (f + 1) 116 ls (v2 :: v1 :: .ref b :: st) h k n = (rcv (hget h b) 10 ∧ CAL G (WP 138 G S f) 141 [.ref b, v1, v2] 119 ls st h k n) := by rw [wp_s dd_138_116 rfl hs]; rfl
theorem dd_138_119 : decode (mB 138) 119 = .ok (.ifCond .eq 4, 3) := by decide +kernel
theorem u_138_119 {G : aG} {S : Nat → Bool} {f : Nat} {st : List Value} {ls : aL} {h : aH} {k n : Nat} {x : Int32} (hs : S 119 = false) : WP 138 G S (f + 1) 119 ls (.int x :: st) h k n = (if x = nI 0 then WP 138 G S f 123 ls st h k n else WP 138 G S f 122 ls st h k n) := by rw [wp_s dd_138_119 rfl hs]; exact br_ite (c := x = nI 0)
theorem dd_138_122 : decode (mB 138) 122 = .ok (.return_, 1) := by decide +kernel
theorem u_138_122 {G : aG} {S : Nat → Bool} {f : Nat} {ls : aL} {h : aH} {k n : Nat} (hs : S 122 = false) : WP 138 G S (f + 1) 122 ls [] h k n = (RET G none h k n) := by rw [wp_s dd_138_122 rfl hs]; rfl
theorem dd_138_123 : decode (mB 138) 123 = .ok (.goto (-88), 3) := by decide +kernel
theorem u_138_123 {G : aG} {S : Nat → Bool} {f : Nat} {st : List Value} {ls : aL} {h : aH} {k n : Nat} (hs : S 123 = false) : WP 138 G S (f + 1) 123 ls st h k n = (WP 138 G S f 35 ls st h k n) := by rw [wp_s dd_138_123 rfl hs]; rfl
theorem dd_138_126 : decode (mB 138) 126 = .ok (.aload_n 0, 1) := by decide +kernel
theorem u_138_126 {G : aG} {S : Nat → Bool} {f : Nat} {st : List Value} {ls : aL} {h : aH} {k n : Nat} (hs : S 126 = false) : WP 138 G S (f + 1) 126 ls st h k n = (oA (lget ls 0) (WP 138 G S f) 127 ls st h k n) := by rw [wp_s dd_138_126 rfl hs]; rfl
theorem dd_138_127 : decode (mB 138) 127 = .ok (.aload_n 0, 1) := by decide +kernel
theorem u_138_127 {G : aG} {S : Nat → Bool} {f : Nat} {st : List Value} {ls : aL} {h : aH} {k n : Nat} (hs : S 127 = false) : WP 138 G S (f + 1) 127 ls st h k n = (oA (lget ls 0) (WP 138 G S f) 128 ls st h k n) := by rw [wp_s dd_138_127 rfl hs]; rfl
theorem dd_138_128 : decode (mB 138) 128 = .ok (.getfield 117, 3) := by decide +kernel
theorem u_138_128 {G : aG} {S : Nat → Bool} {f : Nat} {st : List Value} {ls : aL} {h : aH} {k n : Nat} {a : Nat} (hs : S 128 = false) : WP 138 G S (f + 1) 128 ls (.ref a :: st) h k n = (oV (fget h a 10 16) (WP 138 G S f) 131 ls st h k n) := by rw [wp_s dd_138_128 rfl hs]; rfl
theorem dd_138_131 : decode (mB 138) 131 = .ok (.iconst 0, 1) := by decide +kernel
theorem u_138_131 {G : aG} {S : Nat → Bool} {f : Nat} {st : List Value} {ls : aL} {h : aH} {k n : Nat} (hs : S 131 = false) : WP 138 G S (f + 1) 131 ls st h k n = (WP 138 G S f 132 ls (.int (nI 0) :: st) h k n) := by rw [wp_s dd_138_131 rfl hs]; rfl
theorem dd_138_132 : decode (mB 138) 132 = .ok (.invokevirtual 224, 3) := by decide +kernel
theorem u_138_132 {G : aG} {S : Nat → Bool} {f : Nat} {st : List Value} {ls : aL} {h : aH} {k n : Nat} {v1 v2 : Value} {b : Nat} (hs : S 132 = false) : WP 138 G S (f + 1) 132 ls (v2 :: v1 :: .ref b :: st) h k n = (rcv (hget h b) 10 ∧ CAL G (WP 138 G S f) 139 [.ref b, v1, v2] 135 ls st h k n) := by rw [wp_s dd_138_132 rfl hs]; rfl
theorem dd_138_135 : decode (mB 138) 135 = .ok (.istore_n 2, 1) := by decide +kernel
theorem u_138_135 {G : aG} {S : Nat → Bool} {f : Nat} {st : List Value} {ls : aL} {h : aH} {k n : Nat} {x : Int32} (hs : S 135 = false) : WP 138 G S (f + 1) 135 ls (.int x :: st) h k n = (WP 138 G S f 136 (lput1 ls 2 (.int x)) st h k n) := by rw [wp_s dd_138_135 rfl hs]; rfl
theorem dd_138_136 : decode (mB 138) 136 = .ok (.return_, 1) := by decide +kernel
theorem u_138_136 {G : aG} {S : Nat → Bool} {f : Nat} {ls : aL} {h : aH} {k n : Nat} (hs : S 136 = false) : WP 138 G S (f + 1) 136 ls [] h k n = (RET G none h k n) := by rw [wp_s dd_138_136 rfl hs]; rfl
theorem dd_139_0 : decode (mB 139) 0 = .ok (.aload_n 0, 1) := by decide +kernel
theorem u_139_0 {G : aG} {S : Nat → Bool} {f : Nat} {st : List Value} {ls : aL} {h : aH} {k n : Nat} (hs : S 0 = false) : WP 139 G S (f + 1) 0 ls st h k n = (oA (lget ls 0) (WP 139 G S f) 1 ls st h k n) := by rw [wp_s dd_139_0 rfl hs]; rfl
theorem dd_139_1 : decode (mB 139) 1 = .ok (.aload_n 0, 1) := by decide +kernel
theorem u_139_1 {G : aG} {S : Nat → Bool} {f : Nat} {st : List Value} {ls : aL} {h : aH} {k n : Nat} (hs : S 1 = false) : WP 139 G S (f + 1) 1 ls st h k n = (oA (lget ls 0) (WP 139 G S f) 2 ls st h k n) := by rw [wp_s dd_139_1 rfl hs]; rfl
theorem dd_139_2 : decode (mB 139) 2 = .ok (.getfield 67, 3) := by decide +kernel
theorem u_139_2 {G : aG} {S : Nat → Bool} {f : Nat} {st : List Value} {ls : aL} {h : aH} {k n : Nat} {a : Nat} (hs : S 2 = false) : WP 139 G S (f + 1) 2 ls (.ref a :: st) h k n = (oV (fget h a 10 29) (WP 139 G S f) 5 ls st h k n) := by rw [wp_s dd_139_2 rfl hs]; rfl
theorem dd_139_5 : decode (mB 139) 5 = .ok (.iload_n 2, 1) := by decide +kernel
theorem u_139_5 {G : aG} {S : Nat → Bool} {f : Nat} {st : List Value} {ls : aL} {h : aH} {k n : Nat} (hs : S 5 = false) : WP 139 G S (f + 1) 5 ls st h k n = (oI (lget ls 2) (WP 139 G S f) 6 ls st h k n) := by rw [wp_s dd_139_5 rfl hs]; rfl
theorem dd_139_6 : decode (mB 139) 6 = .ok (.iaload, 1) := by decide +kernel
theorem u_139_6 {G : aG} {S : Nat → Bool} {f : Nat} {st : List Value} {ls : aL} {h : aH} {k n : Nat} {i : Int32} {a : Nat} (hs : S 6 = false) : WP 139 G S (f + 1) 6 ls (.int i :: .ref a :: st) h k n = (oIld (iget h a 1) i (WP 139 G S f) 7 ls st h k n) := by rw [wp_s dd_139_6 rfl hs]; rfl
theorem dd_139_7 : decode (mB 139) 7 = .ok (.invokevirtual 180, 3) := by decide +kernel
theorem u_139_7 {G : aG} {S : Nat → Bool} {f : Nat} {st : List Value} {ls : aL} {h : aH} {k n : Nat} {v1 : Value} {b : Nat} (hs : S 7 = false) : WP 139 G S (f + 1) 7 ls (v1 :: .ref b :: st) h k n = (rcv (hget h b) 10 ∧ CAL G (WP 139 G S f) 123 [.ref b, v1] 10 ls st h k n) := by rw [wp_s dd_139_7 rfl hs]; rfl
theorem dd_139_10 : decode (mB 139) 10 = .ok (.aload_n 0, 1) := by decide +kernel
theorem u_139_10 {G : aG} {S : Nat → Bool} {f : Nat} {st : List Value} {ls : aL} {h : aH} {k n : Nat} (hs : S 10 = false) : WP 139 G S (f + 1) 10 ls st h k n = (oA (lget ls 0) (WP 139 G S f) 11 ls st h k n) := by rw [wp_s dd_139_10 rfl hs]; rfl
theorem dd_139_11 : decode (mB 139) 11 = .ok (.iload_n 2, 1) := by decide +kernel
theorem u_139_11 {G : aG} {S : Nat → Bool} {f : Nat} {st : List Value} {ls : aL} {h : aH} {k n : Nat} (hs : S 11 = false) : WP 139 G S (f + 1) 11 ls st h k n = (oI (lget ls 2) (WP 139 G S f) 12 ls st h k n) := by rw [wp_s dd_139_11 rfl hs]; rfl
theorem dd_139_12 : decode (mB 139) 12 = .ok (.invokevirtual 198, 3) := by decide +kernel
theorem u_139_12 {G : aG} {S : Nat → Bool} {f : Nat} {st : List Value} {ls : aL} {h : aH} {k n : Nat} {v1 : Value} {b : Nat} (hs : S 12 = false) : WP 139 G S (f + 1) 12 ls (v1 :: .ref b :: st) h k n = (rcv (hget h b) 10 ∧ CAL G (WP 139 G S f) 135 [.ref b, v1] 15 ls st h k n) := by rw [wp_s dd_139_12 rfl hs]; rfl
theorem dd_139_15 : decode (mB 139) 15 = .ok (.ifCond .ne 16, 3) := by decide +kernel
theorem u_139_15 {G : aG} {S : Nat → Bool} {f : Nat} {st : List Value} {ls : aL} {h : aH} {k n : Nat} {x : Int32} (hs : S 15 = false) : WP 139 G S (f + 1) 15 ls (.int x :: st) h k n = (if x = nI 0 then WP 139 G S f 18 ls st h k n else WP 139 G S f 31 ls st h k n) := by rw [wp_s dd_139_15 rfl hs]; exact br_iten (c := x = nI 0)
theorem dd_139_18 : decode (mB 139) 18 = .ok (.aload_n 0, 1) := by decide +kernel
theorem u_139_18 {G : aG} {S : Nat → Bool} {f : Nat} {st : List Value} {ls : aL} {h : aH} {k n : Nat} (hs : S 18 = false) : WP 139 G S (f + 1) 18 ls st h k n = (oA (lget ls 0) (WP 139 G S f) 19 ls st h k n) := by rw [wp_s dd_139_18 rfl hs]; rfl
theorem dd_139_19 : decode (mB 139) 19 = .ok (.iload_n 1, 1) := by decide +kernel
theorem u_139_19 {G : aG} {S : Nat → Bool} {f : Nat} {st : List Value} {ls : aL} {h : aH} {k n : Nat} (hs : S 19 = false) : WP 139 G S (f + 1) 19 ls st h k n = (oI (lget ls 1) (WP 139 G S f) 20 ls st h k n) := by rw [wp_s dd_139_19 rfl hs]; rfl
theorem dd_139_20 : decode (mB 139) 20 = .ok (.iload_n 2, 1) := by decide +kernel
theorem u_139_20 {G : aG} {S : Nat → Bool} {f : Nat} {st : List Value} {ls : aL} {h : aH} {k n : Nat} (hs : S 20 = false) : WP 139 G S (f + 1) 20 ls st h k n = (oI (lget ls 2) (WP 139 G S f) 21 ls st h k n) := by rw [wp_s dd_139_20 rfl hs]; rfl
theorem dd_139_21 : decode (mB 139) 21 = .ok (.invokevirtual 221, 3) := by decide +kernel
theorem u_139_21 {G : aG} {S : Nat → Bool} {f : Nat} {st : List Value} {ls : aL} {h : aH} {k n : Nat} {v1 v2 : Value} {b : Nat} (hs : S 21 = false) : WP 139 G S (f + 1) 21 ls (v2 :: v1 :: .ref b :: st) h k n = (rcv (hget h b) 10 ∧ CAL G (WP 139 G S f) 140 [.ref b, v1, v2] 24 ls st h k n) := by rw [wp_s dd_139_21 rfl hs]; rfl
theorem dd_139_24 : decode (mB 139) 24 = .ok (.ifCond .eq 7, 3) := by decide +kernel
theorem u_139_24 {G : aG} {S : Nat → Bool} {f : Nat} {st : List Value} {ls : aL} {h : aH} {k n : Nat} {x : Int32} (hs : S 24 = false) : WP 139 G S (f + 1) 24 ls (.int x :: st) h k n = (if x = nI 0 then WP 139 G S f 31 ls st h k n else WP 139 G S f 27 ls st h k n) := by rw [wp_s dd_139_24 rfl hs]; exact br_ite (c := x = nI 0)
theorem dd_139_27 : decode (mB 139) 27 = .ok (.iconst 1, 1) := by decide +kernel
theorem u_139_27 {G : aG} {S : Nat → Bool} {f : Nat} {st : List Value} {ls : aL} {h : aH} {k n : Nat} (hs : S 27 = false) : WP 139 G S (f + 1) 27 ls st h k n = (WP 139 G S f 28 ls (.int (nI 1) :: st) h k n) := by rw [wp_s dd_139_27 rfl hs]; rfl
theorem dd_139_28 : decode (mB 139) 28 = .ok (.goto 4, 3) := by decide +kernel
theorem u_139_28 {G : aG} {S : Nat → Bool} {f : Nat} {st : List Value} {ls : aL} {h : aH} {k n : Nat} (hs : S 28 = false) : WP 139 G S (f + 1) 28 ls st h k n = (WP 139 G S f 32 ls st h k n) := by rw [wp_s dd_139_28 rfl hs]; rfl
theorem dd_139_31 : decode (mB 139) 31 = .ok (.iconst 0, 1) := by decide +kernel
theorem u_139_31 {G : aG} {S : Nat → Bool} {f : Nat} {st : List Value} {ls : aL} {h : aH} {k n : Nat} (hs : S 31 = false) : WP 139 G S (f + 1) 31 ls st h k n = (WP 139 G S f 32 ls (.int (nI 0) :: st) h k n) := by rw [wp_s dd_139_31 rfl hs]; rfl
theorem dd_139_32 : decode (mB 139) 32 = .ok (.ireturn, 1) := by decide +kernel
theorem u_139_32 {G : aG} {S : Nat → Bool} {f : Nat} {ls : aL} {h : aH} {k n : Nat} {x : Int32} (hs : S 32 = false) : WP 139 G S (f + 1) 32 ls [.int x] h k n = (cond (x == nI 0 || x == nI 1) (RET G (some (.int x)) h k n) False) := by rw [wp_s dd_139_32 rfl hs]; rfl
theorem dd_140_0 : decode (mB 140) 0 = .ok (.aload_n 0, 1) := by decide +kernel
theorem u_140_0 {G : aG} {S : Nat → Bool} {f : Nat} {st : List Value} {ls : aL} {h : aH} {k n : Nat} (hs : S 0 = false) : WP 140 G S (f + 1) 0 ls st h k n = (oA (lget ls 0) (WP 140 G S f) 1 ls st h k n) := by rw [wp_s dd_140_0 rfl hs]; rfl
theorem dd_140_1 : decode (mB 140) 1 = .ok (.iload_n 1, 1) := by decide +kernel
theorem u_140_1 {G : aG} {S : Nat → Bool} {f : Nat} {st : List Value} {ls : aL} {h : aH} {k n : Nat} (hs : S 1 = false) : WP 140 G S (f + 1) 1 ls st h k n = (oI (lget ls 1) (WP 140 G S f) 2 ls st h k n) := by rw [wp_s dd_140_1 rfl hs]; rfl
theorem dd_140_2 : decode (mB 140) 2 = .ok (.putfield 212, 3) := by decide +kernel
theorem u_140_2 {G : aG} {S : Nat → Bool} {f : Nat} {st : List Value} {ls : aL} {h : aH} {k n : Nat} {a : Nat} {x : Int32} (hs : S 2 = false) : WP 140 G S (f + 1) 2 ls (.int x :: .ref a :: st) h k n = (oH (fput h a 10 30 (.int x)) (WP 140 G S f) 5 ls st k n) := by rw [wp_s dd_140_2 rfl hs]; rfl
theorem dd_140_5 : decode (mB 140) 5 = .ok (.aload_n 0, 1) := by decide +kernel
theorem u_140_5 {G : aG} {S : Nat → Bool} {f : Nat} {st : List Value} {ls : aL} {h : aH} {k n : Nat} (hs : S 5 = false) : WP 140 G S (f + 1) 5 ls st h k n = (oA (lget ls 0) (WP 140 G S f) 6 ls st h k n) := by rw [wp_s dd_140_5 rfl hs]; rfl
theorem dd_140_6 : decode (mB 140) 6 = .ok (.aload_n 0, 1) := by decide +kernel
theorem u_140_6 {G : aG} {S : Nat → Bool} {f : Nat} {st : List Value} {ls : aL} {h : aH} {k n : Nat} (hs : S 6 = false) : WP 140 G S (f + 1) 6 ls st h k n = (oA (lget ls 0) (WP 140 G S f) 7 ls st h k n) := by rw [wp_s dd_140_6 rfl hs]; rfl
theorem dd_140_7 : decode (mB 140) 7 = .ok (.iload_n 2, 1) := by decide +kernel
theorem u_140_7 {G : aG} {S : Nat → Bool} {f : Nat} {st : List Value} {ls : aL} {h : aH} {k n : Nat} (hs : S 7 = false) : WP 140 G S (f + 1) 7 ls st h k n = (oI (lget ls 2) (WP 140 G S f) 8 ls st h k n) := by rw [wp_s dd_140_7 rfl hs]; rfl
theorem dd_140_8 : decode (mB 140) 8 = .ok (.invokevirtual 189, 3) := by decide +kernel
theorem u_140_8 {G : aG} {S : Nat → Bool} {f : Nat} {st : List Value} {ls : aL} {h : aH} {k n : Nat} {v1 : Value} {b : Nat} (hs : S 8 = false) : WP 140 G S (f + 1) 8 ls (v1 :: .ref b :: st) h k n = (rcv (hget h b) 10 ∧ CAL G (WP 140 G S f) 127 [.ref b, v1] 11 ls st h k n) := by rw [wp_s dd_140_8 rfl hs]; rfl
theorem dd_140_11 : decode (mB 140) 11 = .ok (.putfield 215, 3) := by decide +kernel
theorem u_140_11 {G : aG} {S : Nat → Bool} {f : Nat} {st : List Value} {ls : aL} {h : aH} {k n : Nat} {a : Nat} {x : Int32} (hs : S 11 = false) : WP 140 G S (f + 1) 11 ls (.int x :: .ref a :: st) h k n = (oH (fput h a 10 31 (.int x)) (WP 140 G S f) 14 ls st k n) := by rw [wp_s dd_140_11 rfl hs]; rfl
theorem dd_140_14 : decode (mB 140) 14 = .ok (.aload_n 0, 1) := by decide +kernel
theorem u_140_14 {G : aG} {S : Nat → Bool} {f : Nat} {st : List Value} {ls : aL} {h : aH} {k n : Nat} (hs : S 14 = false) : WP 140 G S (f + 1) 14 ls st h k n = (oA (lget ls 0) (WP 140 G S f) 15 ls st h k n) := by rw [wp_s dd_140_14 rfl hs]; rfl
theorem dd_140_15 : decode (mB 140) 15 = .ok (.aload_n 0, 1) := by decide +kernel
theorem u_140_15 {G : aG} {S : Nat → Bool} {f : Nat} {st : List Value} {ls : aL} {h : aH} {k n : Nat} (hs : S 15 = false) : WP 140 G S (f + 1) 15 ls st h k n = (oA (lget ls 0) (WP 140 G S f) 16 ls st h k n) := by rw [wp_s dd_140_15 rfl hs]; rfl
theorem dd_140_16 : decode (mB 140) 16 = .ok (.iload_n 2, 1) := by decide +kernel
theorem u_140_16 {G : aG} {S : Nat → Bool} {f : Nat} {st : List Value} {ls : aL} {h : aH} {k n : Nat} (hs : S 16 = false) : WP 140 G S (f + 1) 16 ls st h k n = (oI (lget ls 2) (WP 140 G S f) 17 ls st h k n) := by rw [wp_s dd_140_16 rfl hs]; rfl
theorem dd_140_17 : decode (mB 140) 17 = .ok (.invokevirtual 198, 3) := by decide +kernel
theorem u_140_17 {G : aG} {S : Nat → Bool} {f : Nat} {st : List Value} {ls : aL} {h : aH} {k n : Nat} {v1 : Value} {b : Nat} (hs : S 17 = false) : WP 140 G S (f + 1) 17 ls (v1 :: .ref b :: st) h k n = (rcv (hget h b) 10 ∧ CAL G (WP 140 G S f) 135 [.ref b, v1] 20 ls st h k n) := by rw [wp_s dd_140_17 rfl hs]; rfl
theorem dd_140_20 : decode (mB 140) 20 = .ok (.ifCond .eq 7, 3) := by decide +kernel
theorem u_140_20 {G : aG} {S : Nat → Bool} {f : Nat} {st : List Value} {ls : aL} {h : aH} {k n : Nat} {x : Int32} (hs : S 20 = false) : WP 140 G S (f + 1) 20 ls (.int x :: st) h k n = (if x = nI 0 then WP 140 G S f 27 ls st h k n else WP 140 G S f 23 ls st h k n) := by rw [wp_s dd_140_20 rfl hs]; exact br_ite (c := x = nI 0)
theorem dd_140_23 : decode (mB 140) 23 = .ok (.iconst 1, 1) := by decide +kernel
theorem u_140_23 {G : aG} {S : Nat → Bool} {f : Nat} {st : List Value} {ls : aL} {h : aH} {k n : Nat} (hs : S 23 = false) : WP 140 G S (f + 1) 23 ls st h k n = (WP 140 G S f 24 ls (.int (nI 1) :: st) h k n) := by rw [wp_s dd_140_23 rfl hs]; rfl
theorem dd_140_24 : decode (mB 140) 24 = .ok (.goto 4, 3) := by decide +kernel
theorem u_140_24 {G : aG} {S : Nat → Bool} {f : Nat} {st : List Value} {ls : aL} {h : aH} {k n : Nat} (hs : S 24 = false) : WP 140 G S (f + 1) 24 ls st h k n = (WP 140 G S f 28 ls st h k n) := by rw [wp_s dd_140_24 rfl hs]; rfl
theorem dd_140_27 : decode (mB 140) 27 = .ok (.iconst 0, 1) := by decide +kernel
theorem u_140_27 {G : aG} {S : Nat → Bool} {f : Nat} {st : List Value} {ls : aL} {h : aH} {k n : Nat} (hs : S 27 = false) : WP 140 G S (f + 1) 27 ls st h k n = (WP 140 G S f 28 ls (.int (nI 0) :: st) h k n) := by rw [wp_s dd_140_27 rfl hs]; rfl
theorem dd_140_28 : decode (mB 140) 28 = .ok (.putfield 218, 3) := by decide +kernel
theorem u_140_28 {G : aG} {S : Nat → Bool} {f : Nat} {st : List Value} {ls : aL} {h : aH} {k n : Nat} {a : Nat} {x : Int32} (hs : S 28 = false) : WP 140 G S (f + 1) 28 ls (.int x :: .ref a :: st) h k n = (oH (fput h a 10 32 (.int x)) (WP 140 G S f) 31 ls st k n) := by rw [wp_s dd_140_28 rfl hs]; rfl
theorem dd_140_31 : decode (mB 140) 31 = .ok (.iconst 1, 1) := by decide +kernel
theorem u_140_31 {G : aG} {S : Nat → Bool} {f : Nat} {st : List Value} {ls : aL} {h : aH} {k n : Nat} (hs : S 31 = false) : WP 140 G S (f + 1) 31 ls st h k n = (WP 140 G S f 32 ls (.int (nI 1) :: st) h k n) := by rw [wp_s dd_140_31 rfl hs]; rfl
theorem dd_140_32 : decode (mB 140) 32 = .ok (.ireturn, 1) := by decide +kernel
theorem u_140_32 {G : aG} {S : Nat → Bool} {f : Nat} {ls : aL} {h : aH} {k n : Nat} {x : Int32} (hs : S 32 = false) : WP 140 G S (f + 1) 32 ls [.int x] h k n = (cond (x == nI 0 || x == nI 1) (RET G (some (.int x)) h k n) False) := by rw [wp_s dd_140_32 rfl hs]; rfl
theorem dd_141_0 : decode (mB 141) 0 = .ok (.aload_n 0, 1) := by decide +kernel
theorem u_141_0 {G : aG} {S : Nat → Bool} {f : Nat} {st : List Value} {ls : aL} {h : aH} {k n : Nat} (hs : S 0 = false) : WP 141 G S (f + 1) 0 ls st h k n = (oA (lget ls 0) (WP 141 G S f) 1 ls st h k n) := by rw [wp_s dd_141_0 rfl hs]; rfl
theorem dd_141_1 : decode (mB 141) 1 = .ok (.getfield 120, 3) := by decide +kernel
theorem u_141_1 {G : aG} {S : Nat → Bool} {f : Nat} {st : List Value} {ls : aL} {h : aH} {k n : Nat} {a : Nat} (hs : S 1 = false) : WP 141 G S (f + 1) 1 ls (.ref a :: st) h k n = (oV (fget h a 10 17) (WP 141 G S f) 4 ls st h k n) := by rw [wp_s dd_141_1 rfl hs]; rfl
theorem dd_141_4 : decode (mB 141) 4 = .ok (.istore_n 3, 1) := by decide +kernel
theorem u_141_4 {G : aG} {S : Nat → Bool} {f : Nat} {st : List Value} {ls : aL} {h : aH} {k n : Nat} {x : Int32} (hs : S 4 = false) : WP 141 G S (f + 1) 4 ls (.int x :: st) h k n = (WP 141 G S f 5 (lput1 ls 3 (.int x)) st h k n) := by rw [wp_s dd_141_4 rfl hs]; rfl
theorem dd_141_5 : decode (mB 141) 5 = .ok (.aload_n 0, 1) := by decide +kernel
theorem u_141_5 {G : aG} {S : Nat → Bool} {f : Nat} {st : List Value} {ls : aL} {h : aH} {k n : Nat} (hs : S 5 = false) : WP 141 G S (f + 1) 5 ls st h k n = (oA (lget ls 0) (WP 141 G S f) 6 ls st h k n) := by rw [wp_s dd_141_5 rfl hs]; rfl
theorem dd_141_6 : decode (mB 141) 6 = .ok (.aload_n 0, 1) := by decide +kernel
theorem u_141_6 {G : aG} {S : Nat → Bool} {f : Nat} {st : List Value} {ls : aL} {h : aH} {k n : Nat} (hs : S 6 = false) : WP 141 G S (f + 1) 6 ls st h k n = (oA (lget ls 0) (WP 141 G S f) 7 ls st h k n) := by rw [wp_s dd_141_6 rfl hs]; rfl
theorem dd_141_7 : decode (mB 141) 7 = .ok (.getfield 67, 3) := by decide +kernel
theorem u_141_7 {G : aG} {S : Nat → Bool} {f : Nat} {st : List Value} {ls : aL} {h : aH} {k n : Nat} {a : Nat} (hs : S 7 = false) : WP 141 G S (f + 1) 7 ls (.ref a :: st) h k n = (oV (fget h a 10 29) (WP 141 G S f) 10 ls st h k n) := by rw [wp_s dd_141_7 rfl hs]; rfl
theorem dd_141_10 : decode (mB 141) 10 = .ok (.iload_n 2, 1) := by decide +kernel
theorem u_141_10 {G : aG} {S : Nat → Bool} {f : Nat} {st : List Value} {ls : aL} {h : aH} {k n : Nat} (hs : S 10 = false) : WP 141 G S (f + 1) 10 ls st h k n = (oI (lget ls 2) (WP 141 G S f) 11 ls st h k n) := by rw [wp_s dd_141_10 rfl hs]; rfl
theorem dd_141_11 : decode (mB 141) 11 = .ok (.iaload, 1) := by decide +kernel
theorem u_141_11 {G : aG} {S : Nat → Bool} {f : Nat} {st : List Value} {ls : aL} {h : aH} {k n : Nat} {i : Int32} {a : Nat} (hs : S 11 = false) : WP 141 G S (f + 1) 11 ls (.int i :: .ref a :: st) h k n = (oIld (iget h a 1) i (WP 141 G S f) 12 ls st h k n) := by rw [wp_s dd_141_11 rfl hs]; rfl
theorem dd_141_12 : decode (mB 141) 12 = .ok (.invokevirtual 180, 3) := by decide +kernel
theorem u_141_12 {G : aG} {S : Nat → Bool} {f : Nat} {st : List Value} {ls : aL} {h : aH} {k n : Nat} {v1 : Value} {b : Nat} (hs : S 12 = false) : WP 141 G S (f + 1) 12 ls (v1 :: .ref b :: st) h k n = (rcv (hget h b) 10 ∧ CAL G (WP 141 G S f) 123 [.ref b, v1] 15 ls st h k n) := by rw [wp_s dd_141_12 rfl hs]; rfl
theorem dd_141_15 : decode (mB 141) 15 = .ok (.aload_n 0, 1) := by decide +kernel
theorem u_141_15 {G : aG} {S : Nat → Bool} {f : Nat} {st : List Value} {ls : aL} {h : aH} {k n : Nat} (hs : S 15 = false) : WP 141 G S (f + 1) 15 ls st h k n = (oA (lget ls 0) (WP 141 G S f) 16 ls st h k n) := by rw [wp_s dd_141_15 rfl hs]; rfl
theorem dd_141_16 : decode (mB 141) 16 = .ok (.iload_n 2, 1) := by decide +kernel
theorem u_141_16 {G : aG} {S : Nat → Bool} {f : Nat} {st : List Value} {ls : aL} {h : aH} {k n : Nat} (hs : S 16 = false) : WP 141 G S (f + 1) 16 ls st h k n = (oI (lget ls 2) (WP 141 G S f) 17 ls st h k n) := by rw [wp_s dd_141_16 rfl hs]; rfl
theorem dd_141_17 : decode (mB 141) 17 = .ok (.iload_n 1, 1) := by decide +kernel
theorem u_141_17 {G : aG} {S : Nat → Bool} {f : Nat} {st : List Value} {ls : aL} {h : aH} {k n : Nat} (hs : S 17 = false) : WP 141 G S (f + 1) 17 ls st h k n = (oI (lget ls 1) (WP 141 G S f) 18 ls st h k n) := by rw [wp_s dd_141_17 rfl hs]; rfl
theorem dd_141_18 : decode (mB 141) 18 = .ok (.bipush 19, 2) := by decide +kernel
theorem u_141_18 {G : aG} {S : Nat → Bool} {f : Nat} {st : List Value} {ls : aL} {h : aH} {k n : Nat} (hs : S 18 = false) : WP 141 G S (f + 1) 18 ls st h k n = (WP 141 G S f 20 ls (.int (nI 19) :: st) h k n) := by rw [wp_s dd_141_18 rfl hs]; rfl
theorem dd_141_20 : decode (mB 141) 20 = .ok (.invokevirtual 104, 3) := by decide +kernel
theorem u_141_20 {G : aG} {S : Nat → Bool} {f : Nat} {st : List Value} {ls : aL} {h : aH} {k n : Nat} {v1 v2 v3 : Value} {b : Nat} (hs : S 20 = false) : WP 141 G S (f + 1) 20 ls (v3 :: v2 :: v1 :: .ref b :: st) h k n = (rcv (hget h b) 10 ∧ CAL G (WP 141 G S f) 128 [.ref b, v1, v2, v3] 23 ls st h k n) := by rw [wp_s dd_141_20 rfl hs]; rfl
theorem dd_141_23 : decode (mB 141) 23 = .ok (.ifCond .ne 10, 3) := by decide +kernel
theorem u_141_23 {G : aG} {S : Nat → Bool} {f : Nat} {st : List Value} {ls : aL} {h : aH} {k n : Nat} {x : Int32} (hs : S 23 = false) : WP 141 G S (f + 1) 23 ls (.int x :: st) h k n = (if x = nI 0 then WP 141 G S f 26 ls st h k n else WP 141 G S f 33 ls st h k n) := by rw [wp_s dd_141_23 rfl hs]; exact br_iten (c := x = nI 0)
theorem dd_141_26 : decode (mB 141) 26 = .ok (.aload_n 0, 1) := by decide +kernel
theorem u_141_26 {G : aG} {S : Nat → Bool} {f : Nat} {st : List Value} {ls : aL} {h : aH} {k n : Nat} (hs : S 26 = false) : WP 141 G S (f + 1) 26 ls st h k n = (oA (lget ls 0) (WP 141 G S f) 27 ls st h k n) := by rw [wp_s dd_141_26 rfl hs]; rfl
theorem dd_141_27 : decode (mB 141) 27 = .ok (.iload_n 3, 1) := by decide +kernel
theorem u_141_27 {G : aG} {S : Nat → Bool} {f : Nat} {st : List Value} {ls : aL} {h : aH} {k n : Nat} (hs : S 27 = false) : WP 141 G S (f + 1) 27 ls st h k n = (oI (lget ls 3) (WP 141 G S f) 28 ls st h k n) := by rw [wp_s dd_141_27 rfl hs]; rfl
theorem dd_141_28 : decode (mB 141) 28 = .ok (.iload_n 2, 1) := by decide +kernel
theorem u_141_28 {G : aG} {S : Nat → Bool} {f : Nat} {st : List Value} {ls : aL} {h : aH} {k n : Nat} (hs : S 28 = false) : WP 141 G S (f + 1) 28 ls st h k n = (oI (lget ls 2) (WP 141 G S f) 29 ls st h k n) := by rw [wp_s dd_141_28 rfl hs]; rfl
theorem dd_141_29 : decode (mB 141) 29 = .ok (.invokevirtual 221, 3) := by decide +kernel
theorem u_141_29 {G : aG} {S : Nat → Bool} {f : Nat} {st : List Value} {ls : aL} {h : aH} {k n : Nat} {v1 v2 : Value} {b : Nat} (hs : S 29 = false) : WP 141 G S (f + 1) 29 ls (v2 :: v1 :: .ref b :: st) h k n = (rcv (hget h b) 10 ∧ CAL G (WP 141 G S f) 140 [.ref b, v1, v2] 32 ls st h k n) := by rw [wp_s dd_141_29 rfl hs]; rfl
theorem dd_141_32 : decode (mB 141) 32 = .ok (.ireturn, 1) := by decide +kernel
theorem u_141_32 {G : aG} {S : Nat → Bool} {f : Nat} {ls : aL} {h : aH} {k n : Nat} {x : Int32} (hs : S 32 = false) : WP 141 G S (f + 1) 32 ls [.int x] h k n = (cond (x == nI 0 || x == nI 1) (RET G (some (.int x)) h k n) False) := by rw [wp_s dd_141_32 rfl hs]; rfl
theorem dd_141_33 : decode (mB 141) 33 = .ok (.iconst 0, 1) := by decide +kernel
theorem u_141_33 {G : aG} {S : Nat → Bool} {f : Nat} {st : List Value} {ls : aL} {h : aH} {k n : Nat} (hs : S 33 = false) : WP 141 G S (f + 1) 33 ls st h k n = (WP 141 G S f 34 ls (.int (nI 0) :: st) h k n) := by rw [wp_s dd_141_33 rfl hs]; rfl
theorem dd_141_34 : decode (mB 141) 34 = .ok (.istore 4, 2) := by decide +kernel
theorem u_141_34 {G : aG} {S : Nat → Bool} {f : Nat} {st : List Value} {ls : aL} {h : aH} {k n : Nat} {x : Int32} (hs : S 34 = false) : WP 141 G S (f + 1) 34 ls (.int x :: st) h k n = (WP 141 G S f 36 (lput1 ls 4 (.int x)) st h k n) := by rw [wp_s dd_141_34 rfl hs]; rfl
theorem dd_141_36 : decode (mB 141) 36 = .ok (.iload 4, 2) := by decide +kernel
theorem u_141_36 {G : aG} {S : Nat → Bool} {f : Nat} {st : List Value} {ls : aL} {h : aH} {k n : Nat} (hs : S 36 = false) : WP 141 G S (f + 1) 36 ls st h k n = (oI (lget ls 4) (WP 141 G S f) 38 ls st h k n) := by rw [wp_s dd_141_36 rfl hs]; rfl
theorem v_141_36 {G : aG} {S : Nat → Bool} {f : Nat} {st : List Value} {ls : aL} {h : aH} {k n : Nat} : WQ 141 G S f 36 ls st h k n = (oI (lget ls 4) (WP 141 G S f) 38 ls st h k n) := by rw [wq_s dd_141_36 rfl]; rfl
theorem dd_141_38 : decode (mB 141) 38 = .ok (.aload_n 0, 1) := by decide +kernel
theorem u_141_38 {G : aG} {S : Nat → Bool} {f : Nat} {st : List Value} {ls : aL} {h : aH} {k n : Nat} (hs : S 38 = false) : WP 141 G S (f + 1) 38 ls st h k n = (oA (lget ls 0) (WP 141 G S f) 39 ls st h k n) := by rw [wp_s dd_141_38 rfl hs]; rfl
theorem dd_141_39 : decode (mB 141) 39 = .ok (.getfield 46, 3) := by decide +kernel
theorem u_141_39 {G : aG} {S : Nat → Bool} {f : Nat} {st : List Value} {ls : aL} {h : aH} {k n : Nat} {a : Nat} (hs : S 39 = false) : WP 141 G S (f + 1) 39 ls (.ref a :: st) h k n = (oV (fget h a 10 14) (WP 141 G S f) 42 ls st h k n) := by rw [wp_s dd_141_39 rfl hs]; rfl
theorem dd_141_42 : decode (mB 141) 42 = .ok (.bipush 19, 2) := by decide +kernel
theorem u_141_42 {G : aG} {S : Nat → Bool} {f : Nat} {st : List Value} {ls : aL} {h : aH} {k n : Nat} (hs : S 42 = false) : WP 141 G S (f + 1) 42 ls st h k n = (WP 141 G S f 44 ls (.int (nI 19) :: st) h k n) := by rw [wp_s dd_141_42 rfl hs]; rfl
theorem dd_141_44 : decode (mB 141) 44 = .ok (.iaload, 1) := by decide +kernel
theorem u_141_44 {G : aG} {S : Nat → Bool} {f : Nat} {st : List Value} {ls : aL} {h : aH} {k n : Nat} {i : Int32} {a : Nat} (hs : S 44 = false) : WP 141 G S (f + 1) 44 ls (.int i :: .ref a :: st) h k n = (oIld (iget h a 1) i (WP 141 G S f) 45 ls st h k n) := by rw [wp_s dd_141_44 rfl hs]; rfl
theorem dd_141_45 : decode (mB 141) 45 = .ok (.if_icmp .ge 33, 3) := by decide +kernel
theorem u_141_45 {G : aG} {S : Nat → Bool} {f : Nat} {st : List Value} {ls : aL} {h : aH} {k n : Nat} {x y : Int32} (hs : S 45 = false) : WP 141 G S (f + 1) 45 ls (.int y :: .int x :: st) h k n = (if y ≤ x then WP 141 G S f 78 ls st h k n else WP 141 G S f 48 ls st h k n) := by rw [wp_s dd_141_45 rfl hs]; exact br_ite (c := y ≤ x)
theorem dd_141_48 : decode (mB 141) 48 = .ok (.aload_n 0, 1) := by decide +kernel
theorem u_141_48 {G : aG} {S : Nat → Bool} {f : Nat} {st : List Value} {ls : aL} {h : aH} {k n : Nat} (hs : S 48 = false) : WP 141 G S (f + 1) 48 ls st h k n = (oA (lget ls 0) (WP 141 G S f) 49 ls st h k n) := by rw [wp_s dd_141_48 rfl hs]; rfl
theorem dd_141_49 : decode (mB 141) 49 = .ok (.getfield 43, 3) := by decide +kernel
theorem u_141_49 {G : aG} {S : Nat → Bool} {f : Nat} {st : List Value} {ls : aL} {h : aH} {k n : Nat} {a : Nat} (hs : S 49 = false) : WP 141 G S (f + 1) 49 ls (.ref a :: st) h k n = (oV (fget h a 10 13) (WP 141 G S f) 52 ls st h k n) := by rw [wp_s dd_141_49 rfl hs]; rfl
theorem dd_141_52 : decode (mB 141) 52 = .ok (.sipush 256, 3) := by decide +kernel
theorem u_141_52 {G : aG} {S : Nat → Bool} {f : Nat} {st : List Value} {ls : aL} {h : aH} {k n : Nat} (hs : S 52 = false) : WP 141 G S (f + 1) 52 ls st h k n = (WP 141 G S f 55 ls (.int (nI 256) :: st) h k n) := by rw [wp_s dd_141_52 rfl hs]; rfl
theorem dd_141_55 : decode (mB 141) 55 = .ok (.iload_n 2, 1) := by decide +kernel
theorem u_141_55 {G : aG} {S : Nat → Bool} {f : Nat} {st : List Value} {ls : aL} {h : aH} {k n : Nat} (hs : S 55 = false) : WP 141 G S (f + 1) 55 ls st h k n = (oI (lget ls 2) (WP 141 G S f) 56 ls st h k n) := by rw [wp_s dd_141_55 rfl hs]; rfl
theorem dd_141_56 : decode (mB 141) 56 = .ok (.imul, 1) := by decide +kernel
theorem u_141_56 {G : aG} {S : Nat → Bool} {f : Nat} {st : List Value} {ls : aL} {h : aH} {k n : Nat} {x y : Int32} (hs : S 56 = false) : WP 141 G S (f + 1) 56 ls (.int y :: .int x :: st) h k n = (WP 141 G S f 57 ls (.int (x * y) :: st) h k n) := by rw [wp_s dd_141_56 rfl hs]; rfl
theorem dd_141_57 : decode (mB 141) 57 = .ok (.iload 4, 2) := by decide +kernel
theorem u_141_57 {G : aG} {S : Nat → Bool} {f : Nat} {st : List Value} {ls : aL} {h : aH} {k n : Nat} (hs : S 57 = false) : WP 141 G S (f + 1) 57 ls st h k n = (oI (lget ls 4) (WP 141 G S f) 59 ls st h k n) := by rw [wp_s dd_141_57 rfl hs]; rfl
theorem dd_141_59 : decode (mB 141) 59 = .ok (.iadd, 1) := by decide +kernel
theorem u_141_59 {G : aG} {S : Nat → Bool} {f : Nat} {st : List Value} {ls : aL} {h : aH} {k n : Nat} {x y : Int32} (hs : S 59 = false) : WP 141 G S (f + 1) 59 ls (.int y :: .int x :: st) h k n = (WP 141 G S f 60 ls (.int (x + y) :: st) h k n) := by rw [wp_s dd_141_59 rfl hs]; rfl
theorem dd_141_60 : decode (mB 141) 60 = .ok (.aload_n 0, 1) := by decide +kernel
theorem u_141_60 {G : aG} {S : Nat → Bool} {f : Nat} {st : List Value} {ls : aL} {h : aH} {k n : Nat} (hs : S 60 = false) : WP 141 G S (f + 1) 60 ls st h k n = (oA (lget ls 0) (WP 141 G S f) 61 ls st h k n) := by rw [wp_s dd_141_60 rfl hs]; rfl
theorem dd_141_61 : decode (mB 141) 61 = .ok (.getfield 43, 3) := by decide +kernel
theorem u_141_61 {G : aG} {S : Nat → Bool} {f : Nat} {st : List Value} {ls : aL} {h : aH} {k n : Nat} {a : Nat} (hs : S 61 = false) : WP 141 G S (f + 1) 61 ls (.ref a :: st) h k n = (oV (fget h a 10 13) (WP 141 G S f) 64 ls st h k n) := by rw [wp_s dd_141_61 rfl hs]; rfl
theorem dd_141_64 : decode (mB 141) 64 = .ok (.sipush 4864, 3) := by decide +kernel
theorem u_141_64 {G : aG} {S : Nat → Bool} {f : Nat} {st : List Value} {ls : aL} {h : aH} {k n : Nat} (hs : S 64 = false) : WP 141 G S (f + 1) 64 ls st h k n = (WP 141 G S f 67 ls (.int (nI 4864) :: st) h k n) := by rw [wp_s dd_141_64 rfl hs]; rfl
theorem dd_141_67 : decode (mB 141) 67 = .ok (.iload 4, 2) := by decide +kernel
theorem u_141_67 {G : aG} {S : Nat → Bool} {f : Nat} {st : List Value} {ls : aL} {h : aH} {k n : Nat} (hs : S 67 = false) : WP 141 G S (f + 1) 67 ls st h k n = (oI (lget ls 4) (WP 141 G S f) 69 ls st h k n) := by rw [wp_s dd_141_67 rfl hs]; rfl
theorem dd_141_69 : decode (mB 141) 69 = .ok (.iadd, 1) := by decide +kernel
theorem u_141_69 {G : aG} {S : Nat → Bool} {f : Nat} {st : List Value} {ls : aL} {h : aH} {k n : Nat} {x y : Int32} (hs : S 69 = false) : WP 141 G S (f + 1) 69 ls (.int y :: .int x :: st) h k n = (WP 141 G S f 70 ls (.int (x + y) :: st) h k n) := by rw [wp_s dd_141_69 rfl hs]; rfl
theorem dd_141_70 : decode (mB 141) 70 = .ok (.iaload, 1) := by decide +kernel
theorem u_141_70 {G : aG} {S : Nat → Bool} {f : Nat} {st : List Value} {ls : aL} {h : aH} {k n : Nat} {i : Int32} {a : Nat} (hs : S 70 = false) : WP 141 G S (f + 1) 70 ls (.int i :: .ref a :: st) h k n = (oIld (iget h a 1) i (WP 141 G S f) 71 ls st h k n) := by rw [wp_s dd_141_70 rfl hs]; rfl
theorem dd_141_71 : decode (mB 141) 71 = .ok (.iastore, 1) := by decide +kernel
theorem u_141_71 {G : aG} {S : Nat → Bool} {f : Nat} {st : List Value} {ls : aL} {h : aH} {k n : Nat} {i x : Int32} {a : Nat} (hs : S 71 = false) : WP 141 G S (f + 1) 71 ls (.int x :: .int i :: .ref a :: st) h k n = (oIst (iget h a 1) a i x (WP 141 G S f) 72 ls st h k n) := by rw [wp_s dd_141_71 rfl hs]; rfl
theorem dd_141_72 : decode (mB 141) 72 = .ok (.iinc 4 1, 3) := by decide +kernel
theorem u_141_72 {G : aG} {S : Nat → Bool} {f : Nat} {st : List Value} {ls : aL} {h : aH} {k n : Nat} (hs : S 72 = false) : WP 141 G S (f + 1) 72 ls st h k n = (oInc (lget ls 4) (nI 1) (WP 141 G S f) 4 75 ls st h k n) := by rw [wp_s dd_141_72 rfl hs]; rfl
theorem dd_141_75 : decode (mB 141) 75 = .ok (.goto (-39), 3) := by decide +kernel
theorem u_141_75 {G : aG} {S : Nat → Bool} {f : Nat} {st : List Value} {ls : aL} {h : aH} {k n : Nat} (hs : S 75 = false) : WP 141 G S (f + 1) 75 ls st h k n = (WP 141 G S f 36 ls st h k n) := by rw [wp_s dd_141_75 rfl hs]; rfl
theorem dd_141_78 : decode (mB 141) 78 = .ok (.aload_n 0, 1) := by decide +kernel
theorem u_141_78 {G : aG} {S : Nat → Bool} {f : Nat} {st : List Value} {ls : aL} {h : aH} {k n : Nat} (hs : S 78 = false) : WP 141 G S (f + 1) 78 ls st h k n = (oA (lget ls 0) (WP 141 G S f) 79 ls st h k n) := by rw [wp_s dd_141_78 rfl hs]; rfl
theorem dd_141_79 : decode (mB 141) 79 = .ok (.getfield 46, 3) := by decide +kernel
theorem u_141_79 {G : aG} {S : Nat → Bool} {f : Nat} {st : List Value} {ls : aL} {h : aH} {k n : Nat} {a : Nat} (hs : S 79 = false) : WP 141 G S (f + 1) 79 ls (.ref a :: st) h k n = (oV (fget h a 10 14) (WP 141 G S f) 82 ls st h k n) := by rw [wp_s dd_141_79 rfl hs]; rfl
theorem dd_141_82 : decode (mB 141) 82 = .ok (.iload_n 2, 1) := by decide +kernel
theorem u_141_82 {G : aG} {S : Nat → Bool} {f : Nat} {st : List Value} {ls : aL} {h : aH} {k n : Nat} (hs : S 82 = false) : WP 141 G S (f + 1) 82 ls st h k n = (oI (lget ls 2) (WP 141 G S f) 83 ls st h k n) := by rw [wp_s dd_141_82 rfl hs]; rfl
theorem dd_141_83 : decode (mB 141) 83 = .ok (.aload_n 0, 1) := by decide +kernel
theorem u_141_83 {G : aG} {S : Nat → Bool} {f : Nat} {st : List Value} {ls : aL} {h : aH} {k n : Nat} (hs : S 83 = false) : WP 141 G S (f + 1) 83 ls st h k n = (oA (lget ls 0) (WP 141 G S f) 84 ls st h k n) := by rw [wp_s dd_141_83 rfl hs]; rfl
theorem dd_141_84 : decode (mB 141) 84 = .ok (.getfield 46, 3) := by decide +kernel
theorem u_141_84 {G : aG} {S : Nat → Bool} {f : Nat} {st : List Value} {ls : aL} {h : aH} {k n : Nat} {a : Nat} (hs : S 84 = false) : WP 141 G S (f + 1) 84 ls (.ref a :: st) h k n = (oV (fget h a 10 14) (WP 141 G S f) 87 ls st h k n) := by rw [wp_s dd_141_84 rfl hs]; rfl
theorem dd_141_87 : decode (mB 141) 87 = .ok (.bipush 19, 2) := by decide +kernel
theorem u_141_87 {G : aG} {S : Nat → Bool} {f : Nat} {st : List Value} {ls : aL} {h : aH} {k n : Nat} (hs : S 87 = false) : WP 141 G S (f + 1) 87 ls st h k n = (WP 141 G S f 89 ls (.int (nI 19) :: st) h k n) := by rw [wp_s dd_141_87 rfl hs]; rfl
theorem dd_141_89 : decode (mB 141) 89 = .ok (.iaload, 1) := by decide +kernel
theorem u_141_89 {G : aG} {S : Nat → Bool} {f : Nat} {st : List Value} {ls : aL} {h : aH} {k n : Nat} {i : Int32} {a : Nat} (hs : S 89 = false) : WP 141 G S (f + 1) 89 ls (.int i :: .ref a :: st) h k n = (oIld (iget h a 1) i (WP 141 G S f) 90 ls st h k n) := by rw [wp_s dd_141_89 rfl hs]; rfl
theorem dd_141_90 : decode (mB 141) 90 = .ok (.iastore, 1) := by decide +kernel
theorem u_141_90 {G : aG} {S : Nat → Bool} {f : Nat} {st : List Value} {ls : aL} {h : aH} {k n : Nat} {i x : Int32} {a : Nat} (hs : S 90 = false) : WP 141 G S (f + 1) 90 ls (.int x :: .int i :: .ref a :: st) h k n = (oIst (iget h a 1) a i x (WP 141 G S f) 91 ls st h k n) := by rw [wp_s dd_141_90 rfl hs]; rfl
theorem dd_141_91 : decode (mB 141) 91 = .ok (.aload_n 0, 1) := by decide +kernel
theorem u_141_91 {G : aG} {S : Nat → Bool} {f : Nat} {st : List Value} {ls : aL} {h : aH} {k n : Nat} (hs : S 91 = false) : WP 141 G S (f + 1) 91 ls st h k n = (oA (lget ls 0) (WP 141 G S f) 92 ls st h k n) := by rw [wp_s dd_141_91 rfl hs]; rfl
theorem dd_141_92 : decode (mB 141) 92 = .ok (.dup, 1) := by decide +kernel
theorem u_141_92 {G : aG} {S : Nat → Bool} {f : Nat} {st : List Value} {ls : aL} {h : aH} {k n : Nat} {v : Value} (hs : S 92 = false) : WP 141 G S (f + 1) 92 ls (v :: st) h k n = (cond (cat1 v) (WP 141 G S f 93 ls (v :: v :: st) h k n) False) := by rw [wp_s dd_141_92 rfl hs]; rfl
theorem dd_141_93 : decode (mB 141) 93 = .ok (.getfield 120, 3) := by decide +kernel
theorem u_141_93 {G : aG} {S : Nat → Bool} {f : Nat} {st : List Value} {ls : aL} {h : aH} {k n : Nat} {a : Nat} (hs : S 93 = false) : WP 141 G S (f + 1) 93 ls (.ref a :: st) h k n = (oV (fget h a 10 17) (WP 141 G S f) 96 ls st h k n) := by rw [wp_s dd_141_93 rfl hs]; rfl
theorem dd_141_96 : decode (mB 141) 96 = .ok (.iconst 1, 1) := by decide +kernel
theorem u_141_96 {G : aG} {S : Nat → Bool} {f : Nat} {st : List Value} {ls : aL} {h : aH} {k n : Nat} (hs : S 96 = false) : WP 141 G S (f + 1) 96 ls st h k n = (WP 141 G S f 97 ls (.int (nI 1) :: st) h k n) := by rw [wp_s dd_141_96 rfl hs]; rfl
theorem dd_141_97 : decode (mB 141) 97 = .ok (.iadd, 1) := by decide +kernel
theorem u_141_97 {G : aG} {S : Nat → Bool} {f : Nat} {st : List Value} {ls : aL} {h : aH} {k n : Nat} {x y : Int32} (hs : S 97 = false) : WP 141 G S (f + 1) 97 ls (.int y :: .int x :: st) h k n = (WP 141 G S f 98 ls (.int (x + y) :: st) h k n) := by rw [wp_s dd_141_97 rfl hs]; rfl
theorem dd_141_98 : decode (mB 141) 98 = .ok (.putfield 120, 3) := by decide +kernel
theorem u_141_98 {G : aG} {S : Nat → Bool} {f : Nat} {st : List Value} {ls : aL} {h : aH} {k n : Nat} {a : Nat} {x : Int32} (hs : S 98 = false) : WP 141 G S (f + 1) 98 ls (.int x :: .ref a :: st) h k n = (oH (fput h a 10 17 (.int x)) (WP 141 G S f) 101 ls st k n) := by rw [wp_s dd_141_98 rfl hs]; rfl
theorem dd_141_101 : decode (mB 141) 101 = .ok (.aload_n 0, 1) := by decide +kernel
theorem u_141_101 {G : aG} {S : Nat → Bool} {f : Nat} {st : List Value} {ls : aL} {h : aH} {k n : Nat} (hs : S 101 = false) : WP 141 G S (f + 1) 101 ls st h k n = (oA (lget ls 0) (WP 141 G S f) 102 ls st h k n) := by rw [wp_s dd_141_101 rfl hs]; rfl
theorem dd_141_102 : decode (mB 141) 102 = .ok (.invokevirtual 152, 3) := by decide +kernel
theorem u_141_102 {G : aG} {S : Nat → Bool} {f : Nat} {st : List Value} {ls : aL} {h : aH} {k n : Nat} {b : Nat} (hs : S 102 = false) : WP 141 G S (f + 1) 102 ls (.ref b :: st) h k n = (rcv (hget h b) 10 ∧ CAL G (WP 141 G S f) 109 [.ref b] 105 ls st h k n) := by rw [wp_s dd_141_102 rfl hs]; rfl
theorem dd_141_105 : decode (mB 141) 105 = .ok (.istore 4, 2) := by decide +kernel
theorem u_141_105 {G : aG} {S : Nat → Bool} {f : Nat} {st : List Value} {ls : aL} {h : aH} {k n : Nat} {x : Int32} (hs : S 105 = false) : WP 141 G S (f + 1) 105 ls (.int x :: st) h k n = (WP 141 G S f 107 (lput1 ls 4 (.int x)) st h k n) := by rw [wp_s dd_141_105 rfl hs]; rfl
theorem dd_141_107 : decode (mB 141) 107 = .ok (.aload_n 0, 1) := by decide +kernel
theorem u_141_107 {G : aG} {S : Nat → Bool} {f : Nat} {st : List Value} {ls : aL} {h : aH} {k n : Nat} (hs : S 107 = false) : WP 141 G S (f + 1) 107 ls st h k n = (oA (lget ls 0) (WP 141 G S f) 108 ls st h k n) := by rw [wp_s dd_141_107 rfl hs]; rfl
theorem dd_141_108 : decode (mB 141) 108 = .ok (.iload_n 1, 1) := by decide +kernel
theorem u_141_108 {G : aG} {S : Nat → Bool} {f : Nat} {st : List Value} {ls : aL} {h : aH} {k n : Nat} (hs : S 108 = false) : WP 141 G S (f + 1) 108 ls st h k n = (oI (lget ls 1) (WP 141 G S f) 109 ls st h k n) := by rw [wp_s dd_141_108 rfl hs]; rfl
theorem dd_141_109 : decode (mB 141) 109 = .ok (.invokevirtual 180, 3) := by decide +kernel
theorem u_141_109 {G : aG} {S : Nat → Bool} {f : Nat} {st : List Value} {ls : aL} {h : aH} {k n : Nat} {v1 : Value} {b : Nat} (hs : S 109 = false) : WP 141 G S (f + 1) 109 ls (v1 :: .ref b :: st) h k n = (rcv (hget h b) 10 ∧ CAL G (WP 141 G S f) 123 [.ref b, v1] 112 ls st h k n) := by rw [wp_s dd_141_109 rfl hs]; rfl
theorem dd_141_112 : decode (mB 141) 112 = .ok (.aload_n 0, 1) := by decide +kernel
theorem u_141_112 {G : aG} {S : Nat → Bool} {f : Nat} {st : List Value} {ls : aL} {h : aH} {k n : Nat} (hs : S 112 = false) : WP 141 G S (f + 1) 112 ls st h k n = (oA (lget ls 0) (WP 141 G S f) 113 ls st h k n) := by rw [wp_s dd_141_112 rfl hs]; rfl
theorem dd_141_113 : decode (mB 141) 113 = .ok (.iload_n 2, 1) := by decide +kernel
theorem u_141_113 {G : aG} {S : Nat → Bool} {f : Nat} {st : List Value} {ls : aL} {h : aH} {k n : Nat} (hs : S 113 = false) : WP 141 G S (f + 1) 113 ls st h k n = (oI (lget ls 2) (WP 141 G S f) 114 ls st h k n) := by rw [wp_s dd_141_113 rfl hs]; rfl
theorem dd_141_114 : decode (mB 141) 114 = .ok (.iconst 1, 1) := by decide +kernel
theorem u_141_114 {G : aG} {S : Nat → Bool} {f : Nat} {st : List Value} {ls : aL} {h : aH} {k n : Nat} (hs : S 114 = false) : WP 141 G S (f + 1) 114 ls st h k n = (WP 141 G S f 115 ls (.int (nI 1) :: st) h k n) := by rw [wp_s dd_141_114 rfl hs]; rfl
theorem dd_141_115 : decode (mB 141) 115 = .ok (.iadd, 1) := by decide +kernel
theorem u_141_115 {G : aG} {S : Nat → Bool} {f : Nat} {st : List Value} {ls : aL} {h : aH} {k n : Nat} {x y : Int32} (hs : S 115 = false) : WP 141 G S (f + 1) 115 ls (.int y :: .int x :: st) h k n = (WP 141 G S f 116 ls (.int (x + y) :: st) h k n) := by rw [wp_s dd_141_115 rfl hs]; rfl
theorem dd_141_116 : decode (mB 141) 116 = .ok (.invokevirtual 186, 3) := by decide +kernel
theorem u_141_116 {G : aG} {S : Nat → Bool} {f : Nat} {st : List Value} {ls : aL} {h : aH} {k n : Nat} {v1 : Value} {b : Nat} (hs : S 116 = false) : WP 141 G S (f + 1) 116 ls (v1 :: .ref b :: st) h k n = (rcv (hget h b) 10 ∧ CAL G (WP 141 G S f) 126 [.ref b, v1] 119 ls st h k n) := by rw [wp_s dd_141_116 rfl hs]; rfl
theorem dd_141_119 : decode (mB 141) 119 = .ok (.iload 4, 2) := by decide +kernel
theorem u_141_119 {G : aG} {S : Nat → Bool} {f : Nat} {st : List Value} {ls : aL} {h : aH} {k n : Nat} (hs : S 119 = false) : WP 141 G S (f + 1) 119 ls st h k n = (oI (lget ls 4) (WP 141 G S f) 121 ls st h k n) := by rw [wp_s dd_141_119 rfl hs]; rfl
theorem dd_141_121 : decode (mB 141) 121 = .ok (.bipush 40, 2) := by decide +kernel
theorem u_141_121 {G : aG} {S : Nat → Bool} {f : Nat} {st : List Value} {ls : aL} {h : aH} {k n : Nat} (hs : S 121 = false) : WP 141 G S (f + 1) 121 ls st h k n = (WP 141 G S f 123 ls (.int (nI 40) :: st) h k n) := by rw [wp_s dd_141_121 rfl hs]; rfl
theorem dd_141_123 : decode (mB 141) 123 = .ok (.if_icmp .eq 42, 3) := by decide +kernel
theorem u_141_123 {G : aG} {S : Nat → Bool} {f : Nat} {st : List Value} {ls : aL} {h : aH} {k n : Nat} {x y : Int32} (hs : S 123 = false) : WP 141 G S (f + 1) 123 ls (.int y :: .int x :: st) h k n = (if x = y then WP 141 G S f 165 ls st h k n else WP 141 G S f 126 ls st h k n) := by rw [wp_s dd_141_123 rfl hs]; exact br_ite (c := x = y)
theorem dd_141_126 : decode (mB 141) 126 = .ok (.aload_n 0, 1) := by decide +kernel
theorem u_141_126 {G : aG} {S : Nat → Bool} {f : Nat} {st : List Value} {ls : aL} {h : aH} {k n : Nat} (hs : S 126 = false) : WP 141 G S (f + 1) 126 ls st h k n = (oA (lget ls 0) (WP 141 G S f) 127 ls st h k n) := by rw [wp_s dd_141_126 rfl hs]; rfl
theorem dd_141_127 : decode (mB 141) 127 = .ok (.getfield 37, 3) := by decide +kernel
theorem u_141_127 {G : aG} {S : Nat → Bool} {f : Nat} {st : List Value} {ls : aL} {h : aH} {k n : Nat} {a : Nat} (hs : S 127 = false) : WP 141 G S (f + 1) 127 ls (.ref a :: st) h k n = (oV (fget h a 10 11) (WP 141 G S f) 130 ls st h k n) := by rw [wp_s dd_141_127 rfl hs]; rfl
theorem dd_141_130 : decode (mB 141) 130 = .ok (.aload_n 0, 1) := by decide +kernel
theorem u_141_130 {G : aG} {S : Nat → Bool} {f : Nat} {st : List Value} {ls : aL} {h : aH} {k n : Nat} (hs : S 130 = false) : WP 141 G S (f + 1) 130 ls st h k n = (oA (lget ls 0) (WP 141 G S f) 131 ls st h k n) := by rw [wp_s dd_141_130 rfl hs]; rfl
theorem dd_141_131 : decode (mB 141) 131 = .ok (.getfield 81, 3) := by decide +kernel
theorem u_141_131 {G : aG} {S : Nat → Bool} {f : Nat} {st : List Value} {ls : aL} {h : aH} {k n : Nat} {a : Nat} (hs : S 131 = false) : WP 141 G S (f + 1) 131 ls (.ref a :: st) h k n = (oV (fget h a 10 4) (WP 141 G S f) 134 ls st h k n) := by rw [wp_s dd_141_131 rfl hs]; rfl
theorem dd_141_134 : decode (mB 141) 134 = .ok (.iconst 1, 1) := by decide +kernel
theorem u_141_134 {G : aG} {S : Nat → Bool} {f : Nat} {st : List Value} {ls : aL} {h : aH} {k n : Nat} (hs : S 134 = false) : WP 141 G S (f + 1) 134 ls st h k n = (WP 141 G S f 135 ls (.int (nI 1) :: st) h k n) := by rw [wp_s dd_141_134 rfl hs]; rfl
theorem dd_141_135 : decode (mB 141) 135 = .ok (.isub, 1) := by decide +kernel
theorem u_141_135 {G : aG} {S : Nat → Bool} {f : Nat} {st : List Value} {ls : aL} {h : aH} {k n : Nat} {x y : Int32} (hs : S 135 = false) : WP 141 G S (f + 1) 135 ls (.int y :: .int x :: st) h k n = (WP 141 G S f 136 ls (.int (x - y) :: st) h k n) := by rw [wp_s dd_141_135 rfl hs]; rfl
theorem dd_141_136 : decode (mB 141) 136 = .ok (.iaload, 1) := by decide +kernel
theorem u_141_136 {G : aG} {S : Nat → Bool} {f : Nat} {st : List Value} {ls : aL} {h : aH} {k n : Nat} {i : Int32} {a : Nat} (hs : S 136 = false) : WP 141 G S (f + 1) 136 ls (.int i :: .ref a :: st) h k n = (oIld (iget h a 1) i (WP 141 G S f) 137 ls st h k n) := by rw [wp_s dd_141_136 rfl hs]; rfl
theorem dd_141_137 : decode (mB 141) 137 = .ok (.ifCond .ne 28, 3) := by decide +kernel
theorem u_141_137 {G : aG} {S : Nat → Bool} {f : Nat} {st : List Value} {ls : aL} {h : aH} {k n : Nat} {x : Int32} (hs : S 137 = false) : WP 141 G S (f + 1) 137 ls (.int x :: st) h k n = (if x = nI 0 then WP 141 G S f 140 ls st h k n else WP 141 G S f 165 ls st h k n) := by rw [wp_s dd_141_137 rfl hs]; exact br_iten (c := x = nI 0)
theorem dd_141_140 : decode (mB 141) 140 = .ok (.aload_n 0, 1) := by decide +kernel
theorem u_141_140 {G : aG} {S : Nat → Bool} {f : Nat} {st : List Value} {ls : aL} {h : aH} {k n : Nat} (hs : S 140 = false) : WP 141 G S (f + 1) 140 ls st h k n = (oA (lget ls 0) (WP 141 G S f) 141 ls st h k n) := by rw [wp_s dd_141_140 rfl hs]; rfl
theorem dd_141_141 : decode (mB 141) 141 = .ok (.iload 4, 2) := by decide +kernel
theorem u_141_141 {G : aG} {S : Nat → Bool} {f : Nat} {st : List Value} {ls : aL} {h : aH} {k n : Nat} (hs : S 141 = false) : WP 141 G S (f + 1) 141 ls st h k n = (oI (lget ls 4) (WP 141 G S f) 143 ls st h k n) := by rw [wp_s dd_141_141 rfl hs]; rfl
theorem dd_141_143 : decode (mB 141) 143 = .ok (.iconst (-1), 1) := by decide +kernel
theorem u_141_143 {G : aG} {S : Nat → Bool} {f : Nat} {st : List Value} {ls : aL} {h : aH} {k n : Nat} (hs : S 143 = false) : WP 141 G S (f + 1) 143 ls st h k n = (WP 141 G S f 144 ls (.int (-1) :: st) h k n) := by rw [wp_s dd_141_143 rfl hs]; rfl
theorem dd_141_144 : decode (mB 141) 144 = .ok (.if_icmp .ne 10, 3) := by decide +kernel
theorem u_141_144 {G : aG} {S : Nat → Bool} {f : Nat} {st : List Value} {ls : aL} {h : aH} {k n : Nat} {x y : Int32} (hs : S 144 = false) : WP 141 G S (f + 1) 144 ls (.int y :: .int x :: st) h k n = (if x = y then WP 141 G S f 147 ls st h k n else WP 141 G S f 154 ls st h k n) := by rw [wp_s dd_141_144 rfl hs]; exact br_iten (c := x = y)
theorem dd_141_147 : decode (mB 141) 147 = .ok (.aload_n 0, 1) := by decide +kernel
theorem u_141_147 {G : aG} {S : Nat → Bool} {f : Nat} {st : List Value} {ls : aL} {h : aH} {k n : Nat} (hs : S 147 = false) : WP 141 G S (f + 1) 147 ls st h k n = (oA (lget ls 0) (WP 141 G S f) 148 ls st h k n) := by rw [wp_s dd_141_147 rfl hs]; rfl
theorem dd_141_148 : decode (mB 141) 148 = .ok (.getfield 117, 3) := by decide +kernel
theorem u_141_148 {G : aG} {S : Nat → Bool} {f : Nat} {st : List Value} {ls : aL} {h : aH} {k n : Nat} {a : Nat} (hs : S 148 = false) : WP 141 G S (f + 1) 148 ls (.ref a :: st) h k n = (oV (fget h a 10 16) (WP 141 G S f) 151 ls st h k n) := by rw [wp_s dd_141_148 rfl hs]; rfl
theorem dd_141_151 : decode (mB 141) 151 = .ok (.goto 7, 3) := by decide +kernel
theorem u_141_151 {G : aG} {S : Nat → Bool} {f : Nat} {st : List Value} {ls : aL} {h : aH} {k n : Nat} (hs : S 151 = false) : WP 141 G S (f + 1) 151 ls st h k n = (WP 141 G S f 158 ls st h k n) := by rw [wp_s dd_141_151 rfl hs]; rfl
theorem dd_141_154 : decode (mB 141) 154 = .ok (.aload_n 0, 1) := by decide +kernel
theorem u_141_154 {G : aG} {S : Nat → Bool} {f : Nat} {st : List Value} {ls : aL} {h : aH} {k n : Nat} (hs : S 154 = false) : WP 141 G S (f + 1) 154 ls st h k n = (oA (lget ls 0) (WP 141 G S f) 155 ls st h k n) := by rw [wp_s dd_141_154 rfl hs]; rfl
theorem dd_141_155 : decode (mB 141) 155 = .ok (.getfield 120, 3) := by decide +kernel
theorem u_141_155 {G : aG} {S : Nat → Bool} {f : Nat} {st : List Value} {ls : aL} {h : aH} {k n : Nat} {a : Nat} (hs : S 155 = false) : WP 141 G S (f + 1) 155 ls (.ref a :: st) h k n = (oV (fget h a 10 17) (WP 141 G S f) 158 ls st h k n) := by rw [wp_s dd_141_155 rfl hs]; rfl
theorem dd_141_158 : decode (mB 141) 158 = .ok (.iload_n 2, 1) := by decide +kernel
theorem u_141_158 {G : aG} {S : Nat → Bool} {f : Nat} {st : List Value} {ls : aL} {h : aH} {k n : Nat} (hs : S 158 = false) : WP 141 G S (f + 1) 158 ls st h k n = (oI (lget ls 2) (WP 141 G S f) 159 ls st h k n) := by rw [wp_s dd_141_158 rfl hs]; rfl
theorem dd_141_159 : decode (mB 141) 159 = .ok (.iconst 1, 1) := by decide +kernel
theorem u_141_159 {G : aG} {S : Nat → Bool} {f : Nat} {st : List Value} {ls : aL} {h : aH} {k n : Nat} (hs : S 159 = false) : WP 141 G S (f + 1) 159 ls st h k n = (WP 141 G S f 160 ls (.int (nI 1) :: st) h k n) := by rw [wp_s dd_141_159 rfl hs]; rfl
theorem dd_141_160 : decode (mB 141) 160 = .ok (.iadd, 1) := by decide +kernel
theorem u_141_160 {G : aG} {S : Nat → Bool} {f : Nat} {st : List Value} {ls : aL} {h : aH} {k n : Nat} {x y : Int32} (hs : S 160 = false) : WP 141 G S (f + 1) 160 ls (.int y :: .int x :: st) h k n = (WP 141 G S f 161 ls (.int (x + y) :: st) h k n) := by rw [wp_s dd_141_160 rfl hs]; rfl
theorem dd_141_161 : decode (mB 141) 161 = .ok (.invokevirtual 221, 3) := by decide +kernel
theorem u_141_161 {G : aG} {S : Nat → Bool} {f : Nat} {st : List Value} {ls : aL} {h : aH} {k n : Nat} {v1 v2 : Value} {b : Nat} (hs : S 161 = false) : WP 141 G S (f + 1) 161 ls (v2 :: v1 :: .ref b :: st) h k n = (rcv (hget h b) 10 ∧ CAL G (WP 141 G S f) 140 [.ref b, v1, v2] 164 ls st h k n) := by rw [wp_s dd_141_161 rfl hs]; rfl
theorem dd_141_164 : decode (mB 141) 164 = .ok (.ireturn, 1) := by decide +kernel
theorem u_141_164 {G : aG} {S : Nat → Bool} {f : Nat} {ls : aL} {h : aH} {k n : Nat} {x : Int32} (hs : S 164 = false) : WP 141 G S (f + 1) 164 ls [.int x] h k n = (cond (x == nI 0 || x == nI 1) (RET G (some (.int x)) h k n) False) := by rw [wp_s dd_141_164 rfl hs]; rfl
theorem dd_141_165 : decode (mB 141) 165 = .ok (.aload_n 0, 1) := by decide +kernel
theorem u_141_165 {G : aG} {S : Nat → Bool} {f : Nat} {st : List Value} {ls : aL} {h : aH} {k n : Nat} (hs : S 165 = false) : WP 141 G S (f + 1) 165 ls st h k n = (oA (lget ls 0) (WP 141 G S f) 166 ls st h k n) := by rw [wp_s dd_141_165 rfl hs]; rfl
theorem dd_141_166 : decode (mB 141) 166 = .ok (.getfield 67, 3) := by decide +kernel
theorem u_141_166 {G : aG} {S : Nat → Bool} {f : Nat} {st : List Value} {ls : aL} {h : aH} {k n : Nat} {a : Nat} (hs : S 166 = false) : WP 141 G S (f + 1) 166 ls (.ref a :: st) h k n = (oV (fget h a 10 29) (WP 141 G S f) 169 ls st h k n) := by rw [wp_s dd_141_166 rfl hs]; rfl
theorem dd_141_169 : decode (mB 141) 169 = .ok (.iload_n 2, 1) := by decide +kernel
theorem u_141_169 {G : aG} {S : Nat → Bool} {f : Nat} {st : List Value} {ls : aL} {h : aH} {k n : Nat} (hs : S 169 = false) : WP 141 G S (f + 1) 169 ls st h k n = (oI (lget ls 2) (WP 141 G S f) 170 ls st h k n) := by rw [wp_s dd_141_169 rfl hs]; rfl
theorem dd_141_170 : decode (mB 141) 170 = .ok (.iconst 1, 1) := by decide +kernel
theorem u_141_170 {G : aG} {S : Nat → Bool} {f : Nat} {st : List Value} {ls : aL} {h : aH} {k n : Nat} (hs : S 170 = false) : WP 141 G S (f + 1) 170 ls st h k n = (WP 141 G S f 171 ls (.int (nI 1) :: st) h k n) := by rw [wp_s dd_141_170 rfl hs]; rfl
theorem dd_141_171 : decode (mB 141) 171 = .ok (.iadd, 1) := by decide +kernel
theorem u_141_171 {G : aG} {S : Nat → Bool} {f : Nat} {st : List Value} {ls : aL} {h : aH} {k n : Nat} {x y : Int32} (hs : S 171 = false) : WP 141 G S (f + 1) 171 ls (.int y :: .int x :: st) h k n = (WP 141 G S f 172 ls (.int (x + y) :: st) h k n) := by rw [wp_s dd_141_171 rfl hs]; rfl
theorem dd_141_172 : decode (mB 141) 172 = .ok (.iload_n 1, 1) := by decide +kernel
theorem u_141_172 {G : aG} {S : Nat → Bool} {f : Nat} {st : List Value} {ls : aL} {h : aH} {k n : Nat} (hs : S 172 = false) : WP 141 G S (f + 1) 172 ls st h k n = (oI (lget ls 1) (WP 141 G S f) 173 ls st h k n) := by rw [wp_s dd_141_172 rfl hs]; rfl
theorem dd_141_173 : decode (mB 141) 173 = .ok (.iastore, 1) := by decide +kernel
theorem u_141_173 {G : aG} {S : Nat → Bool} {f : Nat} {st : List Value} {ls : aL} {h : aH} {k n : Nat} {i x : Int32} {a : Nat} (hs : S 173 = false) : WP 141 G S (f + 1) 173 ls (.int x :: .int i :: .ref a :: st) h k n = (oIst (iget h a 1) a i x (WP 141 G S f) 174 ls st h k n) := by rw [wp_s dd_141_173 rfl hs]; rfl
theorem dd_141_174 : decode (mB 141) 174 = .ok (.iconst 0, 1) := by decide +kernel
theorem u_141_174 {G : aG} {S : Nat → Bool} {f : Nat} {st : List Value} {ls : aL} {h : aH} {k n : Nat} (hs : S 174 = false) : WP 141 G S (f + 1) 174 ls st h k n = (WP 141 G S f 175 ls (.int (nI 0) :: st) h k n) := by rw [wp_s dd_141_174 rfl hs]; rfl
theorem dd_141_175 : decode (mB 141) 175 = .ok (.ireturn, 1) := by decide +kernel
theorem u_141_175 {G : aG} {S : Nat → Bool} {f : Nat} {ls : aL} {h : aH} {k n : Nat} {x : Int32} (hs : S 175 = false) : WP 141 G S (f + 1) 175 ls [.int x] h k n = (cond (x == nI 0 || x == nI 1) (RET G (some (.int x)) h k n) False) := by rw [wp_s dd_141_175 rfl hs]; rfl
theorem dd_142_0 : decode (mB 142) 0 = .ok (.iload_n 1, 1) := by decide +kernel
theorem u_142_0 {G : aG} {S : Nat → Bool} {f : Nat} {st : List Value} {ls : aL} {h : aH} {k n : Nat} (hs : S 0 = false) : WP 142 G S (f + 1) 0 ls st h k n = (oI (lget ls 1) (WP 142 G S f) 1 ls st h k n) := by rw [wp_s dd_142_0 rfl hs]; rfl
theorem dd_142_1 : decode (mB 142) 1 = .ok (.tableswitch 69 0 4 #[35, 49, 54, 59, 64], 35) := by decide +kernel
theorem u_142_1 {G : aG} {S : Nat → Bool} {f : Nat} {st : List Value} {ls : aL} {h : aH} {k n : Nat} {x : Int32} (hs : S 1 = false) : WP 142 G S (f + 1) 1 ls (.int x :: st) h k n = (if x = nI 0 then WP 142 G S f 36 ls st h k n else (if x = nI 1 then WP 142 G S f 50 ls st h k n else (if x = nI 2 then WP 142 G S f 55 ls st h k n else (if x = nI 3 then WP 142 G S f 60 ls st h k n else (if x = nI 4 then WP 142 G S f 65 ls st h k n else (WP 142 G S f 70 ls st h k n)))))) := by rw [wp_s dd_142_1 rfl hs]; show WP 142 G S f (tgtT 1 0 4 [35, 49, 54, 59, 64] 69 x) ls st h k n = _; refine (ts_ite (K := fun q => WP 142 G S f q ls st h k n) (nI 0) rfl (by decide)).trans (if_cg ?_); refine (ts_ite (K := fun q => WP 142 G S f q ls st h k n) (nI 1) rfl (by decide)).trans (if_cg ?_); refine (ts_ite (K := fun q => WP 142 G S f q ls st h k n) (nI 2) rfl (by decide)).trans (if_cg ?_); refine (ts_ite (K := fun q => WP 142 G S f q ls st h k n) (nI 3) rfl (by decide)).trans (if_cg ?_); refine (ts_ite (K := fun q => WP 142 G S f q ls st h k n) (nI 4) rfl (by decide)).trans (if_cg ?_); exact ts_nil (K := fun q => WP 142 G S f q ls st h k n) (by decide)
theorem dd_142_36 : decode (mB 142) 36 = .ok (.aload_n 0, 1) := by decide +kernel
theorem u_142_36 {G : aG} {S : Nat → Bool} {f : Nat} {st : List Value} {ls : aL} {h : aH} {k n : Nat} (hs : S 36 = false) : WP 142 G S (f + 1) 36 ls st h k n = (oA (lget ls 0) (WP 142 G S f) 37 ls st h k n) := by rw [wp_s dd_142_36 rfl hs]; rfl
theorem dd_142_37 : decode (mB 142) 37 = .ok (.getfield 212, 3) := by decide +kernel
theorem u_142_37 {G : aG} {S : Nat → Bool} {f : Nat} {st : List Value} {ls : aL} {h : aH} {k n : Nat} {a : Nat} (hs : S 37 = false) : WP 142 G S (f + 1) 37 ls (.ref a :: st) h k n = (oV (fget h a 10 30) (WP 142 G S f) 40 ls st h k n) := by rw [wp_s dd_142_37 rfl hs]; rfl
theorem dd_142_40 : decode (mB 142) 40 = .ok (.iconst (-1), 1) := by decide +kernel
theorem u_142_40 {G : aG} {S : Nat → Bool} {f : Nat} {st : List Value} {ls : aL} {h : aH} {k n : Nat} (hs : S 40 = false) : WP 142 G S (f + 1) 40 ls st h k n = (WP 142 G S f 41 ls (.int (-1) :: st) h k n) := by rw [wp_s dd_142_40 rfl hs]; rfl
theorem dd_142_41 : decode (mB 142) 41 = .ok (.if_icmp .ne 7, 3) := by decide +kernel
theorem u_142_41 {G : aG} {S : Nat → Bool} {f : Nat} {st : List Value} {ls : aL} {h : aH} {k n : Nat} {x y : Int32} (hs : S 41 = false) : WP 142 G S (f + 1) 41 ls (.int y :: .int x :: st) h k n = (if x = y then WP 142 G S f 44 ls st h k n else WP 142 G S f 48 ls st h k n) := by rw [wp_s dd_142_41 rfl hs]; exact br_iten (c := x = y)
theorem dd_142_44 : decode (mB 142) 44 = .ok (.iconst 1, 1) := by decide +kernel
theorem u_142_44 {G : aG} {S : Nat → Bool} {f : Nat} {st : List Value} {ls : aL} {h : aH} {k n : Nat} (hs : S 44 = false) : WP 142 G S (f + 1) 44 ls st h k n = (WP 142 G S f 45 ls (.int (nI 1) :: st) h k n) := by rw [wp_s dd_142_44 rfl hs]; rfl
theorem dd_142_45 : decode (mB 142) 45 = .ok (.goto 4, 3) := by decide +kernel
theorem u_142_45 {G : aG} {S : Nat → Bool} {f : Nat} {st : List Value} {ls : aL} {h : aH} {k n : Nat} (hs : S 45 = false) : WP 142 G S (f + 1) 45 ls st h k n = (WP 142 G S f 49 ls st h k n) := by rw [wp_s dd_142_45 rfl hs]; rfl
theorem dd_142_48 : decode (mB 142) 48 = .ok (.iconst 0, 1) := by decide +kernel
theorem u_142_48 {G : aG} {S : Nat → Bool} {f : Nat} {st : List Value} {ls : aL} {h : aH} {k n : Nat} (hs : S 48 = false) : WP 142 G S (f + 1) 48 ls st h k n = (WP 142 G S f 49 ls (.int (nI 0) :: st) h k n) := by rw [wp_s dd_142_48 rfl hs]; rfl
theorem dd_142_49 : decode (mB 142) 49 = .ok (.ireturn, 1) := by decide +kernel
theorem u_142_49 {G : aG} {S : Nat → Bool} {f : Nat} {ls : aL} {h : aH} {k n : Nat} {x : Int32} (hs : S 49 = false) : WP 142 G S (f + 1) 49 ls [.int x] h k n = (RET G (some (.int x)) h k n) := by rw [wp_s dd_142_49 rfl hs]; rfl
theorem dd_142_50 : decode (mB 142) 50 = .ok (.aload_n 0, 1) := by decide +kernel
theorem u_142_50 {G : aG} {S : Nat → Bool} {f : Nat} {st : List Value} {ls : aL} {h : aH} {k n : Nat} (hs : S 50 = false) : WP 142 G S (f + 1) 50 ls st h k n = (oA (lget ls 0) (WP 142 G S f) 51 ls st h k n) := by rw [wp_s dd_142_50 rfl hs]; rfl
theorem dd_142_51 : decode (mB 142) 51 = .ok (.getfield 212, 3) := by decide +kernel
theorem u_142_51 {G : aG} {S : Nat → Bool} {f : Nat} {st : List Value} {ls : aL} {h : aH} {k n : Nat} {a : Nat} (hs : S 51 = false) : WP 142 G S (f + 1) 51 ls (.ref a :: st) h k n = (oV (fget h a 10 30) (WP 142 G S f) 54 ls st h k n) := by rw [wp_s dd_142_51 rfl hs]; rfl
theorem dd_142_54 : decode (mB 142) 54 = .ok (.ireturn, 1) := by decide +kernel
theorem u_142_54 {G : aG} {S : Nat → Bool} {f : Nat} {ls : aL} {h : aH} {k n : Nat} {x : Int32} (hs : S 54 = false) : WP 142 G S (f + 1) 54 ls [.int x] h k n = (RET G (some (.int x)) h k n) := by rw [wp_s dd_142_54 rfl hs]; rfl
theorem dd_142_55 : decode (mB 142) 55 = .ok (.aload_n 0, 1) := by decide +kernel
theorem u_142_55 {G : aG} {S : Nat → Bool} {f : Nat} {st : List Value} {ls : aL} {h : aH} {k n : Nat} (hs : S 55 = false) : WP 142 G S (f + 1) 55 ls st h k n = (oA (lget ls 0) (WP 142 G S f) 56 ls st h k n) := by rw [wp_s dd_142_55 rfl hs]; rfl
theorem dd_142_56 : decode (mB 142) 56 = .ok (.getfield 215, 3) := by decide +kernel
theorem u_142_56 {G : aG} {S : Nat → Bool} {f : Nat} {st : List Value} {ls : aL} {h : aH} {k n : Nat} {a : Nat} (hs : S 56 = false) : WP 142 G S (f + 1) 56 ls (.ref a :: st) h k n = (oV (fget h a 10 31) (WP 142 G S f) 59 ls st h k n) := by rw [wp_s dd_142_56 rfl hs]; rfl
theorem dd_142_59 : decode (mB 142) 59 = .ok (.ireturn, 1) := by decide +kernel
theorem u_142_59 {G : aG} {S : Nat → Bool} {f : Nat} {ls : aL} {h : aH} {k n : Nat} {x : Int32} (hs : S 59 = false) : WP 142 G S (f + 1) 59 ls [.int x] h k n = (RET G (some (.int x)) h k n) := by rw [wp_s dd_142_59 rfl hs]; rfl
theorem dd_142_60 : decode (mB 142) 60 = .ok (.aload_n 0, 1) := by decide +kernel
theorem u_142_60 {G : aG} {S : Nat → Bool} {f : Nat} {st : List Value} {ls : aL} {h : aH} {k n : Nat} (hs : S 60 = false) : WP 142 G S (f + 1) 60 ls st h k n = (oA (lget ls 0) (WP 142 G S f) 61 ls st h k n) := by rw [wp_s dd_142_60 rfl hs]; rfl
theorem dd_142_61 : decode (mB 142) 61 = .ok (.getfield 218, 3) := by decide +kernel
theorem u_142_61 {G : aG} {S : Nat → Bool} {f : Nat} {st : List Value} {ls : aL} {h : aH} {k n : Nat} {a : Nat} (hs : S 61 = false) : WP 142 G S (f + 1) 61 ls (.ref a :: st) h k n = (oV (fget h a 10 32) (WP 142 G S f) 64 ls st h k n) := by rw [wp_s dd_142_61 rfl hs]; rfl
theorem dd_142_64 : decode (mB 142) 64 = .ok (.ireturn, 1) := by decide +kernel
theorem u_142_64 {G : aG} {S : Nat → Bool} {f : Nat} {ls : aL} {h : aH} {k n : Nat} {x : Int32} (hs : S 64 = false) : WP 142 G S (f + 1) 64 ls [.int x] h k n = (RET G (some (.int x)) h k n) := by rw [wp_s dd_142_64 rfl hs]; rfl
theorem dd_142_65 : decode (mB 142) 65 = .ok (.aload_n 0, 1) := by decide +kernel
theorem u_142_65 {G : aG} {S : Nat → Bool} {f : Nat} {st : List Value} {ls : aL} {h : aH} {k n : Nat} (hs : S 65 = false) : WP 142 G S (f + 1) 65 ls st h k n = (oA (lget ls 0) (WP 142 G S f) 66 ls st h k n) := by rw [wp_s dd_142_65 rfl hs]; rfl
theorem dd_142_66 : decode (mB 142) 66 = .ok (.getfield 206, 3) := by decide +kernel
theorem u_142_66 {G : aG} {S : Nat → Bool} {f : Nat} {st : List Value} {ls : aL} {h : aH} {k n : Nat} {a : Nat} (hs : S 66 = false) : WP 142 G S (f + 1) 66 ls (.ref a :: st) h k n = (oV (fget h a 10 27) (WP 142 G S f) 69 ls st h k n) := by rw [wp_s dd_142_66 rfl hs]; rfl
theorem dd_142_69 : decode (mB 142) 69 = .ok (.ireturn, 1) := by decide +kernel
theorem u_142_69 {G : aG} {S : Nat → Bool} {f : Nat} {ls : aL} {h : aH} {k n : Nat} {x : Int32} (hs : S 69 = false) : WP 142 G S (f + 1) 69 ls [.int x] h k n = (RET G (some (.int x)) h k n) := by rw [wp_s dd_142_69 rfl hs]; rfl
theorem dd_142_70 : decode (mB 142) 70 = .ok (.aload_n 0, 1) := by decide +kernel
theorem u_142_70 {G : aG} {S : Nat → Bool} {f : Nat} {st : List Value} {ls : aL} {h : aH} {k n : Nat} (hs : S 70 = false) : WP 142 G S (f + 1) 70 ls st h k n = (oA (lget ls 0) (WP 142 G S f) 71 ls st h k n) := by rw [wp_s dd_142_70 rfl hs]; rfl
theorem dd_142_71 : decode (mB 142) 71 = .ok (.getfield 209, 3) := by decide +kernel
theorem u_142_71 {G : aG} {S : Nat → Bool} {f : Nat} {st : List Value} {ls : aL} {h : aH} {k n : Nat} {a : Nat} (hs : S 71 = false) : WP 142 G S (f + 1) 71 ls (.ref a :: st) h k n = (oV (fget h a 10 28) (WP 142 G S f) 74 ls st h k n) := by rw [wp_s dd_142_71 rfl hs]; rfl
theorem dd_142_74 : decode (mB 142) 74 = .ok (.ireturn, 1) := by decide +kernel
theorem u_142_74 {G : aG} {S : Nat → Bool} {f : Nat} {ls : aL} {h : aH} {k n : Nat} {x : Int32} (hs : S 74 = false) : WP 142 G S (f + 1) 74 ls [.int x] h k n = (RET G (some (.int x)) h k n) := by rw [wp_s dd_142_74 rfl hs]; rfl
theorem dd_143_0 : decode (mB 143) 0 = .ok (.aload_n 0, 1) := by decide +kernel
theorem u_143_0 {G : aG} {S : Nat → Bool} {f : Nat} {st : List Value} {ls : aL} {h : aH} {k n : Nat} (hs : S 0 = false) : WP 143 G S (f + 1) 0 ls st h k n = (oA (lget ls 0) (WP 143 G S f) 1 ls st h k n) := by rw [wp_s dd_143_0 rfl hs]; rfl
theorem dd_143_1 : decode (mB 143) 1 = .ok (.invokevirtual 232, 3) := by decide +kernel
theorem u_143_1 {G : aG} {S : Nat → Bool} {f : Nat} {st : List Value} {ls : aL} {h : aH} {k n : Nat} {b : Nat} (hs : S 1 = false) : WP 143 G S (f + 1) 1 ls (.ref b :: st) h k n = (rcv (hget h b) 10 ∧ CAL G (WP 143 G S f) 137 [.ref b] 4 ls st h k n) := by rw [wp_s dd_143_1 rfl hs]; rfl
theorem dd_143_4 : decode (mB 143) 4 = .ok (.istore_n 1, 1) := by decide +kernel
theorem u_143_4 {G : aG} {S : Nat → Bool} {f : Nat} {st : List Value} {ls : aL} {h : aH} {k n : Nat} {x : Int32} (hs : S 4 = false) : WP 143 G S (f + 1) 4 ls (.int x :: st) h k n = (WP 143 G S f 5 (lput1 ls 1 (.int x)) st h k n) := by rw [wp_s dd_143_4 rfl hs]; rfl
theorem dd_143_5 : decode (mB 143) 5 = .ok (.iload_n 1, 1) := by decide +kernel
theorem u_143_5 {G : aG} {S : Nat → Bool} {f : Nat} {st : List Value} {ls : aL} {h : aH} {k n : Nat} (hs : S 5 = false) : WP 143 G S (f + 1) 5 ls st h k n = (oI (lget ls 1) (WP 143 G S f) 6 ls st h k n) := by rw [wp_s dd_143_5 rfl hs]; rfl
theorem dd_143_6 : decode (mB 143) 6 = .ok (.iconst (-1), 1) := by decide +kernel
theorem u_143_6 {G : aG} {S : Nat → Bool} {f : Nat} {st : List Value} {ls : aL} {h : aH} {k n : Nat} (hs : S 6 = false) : WP 143 G S (f + 1) 6 ls st h k n = (WP 143 G S f 7 ls (.int (-1) :: st) h k n) := by rw [wp_s dd_143_6 rfl hs]; rfl
theorem dd_143_7 : decode (mB 143) 7 = .ok (.if_icmp .eq 8, 3) := by decide +kernel
theorem u_143_7 {G : aG} {S : Nat → Bool} {f : Nat} {st : List Value} {ls : aL} {h : aH} {k n : Nat} {x y : Int32} (hs : S 7 = false) : WP 143 G S (f + 1) 7 ls (.int y :: .int x :: st) h k n = (if x = y then WP 143 G S f 15 ls st h k n else WP 143 G S f 10 ls st h k n) := by rw [wp_s dd_143_7 rfl hs]; exact br_ite (c := x = y)
theorem dd_143_10 : decode (mB 143) 10 = .ok (.bipush (-10), 2) := by decide +kernel
theorem u_143_10 {G : aG} {S : Nat → Bool} {f : Nat} {st : List Value} {ls : aL} {h : aH} {k n : Nat} (hs : S 10 = false) : WP 143 G S (f + 1) 10 ls st h k n = (WP 143 G S f 12 ls (.int (-10) :: st) h k n) := by rw [wp_s dd_143_10 rfl hs]; rfl
theorem dd_143_12 : decode (mB 143) 12 = .ok (.iload_n 1, 1) := by decide +kernel
theorem u_143_12 {G : aG} {S : Nat → Bool} {f : Nat} {st : List Value} {ls : aL} {h : aH} {k n : Nat} (hs : S 12 = false) : WP 143 G S (f + 1) 12 ls st h k n = (oI (lget ls 1) (WP 143 G S f) 13 ls st h k n) := by rw [wp_s dd_143_12 rfl hs]; rfl
theorem dd_143_13 : decode (mB 143) 13 = .ok (.isub, 1) := by decide +kernel
theorem u_143_13 {G : aG} {S : Nat → Bool} {f : Nat} {st : List Value} {ls : aL} {h : aH} {k n : Nat} {x y : Int32} (hs : S 13 = false) : WP 143 G S (f + 1) 13 ls (.int y :: .int x :: st) h k n = (WP 143 G S f 14 ls (.int (x - y) :: st) h k n) := by rw [wp_s dd_143_13 rfl hs]; rfl
theorem dd_143_14 : decode (mB 143) 14 = .ok (.ireturn, 1) := by decide +kernel
theorem u_143_14 {G : aG} {S : Nat → Bool} {f : Nat} {ls : aL} {h : aH} {k n : Nat} {x : Int32} (hs : S 14 = false) : WP 143 G S (f + 1) 14 ls [.int x] h k n = (RET G (some (.int x)) h k n) := by rw [wp_s dd_143_14 rfl hs]; rfl
theorem dd_143_15 : decode (mB 143) 15 = .ok (.aload_n 0, 1) := by decide +kernel
theorem u_143_15 {G : aG} {S : Nat → Bool} {f : Nat} {st : List Value} {ls : aL} {h : aH} {k n : Nat} (hs : S 15 = false) : WP 143 G S (f + 1) 15 ls st h k n = (oA (lget ls 0) (WP 143 G S f) 16 ls st h k n) := by rw [wp_s dd_143_15 rfl hs]; rfl
theorem dd_143_16 : decode (mB 143) 16 = .ok (.invokevirtual 235, 3) := by decide +kernel
theorem u_143_16 {G : aG} {S : Nat → Bool} {f : Nat} {st : List Value} {ls : aL} {h : aH} {k n : Nat} {b : Nat} (hs : S 16 = false) : WP 143 G S (f + 1) 16 ls (.ref b :: st) h k n = (rcv (hget h b) 10 ∧ CAL G (WP 143 G S f) 138 [.ref b] 19 ls st h k n) := by rw [wp_s dd_143_16 rfl hs]; rfl
theorem dd_143_19 : decode (mB 143) 19 = .ok (.aload_n 0, 1) := by decide +kernel
theorem u_143_19 {G : aG} {S : Nat → Bool} {f : Nat} {st : List Value} {ls : aL} {h : aH} {k n : Nat} (hs : S 19 = false) : WP 143 G S (f + 1) 19 ls st h k n = (oA (lget ls 0) (WP 143 G S f) 20 ls st h k n) := by rw [wp_s dd_143_19 rfl hs]; rfl
theorem dd_143_20 : decode (mB 143) 20 = .ok (.getfield 206, 3) := by decide +kernel
theorem u_143_20 {G : aG} {S : Nat → Bool} {f : Nat} {st : List Value} {ls : aL} {h : aH} {k n : Nat} {a : Nat} (hs : S 20 = false) : WP 143 G S (f + 1) 20 ls (.ref a :: st) h k n = (oV (fget h a 10 27) (WP 143 G S f) 23 ls st h k n) := by rw [wp_s dd_143_20 rfl hs]; rfl
theorem dd_143_23 : decode (mB 143) 23 = .ok (.ifCond .ne 20, 3) := by decide +kernel
theorem u_143_23 {G : aG} {S : Nat → Bool} {f : Nat} {st : List Value} {ls : aL} {h : aH} {k n : Nat} {x : Int32} (hs : S 23 = false) : WP 143 G S (f + 1) 23 ls (.int x :: st) h k n = (if x = nI 0 then WP 143 G S f 26 ls st h k n else WP 143 G S f 43 ls st h k n) := by rw [wp_s dd_143_23 rfl hs]; exact br_iten (c := x = nI 0)
theorem dd_143_26 : decode (mB 143) 26 = .ok (.aload_n 0, 1) := by decide +kernel
theorem u_143_26 {G : aG} {S : Nat → Bool} {f : Nat} {st : List Value} {ls : aL} {h : aH} {k n : Nat} (hs : S 26 = false) : WP 143 G S (f + 1) 26 ls st h k n = (oA (lget ls 0) (WP 143 G S f) 27 ls st h k n) := by rw [wp_s dd_143_26 rfl hs]; rfl
theorem dd_143_27 : decode (mB 143) 27 = .ok (.getfield 212, 3) := by decide +kernel
theorem u_143_27 {G : aG} {S : Nat → Bool} {f : Nat} {st : List Value} {ls : aL} {h : aH} {k n : Nat} {a : Nat} (hs : S 27 = false) : WP 143 G S (f + 1) 27 ls (.ref a :: st) h k n = (oV (fget h a 10 30) (WP 143 G S f) 30 ls st h k n) := by rw [wp_s dd_143_27 rfl hs]; rfl
theorem dd_143_30 : decode (mB 143) 30 = .ok (.iconst (-1), 1) := by decide +kernel
theorem u_143_30 {G : aG} {S : Nat → Bool} {f : Nat} {st : List Value} {ls : aL} {h : aH} {k n : Nat} (hs : S 30 = false) : WP 143 G S (f + 1) 30 ls st h k n = (WP 143 G S f 31 ls (.int (-1) :: st) h k n) := by rw [wp_s dd_143_30 rfl hs]; rfl
theorem dd_143_31 : decode (mB 143) 31 = .ok (.if_icmp .ne 7, 3) := by decide +kernel
theorem u_143_31 {G : aG} {S : Nat → Bool} {f : Nat} {st : List Value} {ls : aL} {h : aH} {k n : Nat} {x y : Int32} (hs : S 31 = false) : WP 143 G S (f + 1) 31 ls (.int y :: .int x :: st) h k n = (if x = y then WP 143 G S f 34 ls st h k n else WP 143 G S f 38 ls st h k n) := by rw [wp_s dd_143_31 rfl hs]; exact br_iten (c := x = y)
theorem dd_143_34 : decode (mB 143) 34 = .ok (.fconst 1, 1) := by decide +kernel
theorem u_143_34 {G : aG} {S : Nat → Bool} {f : Nat} {st : List Value} {ls : aL} {h : aH} {k n : Nat} (hs : S 34 = false) : WP 143 G S (f + 1) 34 ls st h k n = (WP 143 G S f 35 ls (.float FP.fconst1 :: st) h k n) := by rw [wp_s dd_143_34 rfl hs]; rfl
theorem dd_143_35 : decode (mB 143) 35 = .ok (.goto 4, 3) := by decide +kernel
theorem u_143_35 {G : aG} {S : Nat → Bool} {f : Nat} {st : List Value} {ls : aL} {h : aH} {k n : Nat} (hs : S 35 = false) : WP 143 G S (f + 1) 35 ls st h k n = (WP 143 G S f 39 ls st h k n) := by rw [wp_s dd_143_35 rfl hs]; rfl
theorem dd_143_38 : decode (mB 143) 38 = .ok (.fconst 0, 1) := by decide +kernel
theorem u_143_38 {G : aG} {S : Nat → Bool} {f : Nat} {st : List Value} {ls : aL} {h : aH} {k n : Nat} (hs : S 38 = false) : WP 143 G S (f + 1) 38 ls st h k n = (WP 143 G S f 39 ls (.float FP.fconst0 :: st) h k n) := by rw [wp_s dd_143_38 rfl hs]; rfl
theorem dd_143_39 : decode (mB 143) 39 = .ok (.invokestatic 241, 3) := by decide +kernel
theorem u_143_39 {G : aG} {S : Nat → Bool} {f : Nat} {st : List Value} {ls : aL} {h : aH} {k n : Nat} {v1 : Value} (hs : S 39 = false) : WP 143 G S (f + 1) 39 ls (v1 :: st) h k n = (CAL G (WP 143 G S f) 144 [v1] 42 ls st h k n) := by rw [wp_s dd_143_39 rfl hs]; rfl
theorem dd_143_42 : decode (mB 143) 42 = .ok (.ireturn, 1) := by decide +kernel
theorem u_143_42 {G : aG} {S : Nat → Bool} {f : Nat} {ls : aL} {h : aH} {k n : Nat} {x : Int32} (hs : S 42 = false) : WP 143 G S (f + 1) 42 ls [.int x] h k n = (RET G (some (.int x)) h k n) := by rw [wp_s dd_143_42 rfl hs]; rfl
theorem dd_143_43 : decode (mB 143) 43 = .ok (.iconst 0, 1) := by decide +kernel
theorem u_143_43 {G : aG} {S : Nat → Bool} {f : Nat} {st : List Value} {ls : aL} {h : aH} {k n : Nat} (hs : S 43 = false) : WP 143 G S (f + 1) 43 ls st h k n = (WP 143 G S f 44 ls (.int (nI 0) :: st) h k n) := by rw [wp_s dd_143_43 rfl hs]; rfl
theorem dd_143_44 : decode (mB 143) 44 = .ok (.istore_n 2, 1) := by decide +kernel
theorem u_143_44 {G : aG} {S : Nat → Bool} {f : Nat} {st : List Value} {ls : aL} {h : aH} {k n : Nat} {x : Int32} (hs : S 44 = false) : WP 143 G S (f + 1) 44 ls (.int x :: st) h k n = (WP 143 G S f 45 (lput1 ls 2 (.int x)) st h k n) := by rw [wp_s dd_143_44 rfl hs]; rfl
theorem dd_143_45 : decode (mB 143) 45 = .ok (.iconst 0, 1) := by decide +kernel
theorem u_143_45 {G : aG} {S : Nat → Bool} {f : Nat} {st : List Value} {ls : aL} {h : aH} {k n : Nat} (hs : S 45 = false) : WP 143 G S (f + 1) 45 ls st h k n = (WP 143 G S f 46 ls (.int (nI 0) :: st) h k n) := by rw [wp_s dd_143_45 rfl hs]; rfl
theorem dd_143_46 : decode (mB 143) 46 = .ok (.istore_n 3, 1) := by decide +kernel
theorem u_143_46 {G : aG} {S : Nat → Bool} {f : Nat} {st : List Value} {ls : aL} {h : aH} {k n : Nat} {x : Int32} (hs : S 46 = false) : WP 143 G S (f + 1) 46 ls (.int x :: st) h k n = (WP 143 G S f 47 (lput1 ls 3 (.int x)) st h k n) := by rw [wp_s dd_143_46 rfl hs]; rfl
theorem dd_143_47 : decode (mB 143) 47 = .ok (.iload_n 3, 1) := by decide +kernel
theorem u_143_47 {G : aG} {S : Nat → Bool} {f : Nat} {st : List Value} {ls : aL} {h : aH} {k n : Nat} (hs : S 47 = false) : WP 143 G S (f + 1) 47 ls st h k n = (oI (lget ls 3) (WP 143 G S f) 48 ls st h k n) := by rw [wp_s dd_143_47 rfl hs]; rfl
theorem v_143_47 {G : aG} {S : Nat → Bool} {f : Nat} {st : List Value} {ls : aL} {h : aH} {k n : Nat} : WQ 143 G S f 47 ls st h k n = (oI (lget ls 3) (WP 143 G S f) 48 ls st h k n) := by rw [wq_s dd_143_47 rfl]; rfl
theorem dd_143_48 : decode (mB 143) 48 = .ok (.aload_n 0, 1) := by decide +kernel
theorem u_143_48 {G : aG} {S : Nat → Bool} {f : Nat} {st : List Value} {ls : aL} {h : aH} {k n : Nat} (hs : S 48 = false) : WP 143 G S (f + 1) 48 ls st h k n = (oA (lget ls 0) (WP 143 G S f) 49 ls st h k n) := by rw [wp_s dd_143_48 rfl hs]; rfl
theorem dd_143_49 : decode (mB 143) 49 = .ok (.getfield 117, 3) := by decide +kernel
theorem u_143_49 {G : aG} {S : Nat → Bool} {f : Nat} {st : List Value} {ls : aL} {h : aH} {k n : Nat} {a : Nat} (hs : S 49 = false) : WP 143 G S (f + 1) 49 ls (.ref a :: st) h k n = (oV (fget h a 10 16) (WP 143 G S f) 52 ls st h k n) := by rw [wp_s dd_143_49 rfl hs]; rfl
theorem dd_143_52 : decode (mB 143) 52 = .ok (.if_icmp .ge 52, 3) := by decide +kernel
theorem u_143_52 {G : aG} {S : Nat → Bool} {f : Nat} {st : List Value} {ls : aL} {h : aH} {k n : Nat} {x y : Int32} (hs : S 52 = false) : WP 143 G S (f + 1) 52 ls (.int y :: .int x :: st) h k n = (if y ≤ x then WP 143 G S f 104 ls st h k n else WP 143 G S f 55 ls st h k n) := by rw [wp_s dd_143_52 rfl hs]; exact br_ite (c := y ≤ x)
theorem dd_143_55 : decode (mB 143) 55 = .ok (.aload_n 0, 1) := by decide +kernel
theorem u_143_55 {G : aG} {S : Nat → Bool} {f : Nat} {st : List Value} {ls : aL} {h : aH} {k n : Nat} (hs : S 55 = false) : WP 143 G S (f + 1) 55 ls st h k n = (oA (lget ls 0) (WP 143 G S f) 56 ls st h k n) := by rw [wp_s dd_143_55 rfl hs]; rfl
theorem dd_143_56 : decode (mB 143) 56 = .ok (.getfield 212, 3) := by decide +kernel
theorem u_143_56 {G : aG} {S : Nat → Bool} {f : Nat} {st : List Value} {ls : aL} {h : aH} {k n : Nat} {a : Nat} (hs : S 56 = false) : WP 143 G S (f + 1) 56 ls (.ref a :: st) h k n = (oV (fget h a 10 30) (WP 143 G S f) 59 ls st h k n) := by rw [wp_s dd_143_56 rfl hs]; rfl
theorem dd_143_59 : decode (mB 143) 59 = .ok (.iconst (-1), 1) := by decide +kernel
theorem u_143_59 {G : aG} {S : Nat → Bool} {f : Nat} {st : List Value} {ls : aL} {h : aH} {k n : Nat} (hs : S 59 = false) : WP 143 G S (f + 1) 59 ls st h k n = (WP 143 G S f 60 ls (.int (-1) :: st) h k n) := by rw [wp_s dd_143_59 rfl hs]; rfl
theorem dd_143_60 : decode (mB 143) 60 = .ok (.if_icmp .eq 11, 3) := by decide +kernel
theorem u_143_60 {G : aG} {S : Nat → Bool} {f : Nat} {st : List Value} {ls : aL} {h : aH} {k n : Nat} {x y : Int32} (hs : S 60 = false) : WP 143 G S (f + 1) 60 ls (.int y :: .int x :: st) h k n = (if x = y then WP 143 G S f 71 ls st h k n else WP 143 G S f 63 ls st h k n) := by rw [wp_s dd_143_60 rfl hs]; exact br_ite (c := x = y)
theorem dd_143_63 : decode (mB 143) 63 = .ok (.iload_n 3, 1) := by decide +kernel
theorem u_143_63 {G : aG} {S : Nat → Bool} {f : Nat} {st : List Value} {ls : aL} {h : aH} {k n : Nat} (hs : S 63 = false) : WP 143 G S (f + 1) 63 ls st h k n = (oI (lget ls 3) (WP 143 G S f) 64 ls st h k n) := by rw [wp_s dd_143_63 rfl hs]; rfl
theorem dd_143_64 : decode (mB 143) 64 = .ok (.aload_n 0, 1) := by decide +kernel
theorem u_143_64 {G : aG} {S : Nat → Bool} {f : Nat} {st : List Value} {ls : aL} {h : aH} {k n : Nat} (hs : S 64 = false) : WP 143 G S (f + 1) 64 ls st h k n = (oA (lget ls 0) (WP 143 G S f) 65 ls st h k n) := by rw [wp_s dd_143_64 rfl hs]; rfl
theorem dd_143_65 : decode (mB 143) 65 = .ok (.getfield 212, 3) := by decide +kernel
theorem u_143_65 {G : aG} {S : Nat → Bool} {f : Nat} {st : List Value} {ls : aL} {h : aH} {k n : Nat} {a : Nat} (hs : S 65 = false) : WP 143 G S (f + 1) 65 ls (.ref a :: st) h k n = (oV (fget h a 10 30) (WP 143 G S f) 68 ls st h k n) := by rw [wp_s dd_143_65 rfl hs]; rfl
theorem dd_143_68 : decode (mB 143) 68 = .ok (.if_icmp .ge 36, 3) := by decide +kernel
theorem u_143_68 {G : aG} {S : Nat → Bool} {f : Nat} {st : List Value} {ls : aL} {h : aH} {k n : Nat} {x y : Int32} (hs : S 68 = false) : WP 143 G S (f + 1) 68 ls (.int y :: .int x :: st) h k n = (if y ≤ x then WP 143 G S f 104 ls st h k n else WP 143 G S f 71 ls st h k n) := by rw [wp_s dd_143_68 rfl hs]; exact br_ite (c := y ≤ x)
theorem dd_143_71 : decode (mB 143) 71 = .ok (.iload_n 2, 1) := by decide +kernel
theorem u_143_71 {G : aG} {S : Nat → Bool} {f : Nat} {st : List Value} {ls : aL} {h : aH} {k n : Nat} (hs : S 71 = false) : WP 143 G S (f + 1) 71 ls st h k n = (oI (lget ls 2) (WP 143 G S f) 72 ls st h k n) := by rw [wp_s dd_143_71 rfl hs]; rfl
theorem dd_143_72 : decode (mB 143) 72 = .ok (.aload_n 0, 1) := by decide +kernel
theorem u_143_72 {G : aG} {S : Nat → Bool} {f : Nat} {st : List Value} {ls : aL} {h : aH} {k n : Nat} (hs : S 72 = false) : WP 143 G S (f + 1) 72 ls st h k n = (oA (lget ls 0) (WP 143 G S f) 73 ls st h k n) := by rw [wp_s dd_143_72 rfl hs]; rfl
theorem dd_143_73 : decode (mB 143) 73 = .ok (.getfield 49, 3) := by decide +kernel
theorem u_143_73 {G : aG} {S : Nat → Bool} {f : Nat} {st : List Value} {ls : aL} {h : aH} {k n : Nat} {a : Nat} (hs : S 73 = false) : WP 143 G S (f + 1) 73 ls (.ref a :: st) h k n = (oV (fget h a 10 15) (WP 143 G S f) 76 ls st h k n) := by rw [wp_s dd_143_73 rfl hs]; rfl
theorem dd_143_76 : decode (mB 143) 76 = .ok (.iload_n 3, 1) := by decide +kernel
theorem u_143_76 {G : aG} {S : Nat → Bool} {f : Nat} {st : List Value} {ls : aL} {h : aH} {k n : Nat} (hs : S 76 = false) : WP 143 G S (f + 1) 76 ls st h k n = (oI (lget ls 3) (WP 143 G S f) 77 ls st h k n) := by rw [wp_s dd_143_76 rfl hs]; rfl
theorem dd_143_77 : decode (mB 143) 77 = .ok (.iaload, 1) := by decide +kernel
theorem u_143_77 {G : aG} {S : Nat → Bool} {f : Nat} {st : List Value} {ls : aL} {h : aH} {k n : Nat} {i : Int32} {a : Nat} (hs : S 77 = false) : WP 143 G S (f + 1) 77 ls (.int i :: .ref a :: st) h k n = (oIld (iget h a 1) i (WP 143 G S f) 78 ls st h k n) := by rw [wp_s dd_143_77 rfl hs]; rfl
theorem dd_143_78 : decode (mB 143) 78 = .ok (.i2l, 1) := by decide +kernel
theorem u_143_78 {G : aG} {S : Nat → Bool} {f : Nat} {st : List Value} {ls : aL} {h : aH} {k n : Nat} {x : Int32} (hs : S 78 = false) : WP 143 G S (f + 1) 78 ls (.int x :: st) h k n = (WP 143 G S f 79 ls (.long x.toInt64 :: st) h k n) := by rw [wp_s dd_143_78 rfl hs]; rfl
theorem dd_143_79 : decode (mB 143) 79 = .ok (.ldc2_w 142, 3) := by decide +kernel
theorem u_143_79 {G : aG} {S : Nat → Bool} {f : Nat} {st : List Value} {ls : aL} {h : aH} {k n : Nat} (hs : S 79 = false) : WP 143 G S (f + 1) 79 ls st h k n = (WP 143 G S f 82 ls (.long (lN 97) :: st) h k n) := by rw [wp_s dd_143_79 rfl hs]; rfl
theorem dd_143_82 : decode (mB 143) 82 = .ok (.ldc2_w 144, 3) := by decide +kernel
theorem u_143_82 {G : aG} {S : Nat → Bool} {f : Nat} {st : List Value} {ls : aL} {h : aH} {k n : Nat} (hs : S 82 = false) : WP 143 G S (f + 1) 82 ls st h k n = (WP 143 G S f 85 ls (.long (lN 104) :: st) h k n) := by rw [wp_s dd_143_82 rfl hs]; rfl
theorem dd_143_85 : decode (mB 143) 85 = .ok (.invokestatic 109, 3) := by decide +kernel
theorem u_143_85 {G : aG} {S : Nat → Bool} {f : Nat} {st : List Value} {ls : aL} {h : aH} {k n : Nat} {v1 v2 v3 : Value} (hs : S 85 = false) : WP 143 G S (f + 1) 85 ls (v3 :: v2 :: v1 :: st) h k n = (CAL G (WP 143 G S f) 104 [v1, v2, v3] 88 ls st h k n) := by rw [wp_s dd_143_85 rfl hs]; rfl
theorem dd_143_88 : decode (mB 143) 88 = .ok (.ifCond .eq 7, 3) := by decide +kernel
theorem u_143_88 {G : aG} {S : Nat → Bool} {f : Nat} {st : List Value} {ls : aL} {h : aH} {k n : Nat} {x : Int32} (hs : S 88 = false) : WP 143 G S (f + 1) 88 ls (.int x :: st) h k n = (if x = nI 0 then WP 143 G S f 95 ls st h k n else WP 143 G S f 91 ls st h k n) := by rw [wp_s dd_143_88 rfl hs]; exact br_ite (c := x = nI 0)
theorem dd_143_91 : decode (mB 143) 91 = .ok (.iconst 1, 1) := by decide +kernel
theorem u_143_91 {G : aG} {S : Nat → Bool} {f : Nat} {st : List Value} {ls : aL} {h : aH} {k n : Nat} (hs : S 91 = false) : WP 143 G S (f + 1) 91 ls st h k n = (WP 143 G S f 92 ls (.int (nI 1) :: st) h k n) := by rw [wp_s dd_143_91 rfl hs]; rfl
theorem dd_143_92 : decode (mB 143) 92 = .ok (.goto 4, 3) := by decide +kernel
theorem u_143_92 {G : aG} {S : Nat → Bool} {f : Nat} {st : List Value} {ls : aL} {h : aH} {k n : Nat} (hs : S 92 = false) : WP 143 G S (f + 1) 92 ls st h k n = (WP 143 G S f 96 ls st h k n) := by rw [wp_s dd_143_92 rfl hs]; rfl
theorem dd_143_95 : decode (mB 143) 95 = .ok (.iconst 0, 1) := by decide +kernel
theorem u_143_95 {G : aG} {S : Nat → Bool} {f : Nat} {st : List Value} {ls : aL} {h : aH} {k n : Nat} (hs : S 95 = false) : WP 143 G S (f + 1) 95 ls st h k n = (WP 143 G S f 96 ls (.int (nI 0) :: st) h k n) := by rw [wp_s dd_143_95 rfl hs]; rfl
theorem dd_143_96 : decode (mB 143) 96 = .ok (.iadd, 1) := by decide +kernel
theorem u_143_96 {G : aG} {S : Nat → Bool} {f : Nat} {st : List Value} {ls : aL} {h : aH} {k n : Nat} {x y : Int32} (hs : S 96 = false) : WP 143 G S (f + 1) 96 ls (.int y :: .int x :: st) h k n = (WP 143 G S f 97 ls (.int (x + y) :: st) h k n) := by rw [wp_s dd_143_96 rfl hs]; rfl
theorem dd_143_97 : decode (mB 143) 97 = .ok (.istore_n 2, 1) := by decide +kernel
theorem u_143_97 {G : aG} {S : Nat → Bool} {f : Nat} {st : List Value} {ls : aL} {h : aH} {k n : Nat} {x : Int32} (hs : S 97 = false) : WP 143 G S (f + 1) 97 ls (.int x :: st) h k n = (WP 143 G S f 98 (lput1 ls 2 (.int x)) st h k n) := by rw [wp_s dd_143_97 rfl hs]; rfl
theorem dd_143_98 : decode (mB 143) 98 = .ok (.iinc 3 1, 3) := by decide +kernel
theorem u_143_98 {G : aG} {S : Nat → Bool} {f : Nat} {st : List Value} {ls : aL} {h : aH} {k n : Nat} (hs : S 98 = false) : WP 143 G S (f + 1) 98 ls st h k n = (oInc (lget ls 3) (nI 1) (WP 143 G S f) 3 101 ls st h k n) := by rw [wp_s dd_143_98 rfl hs]; rfl
theorem dd_143_101 : decode (mB 143) 101 = .ok (.goto (-54), 3) := by decide +kernel
theorem u_143_101 {G : aG} {S : Nat → Bool} {f : Nat} {st : List Value} {ls : aL} {h : aH} {k n : Nat} (hs : S 101 = false) : WP 143 G S (f + 1) 101 ls st h k n = (WP 143 G S f 47 ls st h k n) := by rw [wp_s dd_143_101 rfl hs]; rfl
theorem dd_143_104 : decode (mB 143) 104 = .ok (.iload_n 2, 1) := by decide +kernel
theorem u_143_104 {G : aG} {S : Nat → Bool} {f : Nat} {st : List Value} {ls : aL} {h : aH} {k n : Nat} (hs : S 104 = false) : WP 143 G S (f + 1) 104 ls st h k n = (oI (lget ls 2) (WP 143 G S f) 105 ls st h k n) := by rw [wp_s dd_143_104 rfl hs]; rfl
theorem dd_143_105 : decode (mB 143) 105 = .ok (.i2f, 1) := by decide +kernel
theorem u_143_105 {G : aG} {S : Nat → Bool} {f : Nat} {st : List Value} {ls : aL} {h : aH} {k n : Nat} {x : Int32} (hs : S 105 = false) : WP 143 G S (f + 1) 105 ls (.int x :: st) h k n = (WP 143 G S f 106 ls (.float (FP.i2f x) :: st) h k n) := by rw [wp_s dd_143_105 rfl hs]; rfl
theorem dd_143_106 : decode (mB 143) 106 = .ok (.aload_n 0, 1) := by decide +kernel
theorem u_143_106 {G : aG} {S : Nat → Bool} {f : Nat} {st : List Value} {ls : aL} {h : aH} {k n : Nat} (hs : S 106 = false) : WP 143 G S (f + 1) 106 ls st h k n = (oA (lget ls 0) (WP 143 G S f) 107 ls st h k n) := by rw [wp_s dd_143_106 rfl hs]; rfl
theorem dd_143_107 : decode (mB 143) 107 = .ok (.getfield 206, 3) := by decide +kernel
theorem u_143_107 {G : aG} {S : Nat → Bool} {f : Nat} {st : List Value} {ls : aL} {h : aH} {k n : Nat} {a : Nat} (hs : S 107 = false) : WP 143 G S (f + 1) 107 ls (.ref a :: st) h k n = (oV (fget h a 10 27) (WP 143 G S f) 110 ls st h k n) := by rw [wp_s dd_143_107 rfl hs]; rfl
theorem dd_143_110 : decode (mB 143) 110 = .ok (.i2f, 1) := by decide +kernel
theorem u_143_110 {G : aG} {S : Nat → Bool} {f : Nat} {st : List Value} {ls : aL} {h : aH} {k n : Nat} {x : Int32} (hs : S 110 = false) : WP 143 G S (f + 1) 110 ls (.int x :: st) h k n = (WP 143 G S f 111 ls (.float (FP.i2f x) :: st) h k n) := by rw [wp_s dd_143_110 rfl hs]; rfl
theorem dd_143_111 : decode (mB 143) 111 = .ok (.fdiv, 1) := by decide +kernel
theorem u_143_111 {G : aG} {S : Nat → Bool} {f : Nat} {st : List Value} {ls : aL} {h : aH} {k n : Nat} {x y : UInt32} (hs : S 111 = false) : WP 143 G S (f + 1) 111 ls (.float y :: .float x :: st) h k n = (vf_n32 (FP.fdiv x y) ∧ WP 143 G S f 112 ls (.float (FP.fdiv x y) :: st) h k n) := by rw [wp_s dd_143_111 rfl hs]; rfl
theorem dd_143_112 : decode (mB 143) 112 = .ok (.invokestatic 241, 3) := by decide +kernel
theorem u_143_112 {G : aG} {S : Nat → Bool} {f : Nat} {st : List Value} {ls : aL} {h : aH} {k n : Nat} {v1 : Value} (hs : S 112 = false) : WP 143 G S (f + 1) 112 ls (v1 :: st) h k n = (CAL G (WP 143 G S f) 144 [v1] 115 ls st h k n) := by rw [wp_s dd_143_112 rfl hs]; rfl
theorem dd_143_115 : decode (mB 143) 115 = .ok (.ireturn, 1) := by decide +kernel
theorem u_143_115 {G : aG} {S : Nat → Bool} {f : Nat} {ls : aL} {h : aH} {k n : Nat} {x : Int32} (hs : S 115 = false) : WP 143 G S (f + 1) 115 ls [.int x] h k n = (RET G (some (.int x)) h k n) := by rw [wp_s dd_143_115 rfl hs]; rfl
theorem dd_146_0 : decode (mB 146) 0 = .ok (.iload_n 1, 1) := by decide +kernel
theorem u_146_0 {G : aG} {S : Nat → Bool} {f : Nat} {st : List Value} {ls : aL} {h : aH} {k n : Nat} (hs : S 0 = false) : WP 146 G S (f + 1) 0 ls st h k n = (oI (lget ls 1) (WP 146 G S f) 1 ls st h k n) := by rw [wp_s dd_146_0 rfl hs]; rfl
theorem dd_146_1 : decode (mB 146) 1 = .ok (.invokestatic 177, 3) := by decide +kernel
theorem u_146_1 {G : aG} {S : Nat → Bool} {f : Nat} {st : List Value} {ls : aL} {h : aH} {k n : Nat} {v1 : Value} (hs : S 1 = false) : WP 146 G S (f + 1) 1 ls (v1 :: st) h k n = (CAL G (WP 146 G S f) 120 [v1] 4 ls st h k n) := by rw [wp_s dd_146_1 rfl hs]; rfl
theorem dd_146_4 : decode (mB 146) 4 = .ok (.ifCond .ne 10, 3) := by decide +kernel
theorem u_146_4 {G : aG} {S : Nat → Bool} {f : Nat} {st : List Value} {ls : aL} {h : aH} {k n : Nat} {x : Int32} (hs : S 4 = false) : WP 146 G S (f + 1) 4 ls (.int x :: st) h k n = (if x = nI 0 then WP 146 G S f 7 ls st h k n else WP 146 G S f 14 ls st h k n) := by rw [wp_s dd_146_4 rfl hs]; exact br_iten (c := x = nI 0)
theorem dd_146_7 : decode (mB 146) 7 = .ok (.aload_n 0, 1) := by decide +kernel
theorem u_146_7 {G : aG} {S : Nat → Bool} {f : Nat} {st : List Value} {ls : aL} {h : aH} {k n : Nat} (hs : S 7 = false) : WP 146 G S (f + 1) 7 ls st h k n = (oA (lget ls 0) (WP 146 G S f) 8 ls st h k n) := by rw [wp_s dd_146_7 rfl hs]; rfl
theorem dd_146_8 : decode (mB 146) 8 = .ok (.bipush (-2), 2) := by decide +kernel
theorem u_146_8 {G : aG} {S : Nat → Bool} {f : Nat} {st : List Value} {ls : aL} {h : aH} {k n : Nat} (hs : S 8 = false) : WP 146 G S (f + 1) 8 ls st h k n = (WP 146 G S f 10 ls (.int (-2) :: st) h k n) := by rw [wp_s dd_146_8 rfl hs]; rfl
theorem dd_146_10 : decode (mB 146) 10 = .ok (.invokevirtual 113, 3) := by decide +kernel
theorem u_146_10 {G : aG} {S : Nat → Bool} {f : Nat} {st : List Value} {ls : aL} {h : aH} {k n : Nat} {v1 : Value} {b : Nat} (hs : S 10 = false) : WP 146 G S (f + 1) 10 ls (v1 :: .ref b :: st) h k n = (rcv (hget h b) 10 ∧ CAL G (WP 146 G S f) 105 [.ref b, v1] 13 ls st h k n) := by rw [wp_s dd_146_10 rfl hs]; rfl
theorem dd_146_13 : decode (mB 146) 13 = .ok (.ireturn, 1) := by decide +kernel
theorem u_146_13 {G : aG} {S : Nat → Bool} {f : Nat} {ls : aL} {h : aH} {k n : Nat} {x : Int32} (hs : S 13 = false) : WP 146 G S (f + 1) 13 ls [.int x] h k n = (RET G (some (.int x)) h k n) := by rw [wp_s dd_146_13 rfl hs]; rfl
theorem dd_146_14 : decode (mB 146) 14 = .ok (.aload_n 0, 1) := by decide +kernel
theorem u_146_14 {G : aG} {S : Nat → Bool} {f : Nat} {st : List Value} {ls : aL} {h : aH} {k n : Nat} (hs : S 14 = false) : WP 146 G S (f + 1) 14 ls st h k n = (oA (lget ls 0) (WP 146 G S f) 15 ls st h k n) := by rw [wp_s dd_146_14 rfl hs]; rfl
theorem dd_146_15 : decode (mB 146) 15 = .ok (.invokevirtual 172, 3) := by decide +kernel
theorem u_146_15 {G : aG} {S : Nat → Bool} {f : Nat} {st : List Value} {ls : aL} {h : aH} {k n : Nat} {b : Nat} (hs : S 15 = false) : WP 146 G S (f + 1) 15 ls (.ref b :: st) h k n = (rcv (hget h b) 10 ∧ CAL G (WP 146 G S f) 118 [.ref b] 18 ls st h k n) := by rw [wp_s dd_146_15 rfl hs]; rfl
theorem dd_146_18 : decode (mB 146) 18 = .ok (.aload_n 0, 1) := by decide +kernel
theorem u_146_18 {G : aG} {S : Nat → Bool} {f : Nat} {st : List Value} {ls : aL} {h : aH} {k n : Nat} (hs : S 18 = false) : WP 146 G S (f + 1) 18 ls st h k n = (oA (lget ls 0) (WP 146 G S f) 19 ls st h k n) := by rw [wp_s dd_146_18 rfl hs]; rfl
theorem dd_146_19 : decode (mB 146) 19 = .ok (.getfield 7, 3) := by decide +kernel
theorem u_146_19 {G : aG} {S : Nat → Bool} {f : Nat} {st : List Value} {ls : aL} {h : aH} {k n : Nat} {a : Nat} (hs : S 19 = false) : WP 146 G S (f + 1) 19 ls (.ref a :: st) h k n = (oV (fget h a 10 0) (WP 146 G S f) 22 ls st h k n) := by rw [wp_s dd_146_19 rfl hs]; rfl
theorem dd_146_22 : decode (mB 146) 22 = .ok (.sipush 442, 3) := by decide +kernel
theorem u_146_22 {G : aG} {S : Nat → Bool} {f : Nat} {st : List Value} {ls : aL} {h : aH} {k n : Nat} (hs : S 22 = false) : WP 146 G S (f + 1) 22 ls st h k n = (WP 146 G S f 25 ls (.int (nI 442) :: st) h k n) := by rw [wp_s dd_146_22 rfl hs]; rfl
theorem dd_146_25 : decode (mB 146) 25 = .ok (.iload_n 1, 1) := by decide +kernel
theorem u_146_25 {G : aG} {S : Nat → Bool} {f : Nat} {st : List Value} {ls : aL} {h : aH} {k n : Nat} (hs : S 25 = false) : WP 146 G S (f + 1) 25 ls st h k n = (oI (lget ls 1) (WP 146 G S f) 26 ls st h k n) := by rw [wp_s dd_146_25 rfl hs]; rfl
theorem dd_146_26 : decode (mB 146) 26 = .ok (.iastore, 1) := by decide +kernel
theorem u_146_26 {G : aG} {S : Nat → Bool} {f : Nat} {st : List Value} {ls : aL} {h : aH} {k n : Nat} {i x : Int32} {a : Nat} (hs : S 26 = false) : WP 146 G S (f + 1) 26 ls (.int x :: .int i :: .ref a :: st) h k n = (oIst (iget h a 1) a i x (WP 146 G S f) 27 ls st h k n) := by rw [wp_s dd_146_26 rfl hs]; rfl
theorem dd_146_27 : decode (mB 146) 27 = .ok (.aload_n 0, 1) := by decide +kernel
theorem u_146_27 {G : aG} {S : Nat → Bool} {f : Nat} {st : List Value} {ls : aL} {h : aH} {k n : Nat} (hs : S 27 = false) : WP 146 G S (f + 1) 27 ls st h k n = (oA (lget ls 0) (WP 146 G S f) 28 ls st h k n) := by rw [wp_s dd_146_27 rfl hs]; rfl
theorem dd_146_28 : decode (mB 146) 28 = .ok (.getfield 7, 3) := by decide +kernel
theorem u_146_28 {G : aG} {S : Nat → Bool} {f : Nat} {st : List Value} {ls : aL} {h : aH} {k n : Nat} {a : Nat} (hs : S 28 = false) : WP 146 G S (f + 1) 28 ls (.ref a :: st) h k n = (oV (fget h a 10 0) (WP 146 G S f) 31 ls st h k n) := by rw [wp_s dd_146_28 rfl hs]; rfl
theorem dd_146_31 : decode (mB 146) 31 = .ok (.sipush 443, 3) := by decide +kernel
theorem u_146_31 {G : aG} {S : Nat → Bool} {f : Nat} {st : List Value} {ls : aL} {h : aH} {k n : Nat} (hs : S 31 = false) : WP 146 G S (f + 1) 31 ls st h k n = (WP 146 G S f 34 ls (.int (nI 443) :: st) h k n) := by rw [wp_s dd_146_31 rfl hs]; rfl
theorem dd_146_34 : decode (mB 146) 34 = .ok (.iconst 0, 1) := by decide +kernel
theorem u_146_34 {G : aG} {S : Nat → Bool} {f : Nat} {st : List Value} {ls : aL} {h : aH} {k n : Nat} (hs : S 34 = false) : WP 146 G S (f + 1) 34 ls st h k n = (WP 146 G S f 35 ls (.int (nI 0) :: st) h k n) := by rw [wp_s dd_146_34 rfl hs]; rfl
theorem dd_146_35 : decode (mB 146) 35 = .ok (.iastore, 1) := by decide +kernel
theorem u_146_35 {G : aG} {S : Nat → Bool} {f : Nat} {st : List Value} {ls : aL} {h : aH} {k n : Nat} {i x : Int32} {a : Nat} (hs : S 35 = false) : WP 146 G S (f + 1) 35 ls (.int x :: .int i :: .ref a :: st) h k n = (oIst (iget h a 1) a i x (WP 146 G S f) 36 ls st h k n) := by rw [wp_s dd_146_35 rfl hs]; rfl
theorem dd_146_36 : decode (mB 146) 36 = .ok (.aload_n 0, 1) := by decide +kernel
theorem u_146_36 {G : aG} {S : Nat → Bool} {f : Nat} {st : List Value} {ls : aL} {h : aH} {k n : Nat} (hs : S 36 = false) : WP 146 G S (f + 1) 36 ls st h k n = (oA (lget ls 0) (WP 146 G S f) 37 ls st h k n) := by rw [wp_s dd_146_36 rfl hs]; rfl
theorem dd_146_37 : decode (mB 146) 37 = .ok (.invokevirtual 250, 3) := by decide +kernel
theorem u_146_37 {G : aG} {S : Nat → Bool} {f : Nat} {st : List Value} {ls : aL} {h : aH} {k n : Nat} {b : Nat} (hs : S 37 = false) : WP 146 G S (f + 1) 37 ls (.ref b :: st) h k n = (rcv (hget h b) 10 ∧ CAL G (WP 146 G S f) 147 [.ref b] 40 ls st h k n) := by rw [wp_s dd_146_37 rfl hs]; rfl
theorem dd_146_40 : decode (mB 146) 40 = .ok (.aload_n 0, 1) := by decide +kernel
theorem u_146_40 {G : aG} {S : Nat → Bool} {f : Nat} {st : List Value} {ls : aL} {h : aH} {k n : Nat} (hs : S 40 = false) : WP 146 G S (f + 1) 40 ls st h k n = (oA (lget ls 0) (WP 146 G S f) 41 ls st h k n) := by rw [wp_s dd_146_40 rfl hs]; rfl
theorem dd_146_41 : decode (mB 146) 41 = .ok (.iconst 0, 1) := by decide +kernel
theorem u_146_41 {G : aG} {S : Nat → Bool} {f : Nat} {st : List Value} {ls : aL} {h : aH} {k n : Nat} (hs : S 41 = false) : WP 146 G S (f + 1) 41 ls st h k n = (WP 146 G S f 42 ls (.int (nI 0) :: st) h k n) := by rw [wp_s dd_146_41 rfl hs]; rfl
theorem dd_146_42 : decode (mB 146) 42 = .ok (.invokevirtual 189, 3) := by decide +kernel
theorem u_146_42 {G : aG} {S : Nat → Bool} {f : Nat} {st : List Value} {ls : aL} {h : aH} {k n : Nat} {v1 : Value} {b : Nat} (hs : S 42 = false) : WP 146 G S (f + 1) 42 ls (v1 :: .ref b :: st) h k n = (rcv (hget h b) 10 ∧ CAL G (WP 146 G S f) 127 [.ref b, v1] 45 ls st h k n) := by rw [wp_s dd_146_42 rfl hs]; rfl
theorem dd_146_45 : decode (mB 146) 45 = .ok (.ireturn, 1) := by decide +kernel
theorem u_146_45 {G : aG} {S : Nat → Bool} {f : Nat} {ls : aL} {h : aH} {k n : Nat} {x : Int32} (hs : S 45 = false) : WP 146 G S (f + 1) 45 ls [.int x] h k n = (RET G (some (.int x)) h k n) := by rw [wp_s dd_146_45 rfl hs]; rfl
theorem dd_147_0 : decode (mB 147) 0 = .ok (.aload_n 0, 1) := by decide +kernel
theorem u_147_0 {G : aG} {S : Nat → Bool} {f : Nat} {st : List Value} {ls : aL} {h : aH} {k n : Nat} (hs : S 0 = false) : WP 147 G S (f + 1) 0 ls st h k n = (oA (lget ls 0) (WP 147 G S f) 1 ls st h k n) := by rw [wp_s dd_147_0 rfl hs]; rfl
theorem dd_147_1 : decode (mB 147) 1 = .ok (.aload_n 0, 1) := by decide +kernel
theorem u_147_1 {G : aG} {S : Nat → Bool} {f : Nat} {st : List Value} {ls : aL} {h : aH} {k n : Nat} (hs : S 1 = false) : WP 147 G S (f + 1) 1 ls st h k n = (oA (lget ls 0) (WP 147 G S f) 2 ls st h k n) := by rw [wp_s dd_147_1 rfl hs]; rfl
theorem dd_147_2 : decode (mB 147) 2 = .ok (.getfield 7, 3) := by decide +kernel
theorem u_147_2 {G : aG} {S : Nat → Bool} {f : Nat} {st : List Value} {ls : aL} {h : aH} {k n : Nat} {a : Nat} (hs : S 2 = false) : WP 147 G S (f + 1) 2 ls (.ref a :: st) h k n = (oV (fget h a 10 0) (WP 147 G S f) 5 ls st h k n) := by rw [wp_s dd_147_2 rfl hs]; rfl
theorem dd_147_5 : decode (mB 147) 5 = .ok (.sipush 442, 3) := by decide +kernel
theorem u_147_5 {G : aG} {S : Nat → Bool} {f : Nat} {st : List Value} {ls : aL} {h : aH} {k n : Nat} (hs : S 5 = false) : WP 147 G S (f + 1) 5 ls st h k n = (WP 147 G S f 8 ls (.int (nI 442) :: st) h k n) := by rw [wp_s dd_147_5 rfl hs]; rfl
theorem dd_147_8 : decode (mB 147) 8 = .ok (.iaload, 1) := by decide +kernel
theorem u_147_8 {G : aG} {S : Nat → Bool} {f : Nat} {st : List Value} {ls : aL} {h : aH} {k n : Nat} {i : Int32} {a : Nat} (hs : S 8 = false) : WP 147 G S (f + 1) 8 ls (.int i :: .ref a :: st) h k n = (oIld (iget h a 1) i (WP 147 G S f) 9 ls st h k n) := by rw [wp_s dd_147_8 rfl hs]; rfl
theorem dd_147_9 : decode (mB 147) 9 = .ok (.invokevirtual 180, 3) := by decide +kernel
theorem u_147_9 {G : aG} {S : Nat → Bool} {f : Nat} {st : List Value} {ls : aL} {h : aH} {k n : Nat} {v1 : Value} {b : Nat} (hs : S 9 = false) : WP 147 G S (f + 1) 9 ls (v1 :: .ref b :: st) h k n = (rcv (hget h b) 10 ∧ CAL G (WP 147 G S f) 123 [.ref b, v1] 12 ls st h k n) := by rw [wp_s dd_147_9 rfl hs]; rfl
theorem dd_147_12 : decode (mB 147) 12 = .ok (.aload_n 0, 1) := by decide +kernel
theorem u_147_12 {G : aG} {S : Nat → Bool} {f : Nat} {st : List Value} {ls : aL} {h : aH} {k n : Nat} (hs : S 12 = false) : WP 147 G S (f + 1) 12 ls st h k n = (oA (lget ls 0) (WP 147 G S f) 13 ls st h k n) := by rw [wp_s dd_147_12 rfl hs]; rfl
theorem dd_147_13 : decode (mB 147) 13 = .ok (.iconst 0, 1) := by decide +kernel
theorem u_147_13 {G : aG} {S : Nat → Bool} {f : Nat} {st : List Value} {ls : aL} {h : aH} {k n : Nat} (hs : S 13 = false) : WP 147 G S (f + 1) 13 ls st h k n = (WP 147 G S f 14 ls (.int (nI 0) :: st) h k n) := by rw [wp_s dd_147_13 rfl hs]; rfl
theorem dd_147_14 : decode (mB 147) 14 = .ok (.invokevirtual 186, 3) := by decide +kernel
theorem u_147_14 {G : aG} {S : Nat → Bool} {f : Nat} {st : List Value} {ls : aL} {h : aH} {k n : Nat} {v1 : Value} {b : Nat} (hs : S 14 = false) : WP 147 G S (f + 1) 14 ls (v1 :: .ref b :: st) h k n = (rcv (hget h b) 10 ∧ CAL G (WP 147 G S f) 126 [.ref b, v1] 17 ls st h k n) := by rw [wp_s dd_147_14 rfl hs]; rfl
theorem dd_147_17 : decode (mB 147) 17 = .ok (.iconst 0, 1) := by decide +kernel
theorem u_147_17 {G : aG} {S : Nat → Bool} {f : Nat} {st : List Value} {ls : aL} {h : aH} {k n : Nat} (hs : S 17 = false) : WP 147 G S (f + 1) 17 ls st h k n = (WP 147 G S f 18 ls (.int (nI 0) :: st) h k n) := by rw [wp_s dd_147_17 rfl hs]; rfl
theorem dd_147_18 : decode (mB 147) 18 = .ok (.istore_n 1, 1) := by decide +kernel
theorem u_147_18 {G : aG} {S : Nat → Bool} {f : Nat} {st : List Value} {ls : aL} {h : aH} {k n : Nat} {x : Int32} (hs : S 18 = false) : WP 147 G S (f + 1) 18 ls (.int x :: st) h k n = (WP 147 G S f 19 (lput1 ls 1 (.int x)) st h k n) := by rw [wp_s dd_147_18 rfl hs]; rfl
theorem dd_147_19 : decode (mB 147) 19 = .ok (.iload_n 1, 1) := by decide +kernel
theorem u_147_19 {G : aG} {S : Nat → Bool} {f : Nat} {st : List Value} {ls : aL} {h : aH} {k n : Nat} (hs : S 19 = false) : WP 147 G S (f + 1) 19 ls st h k n = (oI (lget ls 1) (WP 147 G S f) 20 ls st h k n) := by rw [wp_s dd_147_19 rfl hs]; rfl
theorem v_147_19 {G : aG} {S : Nat → Bool} {f : Nat} {st : List Value} {ls : aL} {h : aH} {k n : Nat} : WQ 147 G S f 19 ls st h k n = (oI (lget ls 1) (WP 147 G S f) 20 ls st h k n) := by rw [wq_s dd_147_19 rfl]; rfl
theorem dd_147_20 : decode (mB 147) 20 = .ok (.aload_n 0, 1) := by decide +kernel
theorem u_147_20 {G : aG} {S : Nat → Bool} {f : Nat} {st : List Value} {ls : aL} {h : aH} {k n : Nat} (hs : S 20 = false) : WP 147 G S (f + 1) 20 ls st h k n = (oA (lget ls 0) (WP 147 G S f) 21 ls st h k n) := by rw [wp_s dd_147_20 rfl hs]; rfl
theorem dd_147_21 : decode (mB 147) 21 = .ok (.invokevirtual 247, 3) := by decide +kernel
theorem u_147_21 {G : aG} {S : Nat → Bool} {f : Nat} {st : List Value} {ls : aL} {h : aH} {k n : Nat} {b : Nat} (hs : S 21 = false) : WP 147 G S (f + 1) 21 ls (.ref b :: st) h k n = (rcv (hget h b) 10 ∧ CAL G (WP 147 G S f) 148 [.ref b] 24 ls st h k n) := by rw [wp_s dd_147_21 rfl hs]; rfl
theorem dd_147_24 : decode (mB 147) 24 = .ok (.if_icmp .ge 72, 3) := by decide +kernel
theorem u_147_24 {G : aG} {S : Nat → Bool} {f : Nat} {st : List Value} {ls : aL} {h : aH} {k n : Nat} {x y : Int32} (hs : S 24 = false) : WP 147 G S (f + 1) 24 ls (.int y :: .int x :: st) h k n = (if y ≤ x then WP 147 G S f 96 ls st h k n else WP 147 G S f 27 ls st h k n) := by rw [wp_s dd_147_24 rfl hs]; exact br_ite (c := y ≤ x)
theorem dd_147_27 : decode (mB 147) 27 = .ok (.aload_n 0, 1) := by decide +kernel
theorem u_147_27 {G : aG} {S : Nat → Bool} {f : Nat} {st : List Value} {ls : aL} {h : aH} {k n : Nat} (hs : S 27 = false) : WP 147 G S (f + 1) 27 ls st h k n = (oA (lget ls 0) (WP 147 G S f) 28 ls st h k n) := by rw [wp_s dd_147_27 rfl hs]; rfl
theorem dd_147_28 : decode (mB 147) 28 = .ok (.iconst 0, 1) := by decide +kernel
theorem u_147_28 {G : aG} {S : Nat → Bool} {f : Nat} {st : List Value} {ls : aL} {h : aH} {k n : Nat} (hs : S 28 = false) : WP 147 G S (f + 1) 28 ls st h k n = (WP 147 G S f 29 ls (.int (nI 0) :: st) h k n) := by rw [wp_s dd_147_28 rfl hs]; rfl
theorem dd_147_29 : decode (mB 147) 29 = .ok (.aload_n 0, 1) := by decide +kernel
theorem u_147_29 {G : aG} {S : Nat → Bool} {f : Nat} {st : List Value} {ls : aL} {h : aH} {k n : Nat} (hs : S 29 = false) : WP 147 G S (f + 1) 29 ls st h k n = (oA (lget ls 0) (WP 147 G S f) 30 ls st h k n) := by rw [wp_s dd_147_29 rfl hs]; rfl
theorem dd_147_30 : decode (mB 147) 30 = .ok (.getfield 7, 3) := by decide +kernel
theorem u_147_30 {G : aG} {S : Nat → Bool} {f : Nat} {st : List Value} {ls : aL} {h : aH} {k n : Nat} {a : Nat} (hs : S 30 = false) : WP 147 G S (f + 1) 30 ls (.ref a :: st) h k n = (oV (fget h a 10 0) (WP 147 G S f) 33 ls st h k n) := by rw [wp_s dd_147_30 rfl hs]; rfl
theorem dd_147_33 : decode (mB 147) 33 = .ok (.sipush 444, 3) := by decide +kernel
theorem u_147_33 {G : aG} {S : Nat → Bool} {f : Nat} {st : List Value} {ls : aL} {h : aH} {k n : Nat} (hs : S 33 = false) : WP 147 G S (f + 1) 33 ls st h k n = (WP 147 G S f 36 ls (.int (nI 444) :: st) h k n) := by rw [wp_s dd_147_33 rfl hs]; rfl
theorem dd_147_36 : decode (mB 147) 36 = .ok (.iload_n 1, 1) := by decide +kernel
theorem u_147_36 {G : aG} {S : Nat → Bool} {f : Nat} {st : List Value} {ls : aL} {h : aH} {k n : Nat} (hs : S 36 = false) : WP 147 G S (f + 1) 36 ls st h k n = (oI (lget ls 1) (WP 147 G S f) 37 ls st h k n) := by rw [wp_s dd_147_36 rfl hs]; rfl
theorem dd_147_37 : decode (mB 147) 37 = .ok (.iadd, 1) := by decide +kernel
theorem u_147_37 {G : aG} {S : Nat → Bool} {f : Nat} {st : List Value} {ls : aL} {h : aH} {k n : Nat} {x y : Int32} (hs : S 37 = false) : WP 147 G S (f + 1) 37 ls (.int y :: .int x :: st) h k n = (WP 147 G S f 38 ls (.int (x + y) :: st) h k n) := by rw [wp_s dd_147_37 rfl hs]; rfl
theorem dd_147_38 : decode (mB 147) 38 = .ok (.iaload, 1) := by decide +kernel
theorem u_147_38 {G : aG} {S : Nat → Bool} {f : Nat} {st : List Value} {ls : aL} {h : aH} {k n : Nat} {i : Int32} {a : Nat} (hs : S 38 = false) : WP 147 G S (f + 1) 38 ls (.int i :: .ref a :: st) h k n = (oIld (iget h a 1) i (WP 147 G S f) 39 ls st h k n) := by rw [wp_s dd_147_38 rfl hs]; rfl
theorem dd_147_39 : decode (mB 147) 39 = .ok (.iconst 1, 1) := by decide +kernel
theorem u_147_39 {G : aG} {S : Nat → Bool} {f : Nat} {st : List Value} {ls : aL} {h : aH} {k n : Nat} (hs : S 39 = false) : WP 147 G S (f + 1) 39 ls st h k n = (WP 147 G S f 40 ls (.int (nI 1) :: st) h k n) := by rw [wp_s dd_147_39 rfl hs]; rfl
theorem dd_147_40 : decode (mB 147) 40 = .ok (.invokevirtual 104, 3) := by decide +kernel
theorem u_147_40 {G : aG} {S : Nat → Bool} {f : Nat} {st : List Value} {ls : aL} {h : aH} {k n : Nat} {v1 v2 v3 : Value} {b : Nat} (hs : S 40 = false) : WP 147 G S (f + 1) 40 ls (v3 :: v2 :: v1 :: .ref b :: st) h k n = (rcv (hget h b) 10 ∧ CAL G (WP 147 G S f) 128 [.ref b, v1, v2, v3] 43 ls st h k n) := by rw [wp_s dd_147_40 rfl hs]; rfl
theorem dd_147_43 : decode (mB 147) 43 = .ok (.istore_n 2, 1) := by decide +kernel
theorem u_147_43 {G : aG} {S : Nat → Bool} {f : Nat} {st : List Value} {ls : aL} {h : aH} {k n : Nat} {x : Int32} (hs : S 43 = false) : WP 147 G S (f + 1) 43 ls (.int x :: st) h k n = (WP 147 G S f 44 (lput1 ls 2 (.int x)) st h k n) := by rw [wp_s dd_147_43 rfl hs]; rfl
theorem dd_147_44 : decode (mB 147) 44 = .ok (.iconst 0, 1) := by decide +kernel
theorem u_147_44 {G : aG} {S : Nat → Bool} {f : Nat} {st : List Value} {ls : aL} {h : aH} {k n : Nat} (hs : S 44 = false) : WP 147 G S (f + 1) 44 ls st h k n = (WP 147 G S f 45 ls (.int (nI 0) :: st) h k n) := by rw [wp_s dd_147_44 rfl hs]; rfl
theorem dd_147_45 : decode (mB 147) 45 = .ok (.istore_n 3, 1) := by decide +kernel
theorem u_147_45 {G : aG} {S : Nat → Bool} {f : Nat} {st : List Value} {ls : aL} {h : aH} {k n : Nat} {x : Int32} (hs : S 45 = false) : WP 147 G S (f + 1) 45 ls (.int x :: st) h k n = (WP 147 G S f 46 (lput1 ls 3 (.int x)) st h k n) := by rw [wp_s dd_147_45 rfl hs]; rfl
theorem dd_147_46 : decode (mB 147) 46 = .ok (.iload_n 3, 1) := by decide +kernel
theorem u_147_46 {G : aG} {S : Nat → Bool} {f : Nat} {st : List Value} {ls : aL} {h : aH} {k n : Nat} (hs : S 46 = false) : WP 147 G S (f + 1) 46 ls st h k n = (oI (lget ls 3) (WP 147 G S f) 47 ls st h k n) := by rw [wp_s dd_147_46 rfl hs]; rfl
theorem v_147_46 {G : aG} {S : Nat → Bool} {f : Nat} {st : List Value} {ls : aL} {h : aH} {k n : Nat} : WQ 147 G S f 46 ls st h k n = (oI (lget ls 3) (WP 147 G S f) 47 ls st h k n) := by rw [wq_s dd_147_46 rfl]; rfl
theorem dd_147_47 : decode (mB 147) 47 = .ok (.aload_n 0, 1) := by decide +kernel
theorem u_147_47 {G : aG} {S : Nat → Bool} {f : Nat} {st : List Value} {ls : aL} {h : aH} {k n : Nat} (hs : S 47 = false) : WP 147 G S (f + 1) 47 ls st h k n = (oA (lget ls 0) (WP 147 G S f) 48 ls st h k n) := by rw [wp_s dd_147_47 rfl hs]; rfl
theorem dd_147_48 : decode (mB 147) 48 = .ok (.getfield 46, 3) := by decide +kernel
theorem u_147_48 {G : aG} {S : Nat → Bool} {f : Nat} {st : List Value} {ls : aL} {h : aH} {k n : Nat} {a : Nat} (hs : S 48 = false) : WP 147 G S (f + 1) 48 ls (.ref a :: st) h k n = (oV (fget h a 10 14) (WP 147 G S f) 51 ls st h k n) := by rw [wp_s dd_147_48 rfl hs]; rfl
theorem dd_147_51 : decode (mB 147) 51 = .ok (.iconst 1, 1) := by decide +kernel
theorem u_147_51 {G : aG} {S : Nat → Bool} {f : Nat} {st : List Value} {ls : aL} {h : aH} {k n : Nat} (hs : S 51 = false) : WP 147 G S (f + 1) 51 ls st h k n = (WP 147 G S f 52 ls (.int (nI 1) :: st) h k n) := by rw [wp_s dd_147_51 rfl hs]; rfl
theorem dd_147_52 : decode (mB 147) 52 = .ok (.iaload, 1) := by decide +kernel
theorem u_147_52 {G : aG} {S : Nat → Bool} {f : Nat} {st : List Value} {ls : aL} {h : aH} {k n : Nat} {i : Int32} {a : Nat} (hs : S 52 = false) : WP 147 G S (f + 1) 52 ls (.int i :: .ref a :: st) h k n = (oIld (iget h a 1) i (WP 147 G S f) 53 ls st h k n) := by rw [wp_s dd_147_52 rfl hs]; rfl
theorem dd_147_53 : decode (mB 147) 53 = .ok (.if_icmp .ge 25, 3) := by decide +kernel
theorem u_147_53 {G : aG} {S : Nat → Bool} {f : Nat} {st : List Value} {ls : aL} {h : aH} {k n : Nat} {x y : Int32} (hs : S 53 = false) : WP 147 G S (f + 1) 53 ls (.int y :: .int x :: st) h k n = (if y ≤ x then WP 147 G S f 78 ls st h k n else WP 147 G S f 56 ls st h k n) := by rw [wp_s dd_147_53 rfl hs]; exact br_ite (c := y ≤ x)
theorem dd_147_56 : decode (mB 147) 56 = .ok (.aload_n 0, 1) := by decide +kernel
theorem u_147_56 {G : aG} {S : Nat → Bool} {f : Nat} {st : List Value} {ls : aL} {h : aH} {k n : Nat} (hs : S 56 = false) : WP 147 G S (f + 1) 56 ls st h k n = (oA (lget ls 0) (WP 147 G S f) 57 ls st h k n) := by rw [wp_s dd_147_56 rfl hs]; rfl
theorem dd_147_57 : decode (mB 147) 57 = .ok (.getfield 43, 3) := by decide +kernel
theorem u_147_57 {G : aG} {S : Nat → Bool} {f : Nat} {st : List Value} {ls : aL} {h : aH} {k n : Nat} {a : Nat} (hs : S 57 = false) : WP 147 G S (f + 1) 57 ls (.ref a :: st) h k n = (oV (fget h a 10 13) (WP 147 G S f) 60 ls st h k n) := by rw [wp_s dd_147_57 rfl hs]; rfl
theorem dd_147_60 : decode (mB 147) 60 = .ok (.iload_n 3, 1) := by decide +kernel
theorem u_147_60 {G : aG} {S : Nat → Bool} {f : Nat} {st : List Value} {ls : aL} {h : aH} {k n : Nat} (hs : S 60 = false) : WP 147 G S (f + 1) 60 ls st h k n = (oI (lget ls 3) (WP 147 G S f) 61 ls st h k n) := by rw [wp_s dd_147_60 rfl hs]; rfl
theorem dd_147_61 : decode (mB 147) 61 = .ok (.aload_n 0, 1) := by decide +kernel
theorem u_147_61 {G : aG} {S : Nat → Bool} {f : Nat} {st : List Value} {ls : aL} {h : aH} {k n : Nat} (hs : S 61 = false) : WP 147 G S (f + 1) 61 ls st h k n = (oA (lget ls 0) (WP 147 G S f) 62 ls st h k n) := by rw [wp_s dd_147_61 rfl hs]; rfl
theorem dd_147_62 : decode (mB 147) 62 = .ok (.getfield 43, 3) := by decide +kernel
theorem u_147_62 {G : aG} {S : Nat → Bool} {f : Nat} {st : List Value} {ls : aL} {h : aH} {k n : Nat} {a : Nat} (hs : S 62 = false) : WP 147 G S (f + 1) 62 ls (.ref a :: st) h k n = (oV (fget h a 10 13) (WP 147 G S f) 65 ls st h k n) := by rw [wp_s dd_147_62 rfl hs]; rfl
theorem dd_147_65 : decode (mB 147) 65 = .ok (.sipush 256, 3) := by decide +kernel
theorem u_147_65 {G : aG} {S : Nat → Bool} {f : Nat} {st : List Value} {ls : aL} {h : aH} {k n : Nat} (hs : S 65 = false) : WP 147 G S (f + 1) 65 ls st h k n = (WP 147 G S f 68 ls (.int (nI 256) :: st) h k n) := by rw [wp_s dd_147_65 rfl hs]; rfl
theorem dd_147_68 : decode (mB 147) 68 = .ok (.iload_n 3, 1) := by decide +kernel
theorem u_147_68 {G : aG} {S : Nat → Bool} {f : Nat} {st : List Value} {ls : aL} {h : aH} {k n : Nat} (hs : S 68 = false) : WP 147 G S (f + 1) 68 ls st h k n = (oI (lget ls 3) (WP 147 G S f) 69 ls st h k n) := by rw [wp_s dd_147_68 rfl hs]; rfl
theorem dd_147_69 : decode (mB 147) 69 = .ok (.iadd, 1) := by decide +kernel
theorem u_147_69 {G : aG} {S : Nat → Bool} {f : Nat} {st : List Value} {ls : aL} {h : aH} {k n : Nat} {x y : Int32} (hs : S 69 = false) : WP 147 G S (f + 1) 69 ls (.int y :: .int x :: st) h k n = (WP 147 G S f 70 ls (.int (x + y) :: st) h k n) := by rw [wp_s dd_147_69 rfl hs]; rfl
theorem dd_147_70 : decode (mB 147) 70 = .ok (.iaload, 1) := by decide +kernel
theorem u_147_70 {G : aG} {S : Nat → Bool} {f : Nat} {st : List Value} {ls : aL} {h : aH} {k n : Nat} {i : Int32} {a : Nat} (hs : S 70 = false) : WP 147 G S (f + 1) 70 ls (.int i :: .ref a :: st) h k n = (oIld (iget h a 1) i (WP 147 G S f) 71 ls st h k n) := by rw [wp_s dd_147_70 rfl hs]; rfl
theorem dd_147_71 : decode (mB 147) 71 = .ok (.iastore, 1) := by decide +kernel
theorem u_147_71 {G : aG} {S : Nat → Bool} {f : Nat} {st : List Value} {ls : aL} {h : aH} {k n : Nat} {i x : Int32} {a : Nat} (hs : S 71 = false) : WP 147 G S (f + 1) 71 ls (.int x :: .int i :: .ref a :: st) h k n = (oIst (iget h a 1) a i x (WP 147 G S f) 72 ls st h k n) := by rw [wp_s dd_147_71 rfl hs]; rfl
theorem dd_147_72 : decode (mB 147) 72 = .ok (.iinc 3 1, 3) := by decide +kernel
theorem u_147_72 {G : aG} {S : Nat → Bool} {f : Nat} {st : List Value} {ls : aL} {h : aH} {k n : Nat} (hs : S 72 = false) : WP 147 G S (f + 1) 72 ls st h k n = (oInc (lget ls 3) (nI 1) (WP 147 G S f) 3 75 ls st h k n) := by rw [wp_s dd_147_72 rfl hs]; rfl
theorem dd_147_75 : decode (mB 147) 75 = .ok (.goto (-29), 3) := by decide +kernel
theorem u_147_75 {G : aG} {S : Nat → Bool} {f : Nat} {st : List Value} {ls : aL} {h : aH} {k n : Nat} (hs : S 75 = false) : WP 147 G S (f + 1) 75 ls st h k n = (WP 147 G S f 46 ls st h k n) := by rw [wp_s dd_147_75 rfl hs]; rfl
theorem dd_147_78 : decode (mB 147) 78 = .ok (.aload_n 0, 1) := by decide +kernel
theorem u_147_78 {G : aG} {S : Nat → Bool} {f : Nat} {st : List Value} {ls : aL} {h : aH} {k n : Nat} (hs : S 78 = false) : WP 147 G S (f + 1) 78 ls st h k n = (oA (lget ls 0) (WP 147 G S f) 79 ls st h k n) := by rw [wp_s dd_147_78 rfl hs]; rfl
theorem dd_147_79 : decode (mB 147) 79 = .ok (.getfield 46, 3) := by decide +kernel
theorem u_147_79 {G : aG} {S : Nat → Bool} {f : Nat} {st : List Value} {ls : aL} {h : aH} {k n : Nat} {a : Nat} (hs : S 79 = false) : WP 147 G S (f + 1) 79 ls (.ref a :: st) h k n = (oV (fget h a 10 14) (WP 147 G S f) 82 ls st h k n) := by rw [wp_s dd_147_79 rfl hs]; rfl
theorem dd_147_82 : decode (mB 147) 82 = .ok (.iconst 0, 1) := by decide +kernel
theorem u_147_82 {G : aG} {S : Nat → Bool} {f : Nat} {st : List Value} {ls : aL} {h : aH} {k n : Nat} (hs : S 82 = false) : WP 147 G S (f + 1) 82 ls st h k n = (WP 147 G S f 83 ls (.int (nI 0) :: st) h k n) := by rw [wp_s dd_147_82 rfl hs]; rfl
theorem dd_147_83 : decode (mB 147) 83 = .ok (.aload_n 0, 1) := by decide +kernel
theorem u_147_83 {G : aG} {S : Nat → Bool} {f : Nat} {st : List Value} {ls : aL} {h : aH} {k n : Nat} (hs : S 83 = false) : WP 147 G S (f + 1) 83 ls st h k n = (oA (lget ls 0) (WP 147 G S f) 84 ls st h k n) := by rw [wp_s dd_147_83 rfl hs]; rfl
theorem dd_147_84 : decode (mB 147) 84 = .ok (.getfield 46, 3) := by decide +kernel
theorem u_147_84 {G : aG} {S : Nat → Bool} {f : Nat} {st : List Value} {ls : aL} {h : aH} {k n : Nat} {a : Nat} (hs : S 84 = false) : WP 147 G S (f + 1) 84 ls (.ref a :: st) h k n = (oV (fget h a 10 14) (WP 147 G S f) 87 ls st h k n) := by rw [wp_s dd_147_84 rfl hs]; rfl
theorem dd_147_87 : decode (mB 147) 87 = .ok (.iconst 1, 1) := by decide +kernel
theorem u_147_87 {G : aG} {S : Nat → Bool} {f : Nat} {st : List Value} {ls : aL} {h : aH} {k n : Nat} (hs : S 87 = false) : WP 147 G S (f + 1) 87 ls st h k n = (WP 147 G S f 88 ls (.int (nI 1) :: st) h k n) := by rw [wp_s dd_147_87 rfl hs]; rfl
theorem dd_147_88 : decode (mB 147) 88 = .ok (.iaload, 1) := by decide +kernel
theorem u_147_88 {G : aG} {S : Nat → Bool} {f : Nat} {st : List Value} {ls : aL} {h : aH} {k n : Nat} {i : Int32} {a : Nat} (hs : S 88 = false) : WP 147 G S (f + 1) 88 ls (.int i :: .ref a :: st) h k n = (oIld (iget h a 1) i (WP 147 G S f) 89 ls st h k n) := by rw [wp_s dd_147_88 rfl hs]; rfl
theorem dd_147_89 : decode (mB 147) 89 = .ok (.iastore, 1) := by decide +kernel
theorem u_147_89 {G : aG} {S : Nat → Bool} {f : Nat} {st : List Value} {ls : aL} {h : aH} {k n : Nat} {i x : Int32} {a : Nat} (hs : S 89 = false) : WP 147 G S (f + 1) 89 ls (.int x :: .int i :: .ref a :: st) h k n = (oIst (iget h a 1) a i x (WP 147 G S f) 90 ls st h k n) := by rw [wp_s dd_147_89 rfl hs]; rfl
theorem dd_147_90 : decode (mB 147) 90 = .ok (.iinc 1 1, 3) := by decide +kernel
theorem u_147_90 {G : aG} {S : Nat → Bool} {f : Nat} {st : List Value} {ls : aL} {h : aH} {k n : Nat} (hs : S 90 = false) : WP 147 G S (f + 1) 90 ls st h k n = (oInc (lget ls 1) (nI 1) (WP 147 G S f) 1 93 ls st h k n) := by rw [wp_s dd_147_90 rfl hs]; rfl
theorem dd_147_93 : decode (mB 147) 93 = .ok (.goto (-74), 3) := by decide +kernel
theorem u_147_93 {G : aG} {S : Nat → Bool} {f : Nat} {st : List Value} {ls : aL} {h : aH} {k n : Nat} (hs : S 93 = false) : WP 147 G S (f + 1) 93 ls st h k n = (WP 147 G S f 19 ls st h k n) := by rw [wp_s dd_147_93 rfl hs]; rfl
theorem dd_147_96 : decode (mB 147) 96 = .ok (.return_, 1) := by decide +kernel
theorem u_147_96 {G : aG} {S : Nat → Bool} {f : Nat} {ls : aL} {h : aH} {k n : Nat} (hs : S 96 = false) : WP 147 G S (f + 1) 96 ls [] h k n = (RET G none h k n) := by rw [wp_s dd_147_96 rfl hs]; rfl
theorem dd_148_0 : decode (mB 148) 0 = .ok (.aload_n 0, 1) := by decide +kernel
theorem u_148_0 {G : aG} {S : Nat → Bool} {f : Nat} {st : List Value} {ls : aL} {h : aH} {k n : Nat} (hs : S 0 = false) : WP 148 G S (f + 1) 0 ls st h k n = (oA (lget ls 0) (WP 148 G S f) 1 ls st h k n) := by rw [wp_s dd_148_0 rfl hs]; rfl
theorem dd_148_1 : decode (mB 148) 1 = .ok (.getfield 7, 3) := by decide +kernel
theorem u_148_1 {G : aG} {S : Nat → Bool} {f : Nat} {st : List Value} {ls : aL} {h : aH} {k n : Nat} {a : Nat} (hs : S 1 = false) : WP 148 G S (f + 1) 1 ls (.ref a :: st) h k n = (oV (fget h a 10 0) (WP 148 G S f) 4 ls st h k n) := by rw [wp_s dd_148_1 rfl hs]; rfl
theorem dd_148_4 : decode (mB 148) 4 = .ok (.sipush 443, 3) := by decide +kernel
theorem u_148_4 {G : aG} {S : Nat → Bool} {f : Nat} {st : List Value} {ls : aL} {h : aH} {k n : Nat} (hs : S 4 = false) : WP 148 G S (f + 1) 4 ls st h k n = (WP 148 G S f 7 ls (.int (nI 443) :: st) h k n) := by rw [wp_s dd_148_4 rfl hs]; rfl
theorem dd_148_7 : decode (mB 148) 7 = .ok (.iaload, 1) := by decide +kernel
theorem u_148_7 {G : aG} {S : Nat → Bool} {f : Nat} {st : List Value} {ls : aL} {h : aH} {k n : Nat} {i : Int32} {a : Nat} (hs : S 7 = false) : WP 148 G S (f + 1) 7 ls (.int i :: .ref a :: st) h k n = (oIld (iget h a 1) i (WP 148 G S f) 8 ls st h k n) := by rw [wp_s dd_148_7 rfl hs]; rfl
theorem dd_148_8 : decode (mB 148) 8 = .ok (.ireturn, 1) := by decide +kernel
theorem u_148_8 {G : aG} {S : Nat → Bool} {f : Nat} {ls : aL} {h : aH} {k n : Nat} {x : Int32} (hs : S 8 = false) : WP 148 G S (f + 1) 8 ls [.int x] h k n = (RET G (some (.int x)) h k n) := by rw [wp_s dd_148_8 rfl hs]; rfl
theorem dd_149_0 : decode (mB 149) 0 = .ok (.iload_n 1, 1) := by decide +kernel
theorem u_149_0 {G : aG} {S : Nat → Bool} {f : Nat} {st : List Value} {ls : aL} {h : aH} {k n : Nat} (hs : S 0 = false) : WP 149 G S (f + 1) 0 ls st h k n = (oI (lget ls 1) (WP 149 G S f) 1 ls st h k n) := by rw [wp_s dd_149_0 rfl hs]; rfl
theorem dd_149_1 : decode (mB 149) 1 = .ok (.i2l, 1) := by decide +kernel
theorem u_149_1 {G : aG} {S : Nat → Bool} {f : Nat} {st : List Value} {ls : aL} {h : aH} {k n : Nat} {x : Int32} (hs : S 1 = false) : WP 149 G S (f + 1) 1 ls (.int x :: st) h k n = (WP 149 G S f 2 ls (.long x.toInt64 :: st) h k n) := by rw [wp_s dd_149_1 rfl hs]; rfl
theorem dd_149_2 : decode (mB 149) 2 = .ok (.lconst 0, 1) := by decide +kernel
theorem u_149_2 {G : aG} {S : Nat → Bool} {f : Nat} {st : List Value} {ls : aL} {h : aH} {k n : Nat} (hs : S 2 = false) : WP 149 G S (f + 1) 2 ls st h k n = (WP 149 G S f 3 ls (.long (lN 0) :: st) h k n) := by rw [wp_s dd_149_2 rfl hs]; rfl
theorem dd_149_3 : decode (mB 149) 3 = .ok (.ldc2_w 253, 3) := by decide +kernel
theorem u_149_3 {G : aG} {S : Nat → Bool} {f : Nat} {st : List Value} {ls : aL} {h : aH} {k n : Nat} (hs : S 3 = false) : WP 149 G S (f + 1) 3 ls st h k n = (WP 149 G S f 6 ls (.long (lN 7) :: st) h k n) := by rw [wp_s dd_149_3 rfl hs]; rfl
theorem dd_149_6 : decode (mB 149) 6 = .ok (.invokestatic 109, 3) := by decide +kernel
theorem u_149_6 {G : aG} {S : Nat → Bool} {f : Nat} {st : List Value} {ls : aL} {h : aH} {k n : Nat} {v1 v2 v3 : Value} (hs : S 6 = false) : WP 149 G S (f + 1) 6 ls (v3 :: v2 :: v1 :: st) h k n = (CAL G (WP 149 G S f) 104 [v1, v2, v3] 9 ls st h k n) := by rw [wp_s dd_149_6 rfl hs]; rfl
theorem dd_149_9 : decode (mB 149) 9 = .ok (.ifCond .ne 10, 3) := by decide +kernel
theorem u_149_9 {G : aG} {S : Nat → Bool} {f : Nat} {st : List Value} {ls : aL} {h : aH} {k n : Nat} {x : Int32} (hs : S 9 = false) : WP 149 G S (f + 1) 9 ls (.int x :: st) h k n = (if x = nI 0 then WP 149 G S f 12 ls st h k n else WP 149 G S f 19 ls st h k n) := by rw [wp_s dd_149_9 rfl hs]; exact br_iten (c := x = nI 0)
theorem dd_149_12 : decode (mB 149) 12 = .ok (.aload_n 0, 1) := by decide +kernel
theorem u_149_12 {G : aG} {S : Nat → Bool} {f : Nat} {st : List Value} {ls : aL} {h : aH} {k n : Nat} (hs : S 12 = false) : WP 149 G S (f + 1) 12 ls st h k n = (oA (lget ls 0) (WP 149 G S f) 13 ls st h k n) := by rw [wp_s dd_149_12 rfl hs]; rfl
theorem dd_149_13 : decode (mB 149) 13 = .ok (.bipush (-2), 2) := by decide +kernel
theorem u_149_13 {G : aG} {S : Nat → Bool} {f : Nat} {st : List Value} {ls : aL} {h : aH} {k n : Nat} (hs : S 13 = false) : WP 149 G S (f + 1) 13 ls st h k n = (WP 149 G S f 15 ls (.int (-2) :: st) h k n) := by rw [wp_s dd_149_13 rfl hs]; rfl
theorem dd_149_15 : decode (mB 149) 15 = .ok (.invokevirtual 113, 3) := by decide +kernel
theorem u_149_15 {G : aG} {S : Nat → Bool} {f : Nat} {st : List Value} {ls : aL} {h : aH} {k n : Nat} {v1 : Value} {b : Nat} (hs : S 15 = false) : WP 149 G S (f + 1) 15 ls (v1 :: .ref b :: st) h k n = (rcv (hget h b) 10 ∧ CAL G (WP 149 G S f) 105 [.ref b, v1] 18 ls st h k n) := by rw [wp_s dd_149_15 rfl hs]; rfl
theorem dd_149_18 : decode (mB 149) 18 = .ok (.ireturn, 1) := by decide +kernel
theorem u_149_18 {G : aG} {S : Nat → Bool} {f : Nat} {ls : aL} {h : aH} {k n : Nat} {x : Int32} (hs : S 18 = false) : WP 149 G S (f + 1) 18 ls [.int x] h k n = (RET G (some (.int x)) h k n) := by rw [wp_s dd_149_18 rfl hs]; rfl
theorem dd_149_19 : decode (mB 149) 19 = .ok (.aload_n 0, 1) := by decide +kernel
theorem u_149_19 {G : aG} {S : Nat → Bool} {f : Nat} {st : List Value} {ls : aL} {h : aH} {k n : Nat} (hs : S 19 = false) : WP 149 G S (f + 1) 19 ls st h k n = (oA (lget ls 0) (WP 149 G S f) 20 ls st h k n) := by rw [wp_s dd_149_19 rfl hs]; rfl
theorem dd_149_20 : decode (mB 149) 20 = .ok (.invokevirtual 250, 3) := by decide +kernel
theorem u_149_20 {G : aG} {S : Nat → Bool} {f : Nat} {st : List Value} {ls : aL} {h : aH} {k n : Nat} {b : Nat} (hs : S 20 = false) : WP 149 G S (f + 1) 20 ls (.ref b :: st) h k n = (rcv (hget h b) 10 ∧ CAL G (WP 149 G S f) 147 [.ref b] 23 ls st h k n) := by rw [wp_s dd_149_20 rfl hs]; rfl
theorem dd_149_23 : decode (mB 149) 23 = .ok (.aload_n 0, 1) := by decide +kernel
theorem u_149_23 {G : aG} {S : Nat → Bool} {f : Nat} {st : List Value} {ls : aL} {h : aH} {k n : Nat} (hs : S 23 = false) : WP 149 G S (f + 1) 23 ls st h k n = (oA (lget ls 0) (WP 149 G S f) 24 ls st h k n) := by rw [wp_s dd_149_23 rfl hs]; rfl
theorem dd_149_24 : decode (mB 149) 24 = .ok (.iconst 0, 1) := by decide +kernel
theorem u_149_24 {G : aG} {S : Nat → Bool} {f : Nat} {st : List Value} {ls : aL} {h : aH} {k n : Nat} (hs : S 24 = false) : WP 149 G S (f + 1) 24 ls st h k n = (WP 149 G S f 25 ls (.int (nI 0) :: st) h k n) := by rw [wp_s dd_149_24 rfl hs]; rfl
theorem dd_149_25 : decode (mB 149) 25 = .ok (.iload_n 1, 1) := by decide +kernel
theorem u_149_25 {G : aG} {S : Nat → Bool} {f : Nat} {st : List Value} {ls : aL} {h : aH} {k n : Nat} (hs : S 25 = false) : WP 149 G S (f + 1) 25 ls st h k n = (oI (lget ls 1) (WP 149 G S f) 26 ls st h k n) := by rw [wp_s dd_149_25 rfl hs]; rfl
theorem dd_149_26 : decode (mB 149) 26 = .ok (.iconst 1, 1) := by decide +kernel
theorem u_149_26 {G : aG} {S : Nat → Bool} {f : Nat} {st : List Value} {ls : aL} {h : aH} {k n : Nat} (hs : S 26 = false) : WP 149 G S (f + 1) 26 ls st h k n = (WP 149 G S f 27 ls (.int (nI 1) :: st) h k n) := by rw [wp_s dd_149_26 rfl hs]; rfl
theorem dd_149_27 : decode (mB 149) 27 = .ok (.invokevirtual 104, 3) := by decide +kernel
theorem u_149_27 {G : aG} {S : Nat → Bool} {f : Nat} {st : List Value} {ls : aL} {h : aH} {k n : Nat} {v1 v2 v3 : Value} {b : Nat} (hs : S 27 = false) : WP 149 G S (f + 1) 27 ls (v3 :: v2 :: v1 :: .ref b :: st) h k n = (rcv (hget h b) 10 ∧ CAL G (WP 149 G S f) 128 [.ref b, v1, v2, v3] 30 ls st h k n) := by rw [wp_s dd_149_27 rfl hs]; rfl
theorem dd_149_30 : decode (mB 149) 30 = .ok (.ifCond .ne 10, 3) := by decide +kernel
theorem u_149_30 {G : aG} {S : Nat → Bool} {f : Nat} {st : List Value} {ls : aL} {h : aH} {k n : Nat} {x : Int32} (hs : S 30 = false) : WP 149 G S (f + 1) 30 ls (.int x :: st) h k n = (if x = nI 0 then WP 149 G S f 33 ls st h k n else WP 149 G S f 40 ls st h k n) := by rw [wp_s dd_149_30 rfl hs]; exact br_iten (c := x = nI 0)
theorem dd_149_33 : decode (mB 149) 33 = .ok (.aload_n 0, 1) := by decide +kernel
theorem u_149_33 {G : aG} {S : Nat → Bool} {f : Nat} {st : List Value} {ls : aL} {h : aH} {k n : Nat} (hs : S 33 = false) : WP 149 G S (f + 1) 33 ls st h k n = (oA (lget ls 0) (WP 149 G S f) 34 ls st h k n) := by rw [wp_s dd_149_33 rfl hs]; rfl
theorem dd_149_34 : decode (mB 149) 34 = .ok (.bipush (-3), 2) := by decide +kernel
theorem u_149_34 {G : aG} {S : Nat → Bool} {f : Nat} {st : List Value} {ls : aL} {h : aH} {k n : Nat} (hs : S 34 = false) : WP 149 G S (f + 1) 34 ls st h k n = (WP 149 G S f 36 ls (.int (-3) :: st) h k n) := by rw [wp_s dd_149_34 rfl hs]; rfl
theorem dd_149_36 : decode (mB 149) 36 = .ok (.invokevirtual 113, 3) := by decide +kernel
theorem u_149_36 {G : aG} {S : Nat → Bool} {f : Nat} {st : List Value} {ls : aL} {h : aH} {k n : Nat} {v1 : Value} {b : Nat} (hs : S 36 = false) : WP 149 G S (f + 1) 36 ls (v1 :: .ref b :: st) h k n = (rcv (hget h b) 10 ∧ CAL G (WP 149 G S f) 105 [.ref b, v1] 39 ls st h k n) := by rw [wp_s dd_149_36 rfl hs]; rfl
theorem dd_149_39 : decode (mB 149) 39 = .ok (.ireturn, 1) := by decide +kernel
theorem u_149_39 {G : aG} {S : Nat → Bool} {f : Nat} {ls : aL} {h : aH} {k n : Nat} {x : Int32} (hs : S 39 = false) : WP 149 G S (f + 1) 39 ls [.int x] h k n = (RET G (some (.int x)) h k n) := by rw [wp_s dd_149_39 rfl hs]; rfl
theorem dd_149_40 : decode (mB 149) 40 = .ok (.aload_n 0, 1) := by decide +kernel
theorem u_149_40 {G : aG} {S : Nat → Bool} {f : Nat} {st : List Value} {ls : aL} {h : aH} {k n : Nat} (hs : S 40 = false) : WP 149 G S (f + 1) 40 ls st h k n = (oA (lget ls 0) (WP 149 G S f) 41 ls st h k n) := by rw [wp_s dd_149_40 rfl hs]; rfl
theorem dd_149_41 : decode (mB 149) 41 = .ok (.invokevirtual 247, 3) := by decide +kernel
theorem u_149_41 {G : aG} {S : Nat → Bool} {f : Nat} {st : List Value} {ls : aL} {h : aH} {k n : Nat} {b : Nat} (hs : S 41 = false) : WP 149 G S (f + 1) 41 ls (.ref b :: st) h k n = (rcv (hget h b) 10 ∧ CAL G (WP 149 G S f) 148 [.ref b] 44 ls st h k n) := by rw [wp_s dd_149_41 rfl hs]; rfl
theorem dd_149_44 : decode (mB 149) 44 = .ok (.bipush 20, 2) := by decide +kernel
theorem u_149_44 {G : aG} {S : Nat → Bool} {f : Nat} {st : List Value} {ls : aL} {h : aH} {k n : Nat} (hs : S 44 = false) : WP 149 G S (f + 1) 44 ls st h k n = (WP 149 G S f 46 ls (.int (nI 20) :: st) h k n) := by rw [wp_s dd_149_44 rfl hs]; rfl
theorem dd_149_46 : decode (mB 149) 46 = .ok (.if_icmp .ne 10, 3) := by decide +kernel
theorem u_149_46 {G : aG} {S : Nat → Bool} {f : Nat} {st : List Value} {ls : aL} {h : aH} {k n : Nat} {x y : Int32} (hs : S 46 = false) : WP 149 G S (f + 1) 46 ls (.int y :: .int x :: st) h k n = (if x = y then WP 149 G S f 49 ls st h k n else WP 149 G S f 56 ls st h k n) := by rw [wp_s dd_149_46 rfl hs]; exact br_iten (c := x = y)
theorem dd_149_49 : decode (mB 149) 49 = .ok (.aload_n 0, 1) := by decide +kernel
theorem u_149_49 {G : aG} {S : Nat → Bool} {f : Nat} {st : List Value} {ls : aL} {h : aH} {k n : Nat} (hs : S 49 = false) : WP 149 G S (f + 1) 49 ls st h k n = (oA (lget ls 0) (WP 149 G S f) 50 ls st h k n) := by rw [wp_s dd_149_49 rfl hs]; rfl
theorem dd_149_50 : decode (mB 149) 50 = .ok (.bipush (-4), 2) := by decide +kernel
theorem u_149_50 {G : aG} {S : Nat → Bool} {f : Nat} {st : List Value} {ls : aL} {h : aH} {k n : Nat} (hs : S 50 = false) : WP 149 G S (f + 1) 50 ls st h k n = (WP 149 G S f 52 ls (.int (-4) :: st) h k n) := by rw [wp_s dd_149_50 rfl hs]; rfl
theorem dd_149_52 : decode (mB 149) 52 = .ok (.invokevirtual 113, 3) := by decide +kernel
theorem u_149_52 {G : aG} {S : Nat → Bool} {f : Nat} {st : List Value} {ls : aL} {h : aH} {k n : Nat} {v1 : Value} {b : Nat} (hs : S 52 = false) : WP 149 G S (f + 1) 52 ls (v1 :: .ref b :: st) h k n = (rcv (hget h b) 10 ∧ CAL G (WP 149 G S f) 105 [.ref b, v1] 55 ls st h k n) := by rw [wp_s dd_149_52 rfl hs]; rfl
theorem dd_149_55 : decode (mB 149) 55 = .ok (.ireturn, 1) := by decide +kernel
theorem u_149_55 {G : aG} {S : Nat → Bool} {f : Nat} {ls : aL} {h : aH} {k n : Nat} {x : Int32} (hs : S 55 = false) : WP 149 G S (f + 1) 55 ls [.int x] h k n = (RET G (some (.int x)) h k n) := by rw [wp_s dd_149_55 rfl hs]; rfl
theorem dd_149_56 : decode (mB 149) 56 = .ok (.aload_n 0, 1) := by decide +kernel
theorem u_149_56 {G : aG} {S : Nat → Bool} {f : Nat} {st : List Value} {ls : aL} {h : aH} {k n : Nat} (hs : S 56 = false) : WP 149 G S (f + 1) 56 ls st h k n = (oA (lget ls 0) (WP 149 G S f) 57 ls st h k n) := by rw [wp_s dd_149_56 rfl hs]; rfl
theorem dd_149_57 : decode (mB 149) 57 = .ok (.invokevirtual 172, 3) := by decide +kernel
theorem u_149_57 {G : aG} {S : Nat → Bool} {f : Nat} {st : List Value} {ls : aL} {h : aH} {k n : Nat} {b : Nat} (hs : S 57 = false) : WP 149 G S (f + 1) 57 ls (.ref b :: st) h k n = (rcv (hget h b) 10 ∧ CAL G (WP 149 G S f) 118 [.ref b] 60 ls st h k n) := by rw [wp_s dd_149_57 rfl hs]; rfl
theorem dd_149_60 : decode (mB 149) 60 = .ok (.aload_n 0, 1) := by decide +kernel
theorem u_149_60 {G : aG} {S : Nat → Bool} {f : Nat} {st : List Value} {ls : aL} {h : aH} {k n : Nat} (hs : S 60 = false) : WP 149 G S (f + 1) 60 ls st h k n = (oA (lget ls 0) (WP 149 G S f) 61 ls st h k n) := by rw [wp_s dd_149_60 rfl hs]; rfl
theorem dd_149_61 : decode (mB 149) 61 = .ok (.getfield 7, 3) := by decide +kernel
theorem u_149_61 {G : aG} {S : Nat → Bool} {f : Nat} {st : List Value} {ls : aL} {h : aH} {k n : Nat} {a : Nat} (hs : S 61 = false) : WP 149 G S (f + 1) 61 ls (.ref a :: st) h k n = (oV (fget h a 10 0) (WP 149 G S f) 64 ls st h k n) := by rw [wp_s dd_149_61 rfl hs]; rfl
theorem dd_149_64 : decode (mB 149) 64 = .ok (.sipush 444, 3) := by decide +kernel
theorem u_149_64 {G : aG} {S : Nat → Bool} {f : Nat} {st : List Value} {ls : aL} {h : aH} {k n : Nat} (hs : S 64 = false) : WP 149 G S (f + 1) 64 ls st h k n = (WP 149 G S f 67 ls (.int (nI 444) :: st) h k n) := by rw [wp_s dd_149_64 rfl hs]; rfl
theorem dd_149_67 : decode (mB 149) 67 = .ok (.aload_n 0, 1) := by decide +kernel
theorem u_149_67 {G : aG} {S : Nat → Bool} {f : Nat} {st : List Value} {ls : aL} {h : aH} {k n : Nat} (hs : S 67 = false) : WP 149 G S (f + 1) 67 ls st h k n = (oA (lget ls 0) (WP 149 G S f) 68 ls st h k n) := by rw [wp_s dd_149_67 rfl hs]; rfl
theorem dd_149_68 : decode (mB 149) 68 = .ok (.invokevirtual 247, 3) := by decide +kernel
theorem u_149_68 {G : aG} {S : Nat → Bool} {f : Nat} {st : List Value} {ls : aL} {h : aH} {k n : Nat} {b : Nat} (hs : S 68 = false) : WP 149 G S (f + 1) 68 ls (.ref b :: st) h k n = (rcv (hget h b) 10 ∧ CAL G (WP 149 G S f) 148 [.ref b] 71 ls st h k n) := by rw [wp_s dd_149_68 rfl hs]; rfl
theorem dd_149_71 : decode (mB 149) 71 = .ok (.iadd, 1) := by decide +kernel
theorem u_149_71 {G : aG} {S : Nat → Bool} {f : Nat} {st : List Value} {ls : aL} {h : aH} {k n : Nat} {x y : Int32} (hs : S 71 = false) : WP 149 G S (f + 1) 71 ls (.int y :: .int x :: st) h k n = (WP 149 G S f 72 ls (.int (x + y) :: st) h k n) := by rw [wp_s dd_149_71 rfl hs]; rfl
theorem dd_149_72 : decode (mB 149) 72 = .ok (.iload_n 1, 1) := by decide +kernel
theorem u_149_72 {G : aG} {S : Nat → Bool} {f : Nat} {st : List Value} {ls : aL} {h : aH} {k n : Nat} (hs : S 72 = false) : WP 149 G S (f + 1) 72 ls st h k n = (oI (lget ls 1) (WP 149 G S f) 73 ls st h k n) := by rw [wp_s dd_149_72 rfl hs]; rfl
theorem dd_149_73 : decode (mB 149) 73 = .ok (.iastore, 1) := by decide +kernel
theorem u_149_73 {G : aG} {S : Nat → Bool} {f : Nat} {st : List Value} {ls : aL} {h : aH} {k n : Nat} {i x : Int32} {a : Nat} (hs : S 73 = false) : WP 149 G S (f + 1) 73 ls (.int x :: .int i :: .ref a :: st) h k n = (oIst (iget h a 1) a i x (WP 149 G S f) 74 ls st h k n) := by rw [wp_s dd_149_73 rfl hs]; rfl
theorem dd_149_74 : decode (mB 149) 74 = .ok (.aload_n 0, 1) := by decide +kernel
theorem u_149_74 {G : aG} {S : Nat → Bool} {f : Nat} {st : List Value} {ls : aL} {h : aH} {k n : Nat} (hs : S 74 = false) : WP 149 G S (f + 1) 74 ls st h k n = (oA (lget ls 0) (WP 149 G S f) 75 ls st h k n) := by rw [wp_s dd_149_74 rfl hs]; rfl
theorem dd_149_75 : decode (mB 149) 75 = .ok (.getfield 7, 3) := by decide +kernel
theorem u_149_75 {G : aG} {S : Nat → Bool} {f : Nat} {st : List Value} {ls : aL} {h : aH} {k n : Nat} {a : Nat} (hs : S 75 = false) : WP 149 G S (f + 1) 75 ls (.ref a :: st) h k n = (oV (fget h a 10 0) (WP 149 G S f) 78 ls st h k n) := by rw [wp_s dd_149_75 rfl hs]; rfl
theorem dd_149_78 : decode (mB 149) 78 = .ok (.sipush 443, 3) := by decide +kernel
theorem u_149_78 {G : aG} {S : Nat → Bool} {f : Nat} {st : List Value} {ls : aL} {h : aH} {k n : Nat} (hs : S 78 = false) : WP 149 G S (f + 1) 78 ls st h k n = (WP 149 G S f 81 ls (.int (nI 443) :: st) h k n) := by rw [wp_s dd_149_78 rfl hs]; rfl
theorem dd_149_81 : decode (mB 149) 81 = .ok (.dup2, 1) := by decide +kernel
theorem u_149_81 {G : aG} {S : Nat → Bool} {f : Nat} {st : List Value} {ls : aL} {h : aH} {k n : Nat} {v v2 : Value} (hs : S 81 = false) : WP 149 G S (f + 1) 81 ls (v :: v2 :: st) h k n = (cond (cat1 v && cat1 v2) (WP 149 G S f 82 ls (v :: v2 :: v :: v2 :: st) h k n) False) := by rw [wp_s dd_149_81 rfl hs]; rfl
theorem dd_149_82 : decode (mB 149) 82 = .ok (.iaload, 1) := by decide +kernel
theorem u_149_82 {G : aG} {S : Nat → Bool} {f : Nat} {st : List Value} {ls : aL} {h : aH} {k n : Nat} {i : Int32} {a : Nat} (hs : S 82 = false) : WP 149 G S (f + 1) 82 ls (.int i :: .ref a :: st) h k n = (oIld (iget h a 1) i (WP 149 G S f) 83 ls st h k n) := by rw [wp_s dd_149_82 rfl hs]; rfl
theorem dd_149_83 : decode (mB 149) 83 = .ok (.iconst 1, 1) := by decide +kernel
theorem u_149_83 {G : aG} {S : Nat → Bool} {f : Nat} {st : List Value} {ls : aL} {h : aH} {k n : Nat} (hs : S 83 = false) : WP 149 G S (f + 1) 83 ls st h k n = (WP 149 G S f 84 ls (.int (nI 1) :: st) h k n) := by rw [wp_s dd_149_83 rfl hs]; rfl
theorem dd_149_84 : decode (mB 149) 84 = .ok (.iadd, 1) := by decide +kernel
theorem u_149_84 {G : aG} {S : Nat → Bool} {f : Nat} {st : List Value} {ls : aL} {h : aH} {k n : Nat} {x y : Int32} (hs : S 84 = false) : WP 149 G S (f + 1) 84 ls (.int y :: .int x :: st) h k n = (WP 149 G S f 85 ls (.int (x + y) :: st) h k n) := by rw [wp_s dd_149_84 rfl hs]; rfl
theorem dd_149_85 : decode (mB 149) 85 = .ok (.iastore, 1) := by decide +kernel
theorem u_149_85 {G : aG} {S : Nat → Bool} {f : Nat} {st : List Value} {ls : aL} {h : aH} {k n : Nat} {i x : Int32} {a : Nat} (hs : S 85 = false) : WP 149 G S (f + 1) 85 ls (.int x :: .int i :: .ref a :: st) h k n = (oIst (iget h a 1) a i x (WP 149 G S f) 86 ls st h k n) := by rw [wp_s dd_149_85 rfl hs]; rfl
theorem dd_149_86 : decode (mB 149) 86 = .ok (.aload_n 0, 1) := by decide +kernel
theorem u_149_86 {G : aG} {S : Nat → Bool} {f : Nat} {st : List Value} {ls : aL} {h : aH} {k n : Nat} (hs : S 86 = false) : WP 149 G S (f + 1) 86 ls st h k n = (oA (lget ls 0) (WP 149 G S f) 87 ls st h k n) := by rw [wp_s dd_149_86 rfl hs]; rfl
theorem dd_149_87 : decode (mB 149) 87 = .ok (.invokevirtual 250, 3) := by decide +kernel
theorem u_149_87 {G : aG} {S : Nat → Bool} {f : Nat} {st : List Value} {ls : aL} {h : aH} {k n : Nat} {b : Nat} (hs : S 87 = false) : WP 149 G S (f + 1) 87 ls (.ref b :: st) h k n = (rcv (hget h b) 10 ∧ CAL G (WP 149 G S f) 147 [.ref b] 90 ls st h k n) := by rw [wp_s dd_149_87 rfl hs]; rfl
theorem dd_149_90 : decode (mB 149) 90 = .ok (.aload_n 0, 1) := by decide +kernel
theorem u_149_90 {G : aG} {S : Nat → Bool} {f : Nat} {st : List Value} {ls : aL} {h : aH} {k n : Nat} (hs : S 90 = false) : WP 149 G S (f + 1) 90 ls st h k n = (oA (lget ls 0) (WP 149 G S f) 91 ls st h k n) := by rw [wp_s dd_149_90 rfl hs]; rfl
theorem dd_149_91 : decode (mB 149) 91 = .ok (.iconst 0, 1) := by decide +kernel
theorem u_149_91 {G : aG} {S : Nat → Bool} {f : Nat} {st : List Value} {ls : aL} {h : aH} {k n : Nat} (hs : S 91 = false) : WP 149 G S (f + 1) 91 ls st h k n = (WP 149 G S f 92 ls (.int (nI 0) :: st) h k n) := by rw [wp_s dd_149_91 rfl hs]; rfl
theorem dd_149_92 : decode (mB 149) 92 = .ok (.invokevirtual 189, 3) := by decide +kernel
theorem u_149_92 {G : aG} {S : Nat → Bool} {f : Nat} {st : List Value} {ls : aL} {h : aH} {k n : Nat} {v1 : Value} {b : Nat} (hs : S 92 = false) : WP 149 G S (f + 1) 92 ls (v1 :: .ref b :: st) h k n = (rcv (hget h b) 10 ∧ CAL G (WP 149 G S f) 127 [.ref b, v1] 95 ls st h k n) := by rw [wp_s dd_149_92 rfl hs]; rfl
theorem dd_149_95 : decode (mB 149) 95 = .ok (.ireturn, 1) := by decide +kernel
theorem u_149_95 {G : aG} {S : Nat → Bool} {f : Nat} {ls : aL} {h : aH} {k n : Nat} {x : Int32} (hs : S 95 = false) : WP 149 G S (f + 1) 95 ls [.int x] h k n = (RET G (some (.int x)) h k n) := by rw [wp_s dd_149_95 rfl hs]; rfl
theorem dd_150_0 : decode (mB 150) 0 = .ok (.iload_n 1, 1) := by decide +kernel
theorem u_150_0 {G : aG} {S : Nat → Bool} {f : Nat} {st : List Value} {ls : aL} {h : aH} {k n : Nat} (hs : S 0 = false) : WP 150 G S (f + 1) 0 ls st h k n = (oI (lget ls 1) (WP 150 G S f) 1 ls st h k n) := by rw [wp_s dd_150_0 rfl hs]; rfl
theorem dd_150_1 : decode (mB 150) 1 = .ok (.i2l, 1) := by decide +kernel
theorem u_150_1 {G : aG} {S : Nat → Bool} {f : Nat} {st : List Value} {ls : aL} {h : aH} {k n : Nat} {x : Int32} (hs : S 1 = false) : WP 150 G S (f + 1) 1 ls (.int x :: st) h k n = (WP 150 G S f 2 ls (.long x.toInt64 :: st) h k n) := by rw [wp_s dd_150_1 rfl hs]; rfl
theorem dd_150_2 : decode (mB 150) 2 = .ok (.lconst 0, 1) := by decide +kernel
theorem u_150_2 {G : aG} {S : Nat → Bool} {f : Nat} {st : List Value} {ls : aL} {h : aH} {k n : Nat} (hs : S 2 = false) : WP 150 G S (f + 1) 2 ls st h k n = (WP 150 G S f 3 ls (.long (lN 0) :: st) h k n) := by rw [wp_s dd_150_2 rfl hs]; rfl
theorem dd_150_3 : decode (mB 150) 3 = .ok (.ldc2_w 192, 3) := by decide +kernel
theorem u_150_3 {G : aG} {S : Nat → Bool} {f : Nat} {st : List Value} {ls : aL} {h : aH} {k n : Nat} (hs : S 3 = false) : WP 150 G S (f + 1) 3 ls st h k n = (WP 150 G S f 6 ls (.long (lN 3) :: st) h k n) := by rw [wp_s dd_150_3 rfl hs]; rfl
theorem dd_150_6 : decode (mB 150) 6 = .ok (.invokestatic 109, 3) := by decide +kernel
theorem u_150_6 {G : aG} {S : Nat → Bool} {f : Nat} {st : List Value} {ls : aL} {h : aH} {k n : Nat} {v1 v2 v3 : Value} (hs : S 6 = false) : WP 150 G S (f + 1) 6 ls (v3 :: v2 :: v1 :: st) h k n = (CAL G (WP 150 G S f) 104 [v1, v2, v3] 9 ls st h k n) := by rw [wp_s dd_150_6 rfl hs]; rfl
theorem dd_150_9 : decode (mB 150) 9 = .ok (.ifCond .eq 11, 3) := by decide +kernel
theorem u_150_9 {G : aG} {S : Nat → Bool} {f : Nat} {st : List Value} {ls : aL} {h : aH} {k n : Nat} {x : Int32} (hs : S 9 = false) : WP 150 G S (f + 1) 9 ls (.int x :: st) h k n = (if x = nI 0 then WP 150 G S f 20 ls st h k n else WP 150 G S f 12 ls st h k n) := by rw [wp_s dd_150_9 rfl hs]; exact br_ite (c := x = nI 0)
theorem dd_150_12 : decode (mB 150) 12 = .ok (.aload_n 0, 1) := by decide +kernel
theorem u_150_12 {G : aG} {S : Nat → Bool} {f : Nat} {st : List Value} {ls : aL} {h : aH} {k n : Nat} (hs : S 12 = false) : WP 150 G S (f + 1) 12 ls st h k n = (oA (lget ls 0) (WP 150 G S f) 13 ls st h k n) := by rw [wp_s dd_150_12 rfl hs]; rfl
theorem dd_150_13 : decode (mB 150) 13 = .ok (.iload_n 1, 1) := by decide +kernel
theorem u_150_13 {G : aG} {S : Nat → Bool} {f : Nat} {st : List Value} {ls : aL} {h : aH} {k n : Nat} (hs : S 13 = false) : WP 150 G S (f + 1) 13 ls st h k n = (oI (lget ls 1) (WP 150 G S f) 14 ls st h k n) := by rw [wp_s dd_150_13 rfl hs]; rfl
theorem dd_150_14 : decode (mB 150) 14 = .ok (.invokevirtual 255, 3) := by decide +kernel
theorem u_150_14 {G : aG} {S : Nat → Bool} {f : Nat} {st : List Value} {ls : aL} {h : aH} {k n : Nat} {v1 : Value} {b : Nat} (hs : S 14 = false) : WP 150 G S (f + 1) 14 ls (v1 :: .ref b :: st) h k n = (rcv (hget h b) 10 ∧ CAL G (WP 150 G S f) 151 [.ref b, v1] 17 ls st h k n) := by rw [wp_s dd_150_14 rfl hs]; rfl
theorem dd_150_17 : decode (mB 150) 17 = .ok (.goto 9, 3) := by decide +kernel
theorem u_150_17 {G : aG} {S : Nat → Bool} {f : Nat} {st : List Value} {ls : aL} {h : aH} {k n : Nat} (hs : S 17 = false) : WP 150 G S (f + 1) 17 ls st h k n = (WP 150 G S f 26 ls st h k n) := by rw [wp_s dd_150_17 rfl hs]; rfl
theorem dd_150_20 : decode (mB 150) 20 = .ok (.aload_n 0, 1) := by decide +kernel
theorem u_150_20 {G : aG} {S : Nat → Bool} {f : Nat} {st : List Value} {ls : aL} {h : aH} {k n : Nat} (hs : S 20 = false) : WP 150 G S (f + 1) 20 ls st h k n = (oA (lget ls 0) (WP 150 G S f) 21 ls st h k n) := by rw [wp_s dd_150_20 rfl hs]; rfl
theorem dd_150_21 : decode (mB 150) 21 = .ok (.bipush (-2), 2) := by decide +kernel
theorem u_150_21 {G : aG} {S : Nat → Bool} {f : Nat} {st : List Value} {ls : aL} {h : aH} {k n : Nat} (hs : S 21 = false) : WP 150 G S (f + 1) 21 ls st h k n = (WP 150 G S f 23 ls (.int (-2) :: st) h k n) := by rw [wp_s dd_150_21 rfl hs]; rfl
theorem dd_150_23 : decode (mB 150) 23 = .ok (.invokevirtual 113, 3) := by decide +kernel
theorem u_150_23 {G : aG} {S : Nat → Bool} {f : Nat} {st : List Value} {ls : aL} {h : aH} {k n : Nat} {v1 : Value} {b : Nat} (hs : S 23 = false) : WP 150 G S (f + 1) 23 ls (v1 :: .ref b :: st) h k n = (rcv (hget h b) 10 ∧ CAL G (WP 150 G S f) 105 [.ref b, v1] 26 ls st h k n) := by rw [wp_s dd_150_23 rfl hs]; rfl
theorem dd_150_26 : decode (mB 150) 26 = .ok (.ireturn, 1) := by decide +kernel
theorem u_150_26 {G : aG} {S : Nat → Bool} {f : Nat} {ls : aL} {h : aH} {k n : Nat} {x : Int32} (hs : S 26 = false) : WP 150 G S (f + 1) 26 ls [.int x] h k n = (RET G (some (.int x)) h k n) := by rw [wp_s dd_150_26 rfl hs]; rfl
theorem dd_151_0 : decode (mB 151) 0 = .ok (.aload_n 0, 1) := by decide +kernel
theorem u_151_0 {G : aG} {S : Nat → Bool} {f : Nat} {st : List Value} {ls : aL} {h : aH} {k n : Nat} (hs : S 0 = false) : WP 151 G S (f + 1) 0 ls st h k n = (oA (lget ls 0) (WP 151 G S f) 1 ls st h k n) := by rw [wp_s dd_151_0 rfl hs]; rfl
theorem dd_151_1 : decode (mB 151) 1 = .ok (.invokevirtual 250, 3) := by decide +kernel
theorem u_151_1 {G : aG} {S : Nat → Bool} {f : Nat} {st : List Value} {ls : aL} {h : aH} {k n : Nat} {b : Nat} (hs : S 1 = false) : WP 151 G S (f + 1) 1 ls (.ref b :: st) h k n = (rcv (hget h b) 10 ∧ CAL G (WP 151 G S f) 147 [.ref b] 4 ls st h k n) := by rw [wp_s dd_151_1 rfl hs]; rfl
theorem dd_151_4 : decode (mB 151) 4 = .ok (.iload_n 1, 1) := by decide +kernel
theorem u_151_4 {G : aG} {S : Nat → Bool} {f : Nat} {st : List Value} {ls : aL} {h : aH} {k n : Nat} (hs : S 4 = false) : WP 151 G S (f + 1) 4 ls st h k n = (oI (lget ls 1) (WP 151 G S f) 5 ls st h k n) := by rw [wp_s dd_151_4 rfl hs]; rfl
theorem dd_151_5 : decode (mB 151) 5 = .ok (.ifCond .ne 11, 3) := by decide +kernel
theorem u_151_5 {G : aG} {S : Nat → Bool} {f : Nat} {st : List Value} {ls : aL} {h : aH} {k n : Nat} {x : Int32} (hs : S 5 = false) : WP 151 G S (f + 1) 5 ls (.int x :: st) h k n = (if x = nI 0 then WP 151 G S f 8 ls st h k n else WP 151 G S f 16 ls st h k n) := by rw [wp_s dd_151_5 rfl hs]; exact br_iten (c := x = nI 0)
theorem dd_151_8 : decode (mB 151) 8 = .ok (.aload_n 0, 1) := by decide +kernel
theorem u_151_8 {G : aG} {S : Nat → Bool} {f : Nat} {st : List Value} {ls : aL} {h : aH} {k n : Nat} (hs : S 8 = false) : WP 151 G S (f + 1) 8 ls st h k n = (oA (lget ls 0) (WP 151 G S f) 9 ls st h k n) := by rw [wp_s dd_151_8 rfl hs]; rfl
theorem dd_151_9 : decode (mB 151) 9 = .ok (.iconst 0, 1) := by decide +kernel
theorem u_151_9 {G : aG} {S : Nat → Bool} {f : Nat} {st : List Value} {ls : aL} {h : aH} {k n : Nat} (hs : S 9 = false) : WP 151 G S (f + 1) 9 ls st h k n = (WP 151 G S f 10 ls (.int (nI 0) :: st) h k n) := by rw [wp_s dd_151_9 rfl hs]; rfl
theorem dd_151_10 : decode (mB 151) 10 = .ok (.invokevirtual 189, 3) := by decide +kernel
theorem u_151_10 {G : aG} {S : Nat → Bool} {f : Nat} {st : List Value} {ls : aL} {h : aH} {k n : Nat} {v1 : Value} {b : Nat} (hs : S 10 = false) : WP 151 G S (f + 1) 10 ls (v1 :: .ref b :: st) h k n = (rcv (hget h b) 10 ∧ CAL G (WP 151 G S f) 127 [.ref b, v1] 13 ls st h k n) := by rw [wp_s dd_151_10 rfl hs]; rfl
theorem dd_151_13 : decode (mB 151) 13 = .ok (.goto 44, 3) := by decide +kernel
theorem u_151_13 {G : aG} {S : Nat → Bool} {f : Nat} {st : List Value} {ls : aL} {h : aH} {k n : Nat} (hs : S 13 = false) : WP 151 G S (f + 1) 13 ls st h k n = (WP 151 G S f 57 ls st h k n) := by rw [wp_s dd_151_13 rfl hs]; rfl
theorem dd_151_16 : decode (mB 151) 16 = .ok (.iload_n 1, 1) := by decide +kernel
theorem u_151_16 {G : aG} {S : Nat → Bool} {f : Nat} {st : List Value} {ls : aL} {h : aH} {k n : Nat} (hs : S 16 = false) : WP 151 G S (f + 1) 16 ls st h k n = (oI (lget ls 1) (WP 151 G S f) 17 ls st h k n) := by rw [wp_s dd_151_16 rfl hs]; rfl
theorem dd_151_17 : decode (mB 151) 17 = .ok (.iconst 1, 1) := by decide +kernel
theorem u_151_17 {G : aG} {S : Nat → Bool} {f : Nat} {st : List Value} {ls : aL} {h : aH} {k n : Nat} (hs : S 17 = false) : WP 151 G S (f + 1) 17 ls st h k n = (WP 151 G S f 18 ls (.int (nI 1) :: st) h k n) := by rw [wp_s dd_151_17 rfl hs]; rfl
theorem dd_151_18 : decode (mB 151) 18 = .ok (.if_icmp .ne 19, 3) := by decide +kernel
theorem u_151_18 {G : aG} {S : Nat → Bool} {f : Nat} {st : List Value} {ls : aL} {h : aH} {k n : Nat} {x y : Int32} (hs : S 18 = false) : WP 151 G S (f + 1) 18 ls (.int y :: .int x :: st) h k n = (if x = y then WP 151 G S f 21 ls st h k n else WP 151 G S f 37 ls st h k n) := by rw [wp_s dd_151_18 rfl hs]; exact br_iten (c := x = y)
theorem dd_151_21 : decode (mB 151) 21 = .ok (.aload_n 0, 1) := by decide +kernel
theorem u_151_21 {G : aG} {S : Nat → Bool} {f : Nat} {st : List Value} {ls : aL} {h : aH} {k n : Nat} (hs : S 21 = false) : WP 151 G S (f + 1) 21 ls st h k n = (oA (lget ls 0) (WP 151 G S f) 22 ls st h k n) := by rw [wp_s dd_151_21 rfl hs]; rfl
theorem dd_151_22 : decode (mB 151) 22 = .ok (.iconst 0, 1) := by decide +kernel
theorem u_151_22 {G : aG} {S : Nat → Bool} {f : Nat} {st : List Value} {ls : aL} {h : aH} {k n : Nat} (hs : S 22 = false) : WP 151 G S (f + 1) 22 ls st h k n = (WP 151 G S f 23 ls (.int (nI 0) :: st) h k n) := by rw [wp_s dd_151_22 rfl hs]; rfl
theorem dd_151_23 : decode (mB 151) 23 = .ok (.invokevirtual 198, 3) := by decide +kernel
theorem u_151_23 {G : aG} {S : Nat → Bool} {f : Nat} {st : List Value} {ls : aL} {h : aH} {k n : Nat} {v1 : Value} {b : Nat} (hs : S 23 = false) : WP 151 G S (f + 1) 23 ls (v1 :: .ref b :: st) h k n = (rcv (hget h b) 10 ∧ CAL G (WP 151 G S f) 135 [.ref b, v1] 26 ls st h k n) := by rw [wp_s dd_151_23 rfl hs]; rfl
theorem dd_151_26 : decode (mB 151) 26 = .ok (.ifCond .eq 7, 3) := by decide +kernel
theorem u_151_26 {G : aG} {S : Nat → Bool} {f : Nat} {st : List Value} {ls : aL} {h : aH} {k n : Nat} {x : Int32} (hs : S 26 = false) : WP 151 G S (f + 1) 26 ls (.int x :: st) h k n = (if x = nI 0 then WP 151 G S f 33 ls st h k n else WP 151 G S f 29 ls st h k n) := by rw [wp_s dd_151_26 rfl hs]; exact br_ite (c := x = nI 0)
theorem dd_151_29 : decode (mB 151) 29 = .ok (.iconst 1, 1) := by decide +kernel
theorem u_151_29 {G : aG} {S : Nat → Bool} {f : Nat} {st : List Value} {ls : aL} {h : aH} {k n : Nat} (hs : S 29 = false) : WP 151 G S (f + 1) 29 ls st h k n = (WP 151 G S f 30 ls (.int (nI 1) :: st) h k n) := by rw [wp_s dd_151_29 rfl hs]; rfl
theorem dd_151_30 : decode (mB 151) 30 = .ok (.goto 27, 3) := by decide +kernel
theorem u_151_30 {G : aG} {S : Nat → Bool} {f : Nat} {st : List Value} {ls : aL} {h : aH} {k n : Nat} (hs : S 30 = false) : WP 151 G S (f + 1) 30 ls st h k n = (WP 151 G S f 57 ls st h k n) := by rw [wp_s dd_151_30 rfl hs]; rfl
theorem dd_151_33 : decode (mB 151) 33 = .ok (.iconst 0, 1) := by decide +kernel
theorem u_151_33 {G : aG} {S : Nat → Bool} {f : Nat} {st : List Value} {ls : aL} {h : aH} {k n : Nat} (hs : S 33 = false) : WP 151 G S (f + 1) 33 ls st h k n = (WP 151 G S f 34 ls (.int (nI 0) :: st) h k n) := by rw [wp_s dd_151_33 rfl hs]; rfl
theorem dd_151_34 : decode (mB 151) 34 = .ok (.goto 23, 3) := by decide +kernel
theorem u_151_34 {G : aG} {S : Nat → Bool} {f : Nat} {st : List Value} {ls : aL} {h : aH} {k n : Nat} (hs : S 34 = false) : WP 151 G S (f + 1) 34 ls st h k n = (WP 151 G S f 57 ls st h k n) := by rw [wp_s dd_151_34 rfl hs]; rfl
theorem dd_151_37 : decode (mB 151) 37 = .ok (.iload_n 1, 1) := by decide +kernel
theorem u_151_37 {G : aG} {S : Nat → Bool} {f : Nat} {st : List Value} {ls : aL} {h : aH} {k n : Nat} (hs : S 37 = false) : WP 151 G S (f + 1) 37 ls st h k n = (oI (lget ls 1) (WP 151 G S f) 38 ls st h k n) := by rw [wp_s dd_151_37 rfl hs]; rfl
theorem dd_151_38 : decode (mB 151) 38 = .ok (.iconst 2, 1) := by decide +kernel
theorem u_151_38 {G : aG} {S : Nat → Bool} {f : Nat} {st : List Value} {ls : aL} {h : aH} {k n : Nat} (hs : S 38 = false) : WP 151 G S (f + 1) 38 ls st h k n = (WP 151 G S f 39 ls (.int (nI 2) :: st) h k n) := by rw [wp_s dd_151_38 rfl hs]; rfl
theorem dd_151_39 : decode (mB 151) 39 = .ok (.if_icmp .ne 10, 3) := by decide +kernel
theorem u_151_39 {G : aG} {S : Nat → Bool} {f : Nat} {st : List Value} {ls : aL} {h : aH} {k n : Nat} {x y : Int32} (hs : S 39 = false) : WP 151 G S (f + 1) 39 ls (.int y :: .int x :: st) h k n = (if x = y then WP 151 G S f 42 ls st h k n else WP 151 G S f 49 ls st h k n) := by rw [wp_s dd_151_39 rfl hs]; exact br_iten (c := x = y)
theorem dd_151_42 : decode (mB 151) 42 = .ok (.aload_n 0, 1) := by decide +kernel
theorem u_151_42 {G : aG} {S : Nat → Bool} {f : Nat} {st : List Value} {ls : aL} {h : aH} {k n : Nat} (hs : S 42 = false) : WP 151 G S (f + 1) 42 ls st h k n = (oA (lget ls 0) (WP 151 G S f) 43 ls st h k n) := by rw [wp_s dd_151_42 rfl hs]; rfl
theorem dd_151_43 : decode (mB 151) 43 = .ok (.invokevirtual 247, 3) := by decide +kernel
theorem u_151_43 {G : aG} {S : Nat → Bool} {f : Nat} {st : List Value} {ls : aL} {h : aH} {k n : Nat} {b : Nat} (hs : S 43 = false) : WP 151 G S (f + 1) 43 ls (.ref b :: st) h k n = (rcv (hget h b) 10 ∧ CAL G (WP 151 G S f) 148 [.ref b] 46 ls st h k n) := by rw [wp_s dd_151_43 rfl hs]; rfl
theorem dd_151_46 : decode (mB 151) 46 = .ok (.goto 11, 3) := by decide +kernel
theorem u_151_46 {G : aG} {S : Nat → Bool} {f : Nat} {st : List Value} {ls : aL} {h : aH} {k n : Nat} (hs : S 46 = false) : WP 151 G S (f + 1) 46 ls st h k n = (WP 151 G S f 57 ls st h k n) := by rw [wp_s dd_151_46 rfl hs]; rfl
theorem dd_151_49 : decode (mB 151) 49 = .ok (.aload_n 0, 1) := by decide +kernel
theorem u_151_49 {G : aG} {S : Nat → Bool} {f : Nat} {st : List Value} {ls : aL} {h : aH} {k n : Nat} (hs : S 49 = false) : WP 151 G S (f + 1) 49 ls st h k n = (oA (lget ls 0) (WP 151 G S f) 50 ls st h k n) := by rw [wp_s dd_151_49 rfl hs]; rfl
theorem dd_151_50 : decode (mB 151) 50 = .ok (.getfield 7, 3) := by decide +kernel
theorem u_151_50 {G : aG} {S : Nat → Bool} {f : Nat} {st : List Value} {ls : aL} {h : aH} {k n : Nat} {a : Nat} (hs : S 50 = false) : WP 151 G S (f + 1) 50 ls (.ref a :: st) h k n = (oV (fget h a 10 0) (WP 151 G S f) 53 ls st h k n) := by rw [wp_s dd_151_50 rfl hs]; rfl
theorem dd_151_53 : decode (mB 151) 53 = .ok (.sipush 442, 3) := by decide +kernel
theorem u_151_53 {G : aG} {S : Nat → Bool} {f : Nat} {st : List Value} {ls : aL} {h : aH} {k n : Nat} (hs : S 53 = false) : WP 151 G S (f + 1) 53 ls st h k n = (WP 151 G S f 56 ls (.int (nI 442) :: st) h k n) := by rw [wp_s dd_151_53 rfl hs]; rfl
theorem dd_151_56 : decode (mB 151) 56 = .ok (.iaload, 1) := by decide +kernel
theorem u_151_56 {G : aG} {S : Nat → Bool} {f : Nat} {st : List Value} {ls : aL} {h : aH} {k n : Nat} {i : Int32} {a : Nat} (hs : S 56 = false) : WP 151 G S (f + 1) 56 ls (.int i :: .ref a :: st) h k n = (oIld (iget h a 1) i (WP 151 G S f) 57 ls st h k n) := by rw [wp_s dd_151_56 rfl hs]; rfl
theorem dd_151_57 : decode (mB 151) 57 = .ok (.ireturn, 1) := by decide +kernel
theorem u_151_57 {G : aG} {S : Nat → Bool} {f : Nat} {ls : aL} {h : aH} {k n : Nat} {x : Int32} (hs : S 57 = false) : WP 151 G S (f + 1) 57 ls [.int x] h k n = (RET G (some (.int x)) h k n) := by rw [wp_s dd_151_57 rfl hs]; rfl
theorem dd_152_0 : decode (mB 152) 0 = .ok (.aload_n 0, 1) := by decide +kernel
theorem u_152_0 {G : aG} {S : Nat → Bool} {f : Nat} {st : List Value} {ls : aL} {h : aH} {k n : Nat} (hs : S 0 = false) : WP 152 G S (f + 1) 0 ls st h k n = (oA (lget ls 0) (WP 152 G S f) 1 ls st h k n) := by rw [wp_s dd_152_0 rfl hs]; rfl
theorem dd_152_1 : decode (mB 152) 1 = .ok (.getfield 77, 3) := by decide +kernel
theorem u_152_1 {G : aG} {S : Nat → Bool} {f : Nat} {st : List Value} {ls : aL} {h : aH} {k n : Nat} {a : Nat} (hs : S 1 = false) : WP 152 G S (f + 1) 1 ls (.ref a :: st) h k n = (oV (fget h a 10 2) (WP 152 G S f) 4 ls st h k n) := by rw [wp_s dd_152_1 rfl hs]; rfl
theorem dd_152_4 : decode (mB 152) 4 = .ok (.ifCond .ne 10, 3) := by decide +kernel
theorem u_152_4 {G : aG} {S : Nat → Bool} {f : Nat} {st : List Value} {ls : aL} {h : aH} {k n : Nat} {x : Int32} (hs : S 4 = false) : WP 152 G S (f + 1) 4 ls (.int x :: st) h k n = (if x = nI 0 then WP 152 G S f 7 ls st h k n else WP 152 G S f 14 ls st h k n) := by rw [wp_s dd_152_4 rfl hs]; exact br_iten (c := x = nI 0)
theorem dd_152_7 : decode (mB 152) 7 = .ok (.aload_n 0, 1) := by decide +kernel
theorem u_152_7 {G : aG} {S : Nat → Bool} {f : Nat} {st : List Value} {ls : aL} {h : aH} {k n : Nat} (hs : S 7 = false) : WP 152 G S (f + 1) 7 ls st h k n = (oA (lget ls 0) (WP 152 G S f) 8 ls st h k n) := by rw [wp_s dd_152_7 rfl hs]; rfl
theorem dd_152_8 : decode (mB 152) 8 = .ok (.bipush (-3), 2) := by decide +kernel
theorem u_152_8 {G : aG} {S : Nat → Bool} {f : Nat} {st : List Value} {ls : aL} {h : aH} {k n : Nat} (hs : S 8 = false) : WP 152 G S (f + 1) 8 ls st h k n = (WP 152 G S f 10 ls (.int (-3) :: st) h k n) := by rw [wp_s dd_152_8 rfl hs]; rfl
theorem dd_152_10 : decode (mB 152) 10 = .ok (.invokevirtual 113, 3) := by decide +kernel
theorem u_152_10 {G : aG} {S : Nat → Bool} {f : Nat} {st : List Value} {ls : aL} {h : aH} {k n : Nat} {v1 : Value} {b : Nat} (hs : S 10 = false) : WP 152 G S (f + 1) 10 ls (v1 :: .ref b :: st) h k n = (rcv (hget h b) 10 ∧ CAL G (WP 152 G S f) 105 [.ref b, v1] 13 ls st h k n) := by rw [wp_s dd_152_10 rfl hs]; rfl
theorem dd_152_13 : decode (mB 152) 13 = .ok (.ireturn, 1) := by decide +kernel
theorem u_152_13 {G : aG} {S : Nat → Bool} {f : Nat} {ls : aL} {h : aH} {k n : Nat} {x : Int32} (hs : S 13 = false) : WP 152 G S (f + 1) 13 ls [.int x] h k n = (RET G (some (.int x)) h k n) := by rw [wp_s dd_152_13 rfl hs]; rfl
theorem dd_152_14 : decode (mB 152) 14 = .ok (.aload_n 0, 1) := by decide +kernel
theorem u_152_14 {G : aG} {S : Nat → Bool} {f : Nat} {st : List Value} {ls : aL} {h : aH} {k n : Nat} (hs : S 14 = false) : WP 152 G S (f + 1) 14 ls st h k n = (oA (lget ls 0) (WP 152 G S f) 15 ls st h k n) := by rw [wp_s dd_152_14 rfl hs]; rfl
theorem dd_152_15 : decode (mB 152) 15 = .ok (.dup, 1) := by decide +kernel
theorem u_152_15 {G : aG} {S : Nat → Bool} {f : Nat} {st : List Value} {ls : aL} {h : aH} {k n : Nat} {v : Value} (hs : S 15 = false) : WP 152 G S (f + 1) 15 ls (v :: st) h k n = (cond (cat1 v) (WP 152 G S f 16 ls (v :: v :: st) h k n) False) := by rw [wp_s dd_152_15 rfl hs]; rfl
theorem dd_152_16 : decode (mB 152) 16 = .ok (.getfield 77, 3) := by decide +kernel
theorem u_152_16 {G : aG} {S : Nat → Bool} {f : Nat} {st : List Value} {ls : aL} {h : aH} {k n : Nat} {a : Nat} (hs : S 16 = false) : WP 152 G S (f + 1) 16 ls (.ref a :: st) h k n = (oV (fget h a 10 2) (WP 152 G S f) 19 ls st h k n) := by rw [wp_s dd_152_16 rfl hs]; rfl
theorem dd_152_19 : decode (mB 152) 19 = .ok (.iconst 1, 1) := by decide +kernel
theorem u_152_19 {G : aG} {S : Nat → Bool} {f : Nat} {st : List Value} {ls : aL} {h : aH} {k n : Nat} (hs : S 19 = false) : WP 152 G S (f + 1) 19 ls st h k n = (WP 152 G S f 20 ls (.int (nI 1) :: st) h k n) := by rw [wp_s dd_152_19 rfl hs]; rfl
theorem dd_152_20 : decode (mB 152) 20 = .ok (.isub, 1) := by decide +kernel
theorem u_152_20 {G : aG} {S : Nat → Bool} {f : Nat} {st : List Value} {ls : aL} {h : aH} {k n : Nat} {x y : Int32} (hs : S 20 = false) : WP 152 G S (f + 1) 20 ls (.int y :: .int x :: st) h k n = (WP 152 G S f 21 ls (.int (x - y) :: st) h k n) := by rw [wp_s dd_152_20 rfl hs]; rfl
theorem dd_152_21 : decode (mB 152) 21 = .ok (.putfield 77, 3) := by decide +kernel
theorem u_152_21 {G : aG} {S : Nat → Bool} {f : Nat} {st : List Value} {ls : aL} {h : aH} {k n : Nat} {a : Nat} {x : Int32} (hs : S 21 = false) : WP 152 G S (f + 1) 21 ls (.int x :: .ref a :: st) h k n = (oH (fput h a 10 2 (.int x)) (WP 152 G S f) 24 ls st k n) := by rw [wp_s dd_152_21 rfl hs]; rfl
theorem dd_152_24 : decode (mB 152) 24 = .ok (.iconst 0, 1) := by decide +kernel
theorem u_152_24 {G : aG} {S : Nat → Bool} {f : Nat} {st : List Value} {ls : aL} {h : aH} {k n : Nat} (hs : S 24 = false) : WP 152 G S (f + 1) 24 ls st h k n = (WP 152 G S f 25 ls (.int (nI 0) :: st) h k n) := by rw [wp_s dd_152_24 rfl hs]; rfl
theorem dd_152_25 : decode (mB 152) 25 = .ok (.istore_n 1, 1) := by decide +kernel
theorem u_152_25 {G : aG} {S : Nat → Bool} {f : Nat} {st : List Value} {ls : aL} {h : aH} {k n : Nat} {x : Int32} (hs : S 25 = false) : WP 152 G S (f + 1) 25 ls (.int x :: st) h k n = (WP 152 G S f 26 (lput1 ls 1 (.int x)) st h k n) := by rw [wp_s dd_152_25 rfl hs]; rfl
theorem dd_152_26 : decode (mB 152) 26 = .ok (.iload_n 1, 1) := by decide +kernel
theorem u_152_26 {G : aG} {S : Nat → Bool} {f : Nat} {st : List Value} {ls : aL} {h : aH} {k n : Nat} (hs : S 26 = false) : WP 152 G S (f + 1) 26 ls st h k n = (oI (lget ls 1) (WP 152 G S f) 27 ls st h k n) := by rw [wp_s dd_152_26 rfl hs]; rfl
theorem v_152_26 {G : aG} {S : Nat → Bool} {f : Nat} {st : List Value} {ls : aL} {h : aH} {k n : Nat} : WQ 152 G S f 26 ls st h k n = (oI (lget ls 1) (WP 152 G S f) 27 ls st h k n) := by rw [wq_s dd_152_26 rfl]; rfl
theorem dd_152_27 : decode (mB 152) 27 = .ok (.sipush 464, 3) := by decide +kernel
theorem u_152_27 {G : aG} {S : Nat → Bool} {f : Nat} {st : List Value} {ls : aL} {h : aH} {k n : Nat} (hs : S 27 = false) : WP 152 G S (f + 1) 27 ls st h k n = (WP 152 G S f 30 ls (.int (nI 464) :: st) h k n) := by rw [wp_s dd_152_27 rfl hs]; rfl
theorem dd_152_30 : decode (mB 152) 30 = .ok (.if_icmp .ge 30, 3) := by decide +kernel
theorem u_152_30 {G : aG} {S : Nat → Bool} {f : Nat} {st : List Value} {ls : aL} {h : aH} {k n : Nat} {x y : Int32} (hs : S 30 = false) : WP 152 G S (f + 1) 30 ls (.int y :: .int x :: st) h k n = (if y ≤ x then WP 152 G S f 60 ls st h k n else WP 152 G S f 33 ls st h k n) := by rw [wp_s dd_152_30 rfl hs]; exact br_ite (c := y ≤ x)
theorem dd_152_33 : decode (mB 152) 33 = .ok (.aload_n 0, 1) := by decide +kernel
theorem u_152_33 {G : aG} {S : Nat → Bool} {f : Nat} {st : List Value} {ls : aL} {h : aH} {k n : Nat} (hs : S 33 = false) : WP 152 G S (f + 1) 33 ls st h k n = (oA (lget ls 0) (WP 152 G S f) 34 ls st h k n) := by rw [wp_s dd_152_33 rfl hs]; rfl
theorem dd_152_34 : decode (mB 152) 34 = .ok (.getfield 7, 3) := by decide +kernel
theorem u_152_34 {G : aG} {S : Nat → Bool} {f : Nat} {st : List Value} {ls : aL} {h : aH} {k n : Nat} {a : Nat} (hs : S 34 = false) : WP 152 G S (f + 1) 34 ls (.ref a :: st) h k n = (oV (fget h a 10 0) (WP 152 G S f) 37 ls st h k n) := by rw [wp_s dd_152_34 rfl hs]; rfl
theorem dd_152_37 : decode (mB 152) 37 = .ok (.iload_n 1, 1) := by decide +kernel
theorem u_152_37 {G : aG} {S : Nat → Bool} {f : Nat} {st : List Value} {ls : aL} {h : aH} {k n : Nat} (hs : S 37 = false) : WP 152 G S (f + 1) 37 ls st h k n = (oI (lget ls 1) (WP 152 G S f) 38 ls st h k n) := by rw [wp_s dd_152_37 rfl hs]; rfl
theorem dd_152_38 : decode (mB 152) 38 = .ok (.aload_n 0, 1) := by decide +kernel
theorem u_152_38 {G : aG} {S : Nat → Bool} {f : Nat} {st : List Value} {ls : aL} {h : aH} {k n : Nat} (hs : S 38 = false) : WP 152 G S (f + 1) 38 ls st h k n = (oA (lget ls 0) (WP 152 G S f) 39 ls st h k n) := by rw [wp_s dd_152_38 rfl hs]; rfl
theorem dd_152_39 : decode (mB 152) 39 = .ok (.getfield 13, 3) := by decide +kernel
theorem u_152_39 {G : aG} {S : Nat → Bool} {f : Nat} {st : List Value} {ls : aL} {h : aH} {k n : Nat} {a : Nat} (hs : S 39 = false) : WP 152 G S (f + 1) 39 ls (.ref a :: st) h k n = (oV (fget h a 10 1) (WP 152 G S f) 42 ls st h k n) := by rw [wp_s dd_152_39 rfl hs]; rfl
theorem dd_152_42 : decode (mB 152) 42 = .ok (.sipush 464, 3) := by decide +kernel
theorem u_152_42 {G : aG} {S : Nat → Bool} {f : Nat} {st : List Value} {ls : aL} {h : aH} {k n : Nat} (hs : S 42 = false) : WP 152 G S (f + 1) 42 ls st h k n = (WP 152 G S f 45 ls (.int (nI 464) :: st) h k n) := by rw [wp_s dd_152_42 rfl hs]; rfl
theorem dd_152_45 : decode (mB 152) 45 = .ok (.aload_n 0, 1) := by decide +kernel
theorem u_152_45 {G : aG} {S : Nat → Bool} {f : Nat} {st : List Value} {ls : aL} {h : aH} {k n : Nat} (hs : S 45 = false) : WP 152 G S (f + 1) 45 ls st h k n = (oA (lget ls 0) (WP 152 G S f) 46 ls st h k n) := by rw [wp_s dd_152_45 rfl hs]; rfl
theorem dd_152_46 : decode (mB 152) 46 = .ok (.getfield 77, 3) := by decide +kernel
theorem u_152_46 {G : aG} {S : Nat → Bool} {f : Nat} {st : List Value} {ls : aL} {h : aH} {k n : Nat} {a : Nat} (hs : S 46 = false) : WP 152 G S (f + 1) 46 ls (.ref a :: st) h k n = (oV (fget h a 10 2) (WP 152 G S f) 49 ls st h k n) := by rw [wp_s dd_152_46 rfl hs]; rfl
theorem dd_152_49 : decode (mB 152) 49 = .ok (.imul, 1) := by decide +kernel
theorem u_152_49 {G : aG} {S : Nat → Bool} {f : Nat} {st : List Value} {ls : aL} {h : aH} {k n : Nat} {x y : Int32} (hs : S 49 = false) : WP 152 G S (f + 1) 49 ls (.int y :: .int x :: st) h k n = (WP 152 G S f 50 ls (.int (x * y) :: st) h k n) := by rw [wp_s dd_152_49 rfl hs]; rfl
theorem dd_152_50 : decode (mB 152) 50 = .ok (.iload_n 1, 1) := by decide +kernel
theorem u_152_50 {G : aG} {S : Nat → Bool} {f : Nat} {st : List Value} {ls : aL} {h : aH} {k n : Nat} (hs : S 50 = false) : WP 152 G S (f + 1) 50 ls st h k n = (oI (lget ls 1) (WP 152 G S f) 51 ls st h k n) := by rw [wp_s dd_152_50 rfl hs]; rfl
theorem dd_152_51 : decode (mB 152) 51 = .ok (.iadd, 1) := by decide +kernel
theorem u_152_51 {G : aG} {S : Nat → Bool} {f : Nat} {st : List Value} {ls : aL} {h : aH} {k n : Nat} {x y : Int32} (hs : S 51 = false) : WP 152 G S (f + 1) 51 ls (.int y :: .int x :: st) h k n = (WP 152 G S f 52 ls (.int (x + y) :: st) h k n) := by rw [wp_s dd_152_51 rfl hs]; rfl
theorem dd_152_52 : decode (mB 152) 52 = .ok (.iaload, 1) := by decide +kernel
theorem u_152_52 {G : aG} {S : Nat → Bool} {f : Nat} {st : List Value} {ls : aL} {h : aH} {k n : Nat} {i : Int32} {a : Nat} (hs : S 52 = false) : WP 152 G S (f + 1) 52 ls (.int i :: .ref a :: st) h k n = (oIld (iget h a 1) i (WP 152 G S f) 53 ls st h k n) := by rw [wp_s dd_152_52 rfl hs]; rfl
theorem dd_152_53 : decode (mB 152) 53 = .ok (.iastore, 1) := by decide +kernel
theorem u_152_53 {G : aG} {S : Nat → Bool} {f : Nat} {st : List Value} {ls : aL} {h : aH} {k n : Nat} {i x : Int32} {a : Nat} (hs : S 53 = false) : WP 152 G S (f + 1) 53 ls (.int x :: .int i :: .ref a :: st) h k n = (oIst (iget h a 1) a i x (WP 152 G S f) 54 ls st h k n) := by rw [wp_s dd_152_53 rfl hs]; rfl
theorem dd_152_54 : decode (mB 152) 54 = .ok (.iinc 1 1, 3) := by decide +kernel
theorem u_152_54 {G : aG} {S : Nat → Bool} {f : Nat} {st : List Value} {ls : aL} {h : aH} {k n : Nat} (hs : S 54 = false) : WP 152 G S (f + 1) 54 ls st h k n = (oInc (lget ls 1) (nI 1) (WP 152 G S f) 1 57 ls st h k n) := by rw [wp_s dd_152_54 rfl hs]; rfl
theorem dd_152_57 : decode (mB 152) 57 = .ok (.goto (-31), 3) := by decide +kernel
theorem u_152_57 {G : aG} {S : Nat → Bool} {f : Nat} {st : List Value} {ls : aL} {h : aH} {k n : Nat} (hs : S 57 = false) : WP 152 G S (f + 1) 57 ls st h k n = (WP 152 G S f 26 ls st h k n) := by rw [wp_s dd_152_57 rfl hs]; rfl
theorem dd_152_60 : decode (mB 152) 60 = .ok (.aload_n 0, 1) := by decide +kernel
theorem u_152_60 {G : aG} {S : Nat → Bool} {f : Nat} {st : List Value} {ls : aL} {h : aH} {k n : Nat} (hs : S 60 = false) : WP 152 G S (f + 1) 60 ls st h k n = (oA (lget ls 0) (WP 152 G S f) 61 ls st h k n) := by rw [wp_s dd_152_60 rfl hs]; rfl
theorem dd_152_61 : decode (mB 152) 61 = .ok (.getfield 77, 3) := by decide +kernel
theorem u_152_61 {G : aG} {S : Nat → Bool} {f : Nat} {st : List Value} {ls : aL} {h : aH} {k n : Nat} {a : Nat} (hs : S 61 = false) : WP 152 G S (f + 1) 61 ls (.ref a :: st) h k n = (oV (fget h a 10 2) (WP 152 G S f) 64 ls st h k n) := by rw [wp_s dd_152_61 rfl hs]; rfl
theorem dd_152_64 : decode (mB 152) 64 = .ok (.ireturn, 1) := by decide +kernel
theorem u_152_64 {G : aG} {S : Nat → Bool} {f : Nat} {ls : aL} {h : aH} {k n : Nat} {x : Int32} (hs : S 64 = false) : WP 152 G S (f + 1) 64 ls [.int x] h k n = (RET G (some (.int x)) h k n) := by rw [wp_s dd_152_64 rfl hs]; rfl
theorem dd_153_0 : decode (mB 153) 0 = .ok (.iload_n 1, 1) := by decide +kernel
theorem u_153_0 {G : aG} {S : Nat → Bool} {f : Nat} {st : List Value} {ls : aL} {h : aH} {k n : Nat} (hs : S 0 = false) : WP 153 G S (f + 1) 0 ls st h k n = (oI (lget ls 1) (WP 153 G S f) 1 ls st h k n) := by rw [wp_s dd_153_0 rfl hs]; rfl
theorem dd_153_1 : decode (mB 153) 1 = .ok (.i2l, 1) := by decide +kernel
theorem u_153_1 {G : aG} {S : Nat → Bool} {f : Nat} {st : List Value} {ls : aL} {h : aH} {k n : Nat} {x : Int32} (hs : S 1 = false) : WP 153 G S (f + 1) 1 ls (.int x :: st) h k n = (WP 153 G S f 2 ls (.long x.toInt64 :: st) h k n) := by rw [wp_s dd_153_1 rfl hs]; rfl
theorem dd_153_2 : decode (mB 153) 2 = .ok (.lconst 0, 1) := by decide +kernel
theorem u_153_2 {G : aG} {S : Nat → Bool} {f : Nat} {st : List Value} {ls : aL} {h : aH} {k n : Nat} (hs : S 2 = false) : WP 153 G S (f + 1) 2 ls st h k n = (WP 153 G S f 3 ls (.long (lN 0) :: st) h k n) := by rw [wp_s dd_153_2 rfl hs]; rfl
theorem dd_153_3 : decode (mB 153) 3 = .ok (.ldc2_w 258, 3) := by decide +kernel
theorem u_153_3 {G : aG} {S : Nat → Bool} {f : Nat} {st : List Value} {ls : aL} {h : aH} {k n : Nat} (hs : S 3 = false) : WP 153 G S (f + 1) 3 ls st h k n = (WP 153 G S f 6 ls (.long (lN 4) :: st) h k n) := by rw [wp_s dd_153_3 rfl hs]; rfl
theorem dd_153_6 : decode (mB 153) 6 = .ok (.invokestatic 109, 3) := by decide +kernel
theorem u_153_6 {G : aG} {S : Nat → Bool} {f : Nat} {st : List Value} {ls : aL} {h : aH} {k n : Nat} {v1 v2 v3 : Value} (hs : S 6 = false) : WP 153 G S (f + 1) 6 ls (v3 :: v2 :: v1 :: st) h k n = (CAL G (WP 153 G S f) 104 [v1, v2, v3] 9 ls st h k n) := by rw [wp_s dd_153_6 rfl hs]; rfl
theorem dd_153_9 : decode (mB 153) 9 = .ok (.ifCond .eq 11, 3) := by decide +kernel
theorem u_153_9 {G : aG} {S : Nat → Bool} {f : Nat} {st : List Value} {ls : aL} {h : aH} {k n : Nat} {x : Int32} (hs : S 9 = false) : WP 153 G S (f + 1) 9 ls (.int x :: st) h k n = (if x = nI 0 then WP 153 G S f 20 ls st h k n else WP 153 G S f 12 ls st h k n) := by rw [wp_s dd_153_9 rfl hs]; exact br_ite (c := x = nI 0)
theorem dd_153_12 : decode (mB 153) 12 = .ok (.aload_n 0, 1) := by decide +kernel
theorem u_153_12 {G : aG} {S : Nat → Bool} {f : Nat} {st : List Value} {ls : aL} {h : aH} {k n : Nat} (hs : S 12 = false) : WP 153 G S (f + 1) 12 ls st h k n = (oA (lget ls 0) (WP 153 G S f) 13 ls st h k n) := by rw [wp_s dd_153_12 rfl hs]; rfl
theorem dd_153_13 : decode (mB 153) 13 = .ok (.iload_n 1, 1) := by decide +kernel
theorem u_153_13 {G : aG} {S : Nat → Bool} {f : Nat} {st : List Value} {ls : aL} {h : aH} {k n : Nat} (hs : S 13 = false) : WP 153 G S (f + 1) 13 ls st h k n = (oI (lget ls 1) (WP 153 G S f) 14 ls st h k n) := by rw [wp_s dd_153_13 rfl hs]; rfl
theorem dd_153_14 : decode (mB 153) 14 = .ok (.invokevirtual 260, 3) := by decide +kernel
theorem u_153_14 {G : aG} {S : Nat → Bool} {f : Nat} {st : List Value} {ls : aL} {h : aH} {k n : Nat} {v1 : Value} {b : Nat} (hs : S 14 = false) : WP 153 G S (f + 1) 14 ls (v1 :: .ref b :: st) h k n = (rcv (hget h b) 10 ∧ CAL G (WP 153 G S f) 154 [.ref b, v1] 17 ls st h k n) := by rw [wp_s dd_153_14 rfl hs]; rfl
theorem dd_153_17 : decode (mB 153) 17 = .ok (.goto 9, 3) := by decide +kernel
theorem u_153_17 {G : aG} {S : Nat → Bool} {f : Nat} {st : List Value} {ls : aL} {h : aH} {k n : Nat} (hs : S 17 = false) : WP 153 G S (f + 1) 17 ls st h k n = (WP 153 G S f 26 ls st h k n) := by rw [wp_s dd_153_17 rfl hs]; rfl
theorem dd_153_20 : decode (mB 153) 20 = .ok (.aload_n 0, 1) := by decide +kernel
theorem u_153_20 {G : aG} {S : Nat → Bool} {f : Nat} {st : List Value} {ls : aL} {h : aH} {k n : Nat} (hs : S 20 = false) : WP 153 G S (f + 1) 20 ls st h k n = (oA (lget ls 0) (WP 153 G S f) 21 ls st h k n) := by rw [wp_s dd_153_20 rfl hs]; rfl
theorem dd_153_21 : decode (mB 153) 21 = .ok (.bipush (-2), 2) := by decide +kernel
theorem u_153_21 {G : aG} {S : Nat → Bool} {f : Nat} {st : List Value} {ls : aL} {h : aH} {k n : Nat} (hs : S 21 = false) : WP 153 G S (f + 1) 21 ls st h k n = (WP 153 G S f 23 ls (.int (-2) :: st) h k n) := by rw [wp_s dd_153_21 rfl hs]; rfl
theorem dd_153_23 : decode (mB 153) 23 = .ok (.invokevirtual 113, 3) := by decide +kernel
theorem u_153_23 {G : aG} {S : Nat → Bool} {f : Nat} {st : List Value} {ls : aL} {h : aH} {k n : Nat} {v1 : Value} {b : Nat} (hs : S 23 = false) : WP 153 G S (f + 1) 23 ls (v1 :: .ref b :: st) h k n = (rcv (hget h b) 10 ∧ CAL G (WP 153 G S f) 105 [.ref b, v1] 26 ls st h k n) := by rw [wp_s dd_153_23 rfl hs]; rfl
theorem dd_153_26 : decode (mB 153) 26 = .ok (.ireturn, 1) := by decide +kernel
theorem u_153_26 {G : aG} {S : Nat → Bool} {f : Nat} {ls : aL} {h : aH} {k n : Nat} {x : Int32} (hs : S 26 = false) : WP 153 G S (f + 1) 26 ls [.int x] h k n = (RET G (some (.int x)) h k n) := by rw [wp_s dd_153_26 rfl hs]; rfl
theorem dd_154_0 : decode (mB 154) 0 = .ok (.iload_n 1, 1) := by decide +kernel
theorem u_154_0 {G : aG} {S : Nat → Bool} {f : Nat} {st : List Value} {ls : aL} {h : aH} {k n : Nat} (hs : S 0 = false) : WP 154 G S (f + 1) 0 ls st h k n = (oI (lget ls 1) (WP 154 G S f) 1 ls st h k n) := by rw [wp_s dd_154_0 rfl hs]; rfl
theorem dd_154_1 : decode (mB 154) 1 = .ok (.iconst 3, 1) := by decide +kernel
theorem u_154_1 {G : aG} {S : Nat → Bool} {f : Nat} {st : List Value} {ls : aL} {h : aH} {k n : Nat} (hs : S 1 = false) : WP 154 G S (f + 1) 1 ls st h k n = (WP 154 G S f 2 ls (.int (nI 3) :: st) h k n) := by rw [wp_s dd_154_1 rfl hs]; rfl
theorem dd_154_2 : decode (mB 154) 2 = .ok (.if_icmp .ge 12, 3) := by decide +kernel
theorem u_154_2 {G : aG} {S : Nat → Bool} {f : Nat} {st : List Value} {ls : aL} {h : aH} {k n : Nat} {x y : Int32} (hs : S 2 = false) : WP 154 G S (f + 1) 2 ls (.int y :: .int x :: st) h k n = (if y ≤ x then WP 154 G S f 14 ls st h k n else WP 154 G S f 5 ls st h k n) := by rw [wp_s dd_154_2 rfl hs]; exact br_ite (c := y ≤ x)
theorem dd_154_5 : decode (mB 154) 5 = .ok (.aload_n 0, 1) := by decide +kernel
theorem u_154_5 {G : aG} {S : Nat → Bool} {f : Nat} {st : List Value} {ls : aL} {h : aH} {k n : Nat} (hs : S 5 = false) : WP 154 G S (f + 1) 5 ls st h k n = (oA (lget ls 0) (WP 154 G S f) 6 ls st h k n) := by rw [wp_s dd_154_5 rfl hs]; rfl
theorem dd_154_6 : decode (mB 154) 6 = .ok (.getfield 16, 3) := by decide +kernel
theorem u_154_6 {G : aG} {S : Nat → Bool} {f : Nat} {st : List Value} {ls : aL} {h : aH} {k n : Nat} {a : Nat} (hs : S 6 = false) : WP 154 G S (f + 1) 6 ls (.ref a :: st) h k n = (oV (fget h a 10 3) (WP 154 G S f) 9 ls st h k n) := by rw [wp_s dd_154_6 rfl hs]; rfl
theorem dd_154_9 : decode (mB 154) 9 = .ok (.iload_n 1, 1) := by decide +kernel
theorem u_154_9 {G : aG} {S : Nat → Bool} {f : Nat} {st : List Value} {ls : aL} {h : aH} {k n : Nat} (hs : S 9 = false) : WP 154 G S (f + 1) 9 ls st h k n = (oI (lget ls 1) (WP 154 G S f) 10 ls st h k n) := by rw [wp_s dd_154_9 rfl hs]; rfl
theorem dd_154_10 : decode (mB 154) 10 = .ok (.iaload, 1) := by decide +kernel
theorem u_154_10 {G : aG} {S : Nat → Bool} {f : Nat} {st : List Value} {ls : aL} {h : aH} {k n : Nat} {i : Int32} {a : Nat} (hs : S 10 = false) : WP 154 G S (f + 1) 10 ls (.int i :: .ref a :: st) h k n = (oIld (iget h a 1) i (WP 154 G S f) 11 ls st h k n) := by rw [wp_s dd_154_10 rfl hs]; rfl
theorem dd_154_11 : decode (mB 154) 11 = .ok (.goto 19, 3) := by decide +kernel
theorem u_154_11 {G : aG} {S : Nat → Bool} {f : Nat} {st : List Value} {ls : aL} {h : aH} {k n : Nat} (hs : S 11 = false) : WP 154 G S (f + 1) 11 ls st h k n = (WP 154 G S f 30 ls st h k n) := by rw [wp_s dd_154_11 rfl hs]; rfl
theorem dd_154_14 : decode (mB 154) 14 = .ok (.iload_n 1, 1) := by decide +kernel
theorem u_154_14 {G : aG} {S : Nat → Bool} {f : Nat} {st : List Value} {ls : aL} {h : aH} {k n : Nat} (hs : S 14 = false) : WP 154 G S (f + 1) 14 ls st h k n = (oI (lget ls 1) (WP 154 G S f) 15 ls st h k n) := by rw [wp_s dd_154_14 rfl hs]; rfl
theorem dd_154_15 : decode (mB 154) 15 = .ok (.iconst 3, 1) := by decide +kernel
theorem u_154_15 {G : aG} {S : Nat → Bool} {f : Nat} {st : List Value} {ls : aL} {h : aH} {k n : Nat} (hs : S 15 = false) : WP 154 G S (f + 1) 15 ls st h k n = (WP 154 G S f 16 ls (.int (nI 3) :: st) h k n) := by rw [wp_s dd_154_15 rfl hs]; rfl
theorem dd_154_16 : decode (mB 154) 16 = .ok (.if_icmp .ne 10, 3) := by decide +kernel
theorem u_154_16 {G : aG} {S : Nat → Bool} {f : Nat} {st : List Value} {ls : aL} {h : aH} {k n : Nat} {x y : Int32} (hs : S 16 = false) : WP 154 G S (f + 1) 16 ls (.int y :: .int x :: st) h k n = (if x = y then WP 154 G S f 19 ls st h k n else WP 154 G S f 26 ls st h k n) := by rw [wp_s dd_154_16 rfl hs]; exact br_iten (c := x = y)
theorem dd_154_19 : decode (mB 154) 19 = .ok (.aload_n 0, 1) := by decide +kernel
theorem u_154_19 {G : aG} {S : Nat → Bool} {f : Nat} {st : List Value} {ls : aL} {h : aH} {k n : Nat} (hs : S 19 = false) : WP 154 G S (f + 1) 19 ls st h k n = (oA (lget ls 0) (WP 154 G S f) 20 ls st h k n) := by rw [wp_s dd_154_19 rfl hs]; rfl
theorem dd_154_20 : decode (mB 154) 20 = .ok (.getfield 117, 3) := by decide +kernel
theorem u_154_20 {G : aG} {S : Nat → Bool} {f : Nat} {st : List Value} {ls : aL} {h : aH} {k n : Nat} {a : Nat} (hs : S 20 = false) : WP 154 G S (f + 1) 20 ls (.ref a :: st) h k n = (oV (fget h a 10 16) (WP 154 G S f) 23 ls st h k n) := by rw [wp_s dd_154_20 rfl hs]; rfl
theorem dd_154_23 : decode (mB 154) 23 = .ok (.goto 7, 3) := by decide +kernel
theorem u_154_23 {G : aG} {S : Nat → Bool} {f : Nat} {st : List Value} {ls : aL} {h : aH} {k n : Nat} (hs : S 23 = false) : WP 154 G S (f + 1) 23 ls st h k n = (WP 154 G S f 30 ls st h k n) := by rw [wp_s dd_154_23 rfl hs]; rfl
theorem dd_154_26 : decode (mB 154) 26 = .ok (.aload_n 0, 1) := by decide +kernel
theorem u_154_26 {G : aG} {S : Nat → Bool} {f : Nat} {st : List Value} {ls : aL} {h : aH} {k n : Nat} (hs : S 26 = false) : WP 154 G S (f + 1) 26 ls st h k n = (oA (lget ls 0) (WP 154 G S f) 27 ls st h k n) := by rw [wp_s dd_154_26 rfl hs]; rfl
theorem dd_154_27 : decode (mB 154) 27 = .ok (.getfield 77, 3) := by decide +kernel
theorem u_154_27 {G : aG} {S : Nat → Bool} {f : Nat} {st : List Value} {ls : aL} {h : aH} {k n : Nat} {a : Nat} (hs : S 27 = false) : WP 154 G S (f + 1) 27 ls (.ref a :: st) h k n = (oV (fget h a 10 2) (WP 154 G S f) 30 ls st h k n) := by rw [wp_s dd_154_27 rfl hs]; rfl
theorem dd_154_30 : decode (mB 154) 30 = .ok (.ireturn, 1) := by decide +kernel
theorem u_154_30 {G : aG} {S : Nat → Bool} {f : Nat} {ls : aL} {h : aH} {k n : Nat} {x : Int32} (hs : S 30 = false) : WP 154 G S (f + 1) 30 ls [.int x] h k n = (RET G (some (.int x)) h k n) := by rw [wp_s dd_154_30 rfl hs]; rfl
theorem dd_155_0 : decode (mB 155) 0 = .ok (.ldc2_w 263, 3) := by decide +kernel
theorem u_155_0 {G : aG} {S : Nat → Bool} {f : Nat} {st : List Value} {ls : aL} {h : aH} {k n : Nat} (hs : S 0 = false) : WP 155 G S (f + 1) 0 ls st h k n = (WP 155 G S f 3 ls (.long (lN 2521) :: st) h k n) := by rw [wp_s dd_155_0 rfl hs]; rfl
theorem dd_155_3 : decode (mB 155) 3 = .ok (.lstore_n 1, 1) := by decide +kernel
theorem u_155_3 {G : aG} {S : Nat → Bool} {f : Nat} {st : List Value} {ls : aL} {h : aH} {k n : Nat} {x : Int64} (hs : S 3 = false) : WP 155 G S (f + 1) 3 ls (.long x :: st) h k n = (WP 155 G S f 4 (lput2 ls 1 (.long x)) st h k n) := by rw [wp_s dd_155_3 rfl hs]; rfl
theorem dd_155_4 : decode (mB 155) 4 = .ok (.iconst 0, 1) := by decide +kernel
theorem u_155_4 {G : aG} {S : Nat → Bool} {f : Nat} {st : List Value} {ls : aL} {h : aH} {k n : Nat} (hs : S 4 = false) : WP 155 G S (f + 1) 4 ls st h k n = (WP 155 G S f 5 ls (.int (nI 0) :: st) h k n) := by rw [wp_s dd_155_4 rfl hs]; rfl
theorem dd_155_5 : decode (mB 155) 5 = .ok (.istore_n 3, 1) := by decide +kernel
theorem u_155_5 {G : aG} {S : Nat → Bool} {f : Nat} {st : List Value} {ls : aL} {h : aH} {k n : Nat} {x : Int32} (hs : S 5 = false) : WP 155 G S (f + 1) 5 ls (.int x :: st) h k n = (WP 155 G S f 6 (lput1 ls 3 (.int x)) st h k n) := by rw [wp_s dd_155_5 rfl hs]; rfl
theorem dd_155_6 : decode (mB 155) 6 = .ok (.iload_n 3, 1) := by decide +kernel
theorem u_155_6 {G : aG} {S : Nat → Bool} {f : Nat} {st : List Value} {ls : aL} {h : aH} {k n : Nat} (hs : S 6 = false) : WP 155 G S (f + 1) 6 ls st h k n = (oI (lget ls 3) (WP 155 G S f) 7 ls st h k n) := by rw [wp_s dd_155_6 rfl hs]; rfl
theorem v_155_6 {G : aG} {S : Nat → Bool} {f : Nat} {st : List Value} {ls : aL} {h : aH} {k n : Nat} : WQ 155 G S f 6 ls st h k n = (oI (lget ls 3) (WP 155 G S f) 7 ls st h k n) := by rw [wq_s dd_155_6 rfl]; rfl
theorem dd_155_7 : decode (mB 155) 7 = .ok (.iconst 5, 1) := by decide +kernel
theorem u_155_7 {G : aG} {S : Nat → Bool} {f : Nat} {st : List Value} {ls : aL} {h : aH} {k n : Nat} (hs : S 7 = false) : WP 155 G S (f + 1) 7 ls st h k n = (WP 155 G S f 8 ls (.int (nI 5) :: st) h k n) := by rw [wp_s dd_155_7 rfl hs]; rfl
theorem dd_155_8 : decode (mB 155) 8 = .ok (.if_icmp .ge 22, 3) := by decide +kernel
theorem u_155_8 {G : aG} {S : Nat → Bool} {f : Nat} {st : List Value} {ls : aL} {h : aH} {k n : Nat} {x y : Int32} (hs : S 8 = false) : WP 155 G S (f + 1) 8 ls (.int y :: .int x :: st) h k n = (if y ≤ x then WP 155 G S f 30 ls st h k n else WP 155 G S f 11 ls st h k n) := by rw [wp_s dd_155_8 rfl hs]; exact br_ite (c := y ≤ x)
theorem dd_155_11 : decode (mB 155) 11 = .ok (.ldc2_w 265, 3) := by decide +kernel
theorem u_155_11 {G : aG} {S : Nat → Bool} {f : Nat} {st : List Value} {ls : aL} {h : aH} {k n : Nat} (hs : S 11 = false) : WP 155 G S (f + 1) 11 ls st h k n = (WP 155 G S f 14 ls (.long (lN 31) :: st) h k n) := by rw [wp_s dd_155_11 rfl hs]; rfl
theorem dd_155_14 : decode (mB 155) 14 = .ok (.lload_n 1, 1) := by decide +kernel
theorem u_155_14 {G : aG} {S : Nat → Bool} {f : Nat} {st : List Value} {ls : aL} {h : aH} {k n : Nat} (hs : S 14 = false) : WP 155 G S (f + 1) 14 ls st h k n = (oJ (lget ls 1) (WP 155 G S f) 15 ls st h k n) := by rw [wp_s dd_155_14 rfl hs]; rfl
theorem dd_155_15 : decode (mB 155) 15 = .ok (.lmul, 1) := by decide +kernel
theorem u_155_15 {G : aG} {S : Nat → Bool} {f : Nat} {st : List Value} {ls : aL} {h : aH} {k n : Nat} {x y : Int64} (hs : S 15 = false) : WP 155 G S (f + 1) 15 ls (.long y :: .long x :: st) h k n = (WP 155 G S f 16 ls (.long (x * y) :: st) h k n) := by rw [wp_s dd_155_15 rfl hs]; rfl
theorem dd_155_16 : decode (mB 155) 16 = .ok (.aload_n 0, 1) := by decide +kernel
theorem u_155_16 {G : aG} {S : Nat → Bool} {f : Nat} {st : List Value} {ls : aL} {h : aH} {k n : Nat} (hs : S 16 = false) : WP 155 G S (f + 1) 16 ls st h k n = (oA (lget ls 0) (WP 155 G S f) 17 ls st h k n) := by rw [wp_s dd_155_16 rfl hs]; rfl
theorem dd_155_17 : decode (mB 155) 17 = .ok (.iload_n 3, 1) := by decide +kernel
theorem u_155_17 {G : aG} {S : Nat → Bool} {f : Nat} {st : List Value} {ls : aL} {h : aH} {k n : Nat} (hs : S 17 = false) : WP 155 G S (f + 1) 17 ls st h k n = (oI (lget ls 3) (WP 155 G S f) 18 ls st h k n) := by rw [wp_s dd_155_17 rfl hs]; rfl
theorem dd_155_18 : decode (mB 155) 18 = .ok (.invokevirtual 260, 3) := by decide +kernel
theorem u_155_18 {G : aG} {S : Nat → Bool} {f : Nat} {st : List Value} {ls : aL} {h : aH} {k n : Nat} {v1 : Value} {b : Nat} (hs : S 18 = false) : WP 155 G S (f + 1) 18 ls (v1 :: .ref b :: st) h k n = (rcv (hget h b) 10 ∧ CAL G (WP 155 G S f) 154 [.ref b, v1] 21 ls st h k n) := by rw [wp_s dd_155_18 rfl hs]; rfl
theorem dd_155_21 : decode (mB 155) 21 = .ok (.i2l, 1) := by decide +kernel
theorem u_155_21 {G : aG} {S : Nat → Bool} {f : Nat} {st : List Value} {ls : aL} {h : aH} {k n : Nat} {x : Int32} (hs : S 21 = false) : WP 155 G S (f + 1) 21 ls (.int x :: st) h k n = (WP 155 G S f 22 ls (.long x.toInt64 :: st) h k n) := by rw [wp_s dd_155_21 rfl hs]; rfl
theorem dd_155_22 : decode (mB 155) 22 = .ok (.ladd, 1) := by decide +kernel
theorem u_155_22 {G : aG} {S : Nat → Bool} {f : Nat} {st : List Value} {ls : aL} {h : aH} {k n : Nat} {x y : Int64} (hs : S 22 = false) : WP 155 G S (f + 1) 22 ls (.long y :: .long x :: st) h k n = (WP 155 G S f 23 ls (.long (x + y) :: st) h k n) := by rw [wp_s dd_155_22 rfl hs]; rfl
theorem dd_155_23 : decode (mB 155) 23 = .ok (.lstore_n 1, 1) := by decide +kernel
theorem u_155_23 {G : aG} {S : Nat → Bool} {f : Nat} {st : List Value} {ls : aL} {h : aH} {k n : Nat} {x : Int64} (hs : S 23 = false) : WP 155 G S (f + 1) 23 ls (.long x :: st) h k n = (WP 155 G S f 24 (lput2 ls 1 (.long x)) st h k n) := by rw [wp_s dd_155_23 rfl hs]; rfl
theorem dd_155_24 : decode (mB 155) 24 = .ok (.iinc 3 1, 3) := by decide +kernel
theorem u_155_24 {G : aG} {S : Nat → Bool} {f : Nat} {st : List Value} {ls : aL} {h : aH} {k n : Nat} (hs : S 24 = false) : WP 155 G S (f + 1) 24 ls st h k n = (oInc (lget ls 3) (nI 1) (WP 155 G S f) 3 27 ls st h k n) := by rw [wp_s dd_155_24 rfl hs]; rfl
theorem dd_155_27 : decode (mB 155) 27 = .ok (.goto (-21), 3) := by decide +kernel
theorem u_155_27 {G : aG} {S : Nat → Bool} {f : Nat} {st : List Value} {ls : aL} {h : aH} {k n : Nat} (hs : S 27 = false) : WP 155 G S (f + 1) 27 ls st h k n = (WP 155 G S f 6 ls st h k n) := by rw [wp_s dd_155_27 rfl hs]; rfl
theorem dd_155_30 : decode (mB 155) 30 = .ok (.iconst 0, 1) := by decide +kernel
theorem u_155_30 {G : aG} {S : Nat → Bool} {f : Nat} {st : List Value} {ls : aL} {h : aH} {k n : Nat} (hs : S 30 = false) : WP 155 G S (f + 1) 30 ls st h k n = (WP 155 G S f 31 ls (.int (nI 0) :: st) h k n) := by rw [wp_s dd_155_30 rfl hs]; rfl
theorem dd_155_31 : decode (mB 155) 31 = .ok (.istore_n 3, 1) := by decide +kernel
theorem u_155_31 {G : aG} {S : Nat → Bool} {f : Nat} {st : List Value} {ls : aL} {h : aH} {k n : Nat} {x : Int32} (hs : S 31 = false) : WP 155 G S (f + 1) 31 ls (.int x :: st) h k n = (WP 155 G S f 32 (lput1 ls 3 (.int x)) st h k n) := by rw [wp_s dd_155_31 rfl hs]; rfl
theorem dd_155_32 : decode (mB 155) 32 = .ok (.iload_n 3, 1) := by decide +kernel
theorem u_155_32 {G : aG} {S : Nat → Bool} {f : Nat} {st : List Value} {ls : aL} {h : aH} {k n : Nat} (hs : S 32 = false) : WP 155 G S (f + 1) 32 ls st h k n = (oI (lget ls 3) (WP 155 G S f) 33 ls st h k n) := by rw [wp_s dd_155_32 rfl hs]; rfl
theorem v_155_32 {G : aG} {S : Nat → Bool} {f : Nat} {st : List Value} {ls : aL} {h : aH} {k n : Nat} : WQ 155 G S f 32 ls st h k n = (oI (lget ls 3) (WP 155 G S f) 33 ls st h k n) := by rw [wq_s dd_155_32 rfl]; rfl
theorem dd_155_33 : decode (mB 155) 33 = .ok (.bipush 9, 2) := by decide +kernel
theorem u_155_33 {G : aG} {S : Nat → Bool} {f : Nat} {st : List Value} {ls : aL} {h : aH} {k n : Nat} (hs : S 33 = false) : WP 155 G S (f + 1) 33 ls st h k n = (WP 155 G S f 35 ls (.int (nI 9) :: st) h k n) := by rw [wp_s dd_155_33 rfl hs]; rfl
theorem dd_155_35 : decode (mB 155) 35 = .ok (.if_icmp .ge 69, 3) := by decide +kernel
theorem u_155_35 {G : aG} {S : Nat → Bool} {f : Nat} {st : List Value} {ls : aL} {h : aH} {k n : Nat} {x y : Int32} (hs : S 35 = false) : WP 155 G S (f + 1) 35 ls (.int y :: .int x :: st) h k n = (if y ≤ x then WP 155 G S f 104 ls st h k n else WP 155 G S f 38 ls st h k n) := by rw [wp_s dd_155_35 rfl hs]; exact br_ite (c := y ≤ x)
theorem dd_155_38 : decode (mB 155) 38 = .ok (.iconst 0, 1) := by decide +kernel
theorem u_155_38 {G : aG} {S : Nat → Bool} {f : Nat} {st : List Value} {ls : aL} {h : aH} {k n : Nat} (hs : S 38 = false) : WP 155 G S (f + 1) 38 ls st h k n = (WP 155 G S f 39 ls (.int (nI 0) :: st) h k n) := by rw [wp_s dd_155_38 rfl hs]; rfl
theorem dd_155_39 : decode (mB 155) 39 = .ok (.istore 4, 2) := by decide +kernel
theorem u_155_39 {G : aG} {S : Nat → Bool} {f : Nat} {st : List Value} {ls : aL} {h : aH} {k n : Nat} {x : Int32} (hs : S 39 = false) : WP 155 G S (f + 1) 39 ls (.int x :: st) h k n = (WP 155 G S f 41 (lput1 ls 4 (.int x)) st h k n) := by rw [wp_s dd_155_39 rfl hs]; rfl
theorem dd_155_41 : decode (mB 155) 41 = .ok (.iload 4, 2) := by decide +kernel
theorem u_155_41 {G : aG} {S : Nat → Bool} {f : Nat} {st : List Value} {ls : aL} {h : aH} {k n : Nat} (hs : S 41 = false) : WP 155 G S (f + 1) 41 ls st h k n = (oI (lget ls 4) (WP 155 G S f) 43 ls st h k n) := by rw [wp_s dd_155_41 rfl hs]; rfl
theorem v_155_41 {G : aG} {S : Nat → Bool} {f : Nat} {st : List Value} {ls : aL} {h : aH} {k n : Nat} : WQ 155 G S f 41 ls st h k n = (oI (lget ls 4) (WP 155 G S f) 43 ls st h k n) := by rw [wq_s dd_155_41 rfl]; rfl
theorem dd_155_43 : decode (mB 155) 43 = .ok (.iconst 4, 1) := by decide +kernel
theorem u_155_43 {G : aG} {S : Nat → Bool} {f : Nat} {st : List Value} {ls : aL} {h : aH} {k n : Nat} (hs : S 43 = false) : WP 155 G S (f + 1) 43 ls st h k n = (WP 155 G S f 44 ls (.int (nI 4) :: st) h k n) := by rw [wp_s dd_155_43 rfl hs]; rfl
theorem dd_155_44 : decode (mB 155) 44 = .ok (.if_icmp .ge 24, 3) := by decide +kernel
theorem u_155_44 {G : aG} {S : Nat → Bool} {f : Nat} {st : List Value} {ls : aL} {h : aH} {k n : Nat} {x y : Int32} (hs : S 44 = false) : WP 155 G S (f + 1) 44 ls (.int y :: .int x :: st) h k n = (if y ≤ x then WP 155 G S f 68 ls st h k n else WP 155 G S f 47 ls st h k n) := by rw [wp_s dd_155_44 rfl hs]; exact br_ite (c := y ≤ x)
theorem dd_155_47 : decode (mB 155) 47 = .ok (.ldc2_w 265, 3) := by decide +kernel
theorem u_155_47 {G : aG} {S : Nat → Bool} {f : Nat} {st : List Value} {ls : aL} {h : aH} {k n : Nat} (hs : S 47 = false) : WP 155 G S (f + 1) 47 ls st h k n = (WP 155 G S f 50 ls (.long (lN 31) :: st) h k n) := by rw [wp_s dd_155_47 rfl hs]; rfl
theorem dd_155_50 : decode (mB 155) 50 = .ok (.lload_n 1, 1) := by decide +kernel
theorem u_155_50 {G : aG} {S : Nat → Bool} {f : Nat} {st : List Value} {ls : aL} {h : aH} {k n : Nat} (hs : S 50 = false) : WP 155 G S (f + 1) 50 ls st h k n = (oJ (lget ls 1) (WP 155 G S f) 51 ls st h k n) := by rw [wp_s dd_155_50 rfl hs]; rfl
theorem dd_155_51 : decode (mB 155) 51 = .ok (.lmul, 1) := by decide +kernel
theorem u_155_51 {G : aG} {S : Nat → Bool} {f : Nat} {st : List Value} {ls : aL} {h : aH} {k n : Nat} {x y : Int64} (hs : S 51 = false) : WP 155 G S (f + 1) 51 ls (.long y :: .long x :: st) h k n = (WP 155 G S f 52 ls (.long (x * y) :: st) h k n) := by rw [wp_s dd_155_51 rfl hs]; rfl
theorem dd_155_52 : decode (mB 155) 52 = .ok (.aload_n 0, 1) := by decide +kernel
theorem u_155_52 {G : aG} {S : Nat → Bool} {f : Nat} {st : List Value} {ls : aL} {h : aH} {k n : Nat} (hs : S 52 = false) : WP 155 G S (f + 1) 52 ls st h k n = (oA (lget ls 0) (WP 155 G S f) 53 ls st h k n) := by rw [wp_s dd_155_52 rfl hs]; rfl
theorem dd_155_53 : decode (mB 155) 53 = .ok (.iload_n 3, 1) := by decide +kernel
theorem u_155_53 {G : aG} {S : Nat → Bool} {f : Nat} {st : List Value} {ls : aL} {h : aH} {k n : Nat} (hs : S 53 = false) : WP 155 G S (f + 1) 53 ls st h k n = (oI (lget ls 3) (WP 155 G S f) 54 ls st h k n) := by rw [wp_s dd_155_53 rfl hs]; rfl
theorem dd_155_54 : decode (mB 155) 54 = .ok (.iload 4, 2) := by decide +kernel
theorem u_155_54 {G : aG} {S : Nat → Bool} {f : Nat} {st : List Value} {ls : aL} {h : aH} {k n : Nat} (hs : S 54 = false) : WP 155 G S (f + 1) 54 ls st h k n = (oI (lget ls 4) (WP 155 G S f) 56 ls st h k n) := by rw [wp_s dd_155_54 rfl hs]; rfl
theorem dd_155_56 : decode (mB 155) 56 = .ok (.invokevirtual 194, 3) := by decide +kernel
theorem u_155_56 {G : aG} {S : Nat → Bool} {f : Nat} {st : List Value} {ls : aL} {h : aH} {k n : Nat} {v1 v2 : Value} {b : Nat} (hs : S 56 = false) : WP 155 G S (f + 1) 56 ls (v2 :: v1 :: .ref b :: st) h k n = (rcv (hget h b) 10 ∧ CAL G (WP 155 G S f) 122 [.ref b, v1, v2] 59 ls st h k n) := by rw [wp_s dd_155_56 rfl hs]; rfl
theorem dd_155_59 : decode (mB 155) 59 = .ok (.i2l, 1) := by decide +kernel
theorem u_155_59 {G : aG} {S : Nat → Bool} {f : Nat} {st : List Value} {ls : aL} {h : aH} {k n : Nat} {x : Int32} (hs : S 59 = false) : WP 155 G S (f + 1) 59 ls (.int x :: st) h k n = (WP 155 G S f 60 ls (.long x.toInt64 :: st) h k n) := by rw [wp_s dd_155_59 rfl hs]; rfl
theorem dd_155_60 : decode (mB 155) 60 = .ok (.ladd, 1) := by decide +kernel
theorem u_155_60 {G : aG} {S : Nat → Bool} {f : Nat} {st : List Value} {ls : aL} {h : aH} {k n : Nat} {x y : Int64} (hs : S 60 = false) : WP 155 G S (f + 1) 60 ls (.long y :: .long x :: st) h k n = (WP 155 G S f 61 ls (.long (x + y) :: st) h k n) := by rw [wp_s dd_155_60 rfl hs]; rfl
theorem dd_155_61 : decode (mB 155) 61 = .ok (.lstore_n 1, 1) := by decide +kernel
theorem u_155_61 {G : aG} {S : Nat → Bool} {f : Nat} {st : List Value} {ls : aL} {h : aH} {k n : Nat} {x : Int64} (hs : S 61 = false) : WP 155 G S (f + 1) 61 ls (.long x :: st) h k n = (WP 155 G S f 62 (lput2 ls 1 (.long x)) st h k n) := by rw [wp_s dd_155_61 rfl hs]; rfl
theorem dd_155_62 : decode (mB 155) 62 = .ok (.iinc 4 1, 3) := by decide +kernel
theorem u_155_62 {G : aG} {S : Nat → Bool} {f : Nat} {st : List Value} {ls : aL} {h : aH} {k n : Nat} (hs : S 62 = false) : WP 155 G S (f + 1) 62 ls st h k n = (oInc (lget ls 4) (nI 1) (WP 155 G S f) 4 65 ls st h k n) := by rw [wp_s dd_155_62 rfl hs]; rfl
theorem dd_155_65 : decode (mB 155) 65 = .ok (.goto (-24), 3) := by decide +kernel
theorem u_155_65 {G : aG} {S : Nat → Bool} {f : Nat} {st : List Value} {ls : aL} {h : aH} {k n : Nat} (hs : S 65 = false) : WP 155 G S (f + 1) 65 ls st h k n = (WP 155 G S f 41 ls st h k n) := by rw [wp_s dd_155_65 rfl hs]; rfl
theorem dd_155_68 : decode (mB 155) 68 = .ok (.iconst 1, 1) := by decide +kernel
theorem u_155_68 {G : aG} {S : Nat → Bool} {f : Nat} {st : List Value} {ls : aL} {h : aH} {k n : Nat} (hs : S 68 = false) : WP 155 G S (f + 1) 68 ls st h k n = (WP 155 G S f 69 ls (.int (nI 1) :: st) h k n) := by rw [wp_s dd_155_68 rfl hs]; rfl
theorem dd_155_69 : decode (mB 155) 69 = .ok (.istore 4, 2) := by decide +kernel
theorem u_155_69 {G : aG} {S : Nat → Bool} {f : Nat} {st : List Value} {ls : aL} {h : aH} {k n : Nat} {x : Int32} (hs : S 69 = false) : WP 155 G S (f + 1) 69 ls (.int x :: st) h k n = (WP 155 G S f 71 (lput1 ls 4 (.int x)) st h k n) := by rw [wp_s dd_155_69 rfl hs]; rfl
theorem dd_155_71 : decode (mB 155) 71 = .ok (.iload 4, 2) := by decide +kernel
theorem u_155_71 {G : aG} {S : Nat → Bool} {f : Nat} {st : List Value} {ls : aL} {h : aH} {k n : Nat} (hs : S 71 = false) : WP 155 G S (f + 1) 71 ls st h k n = (oI (lget ls 4) (WP 155 G S f) 73 ls st h k n) := by rw [wp_s dd_155_71 rfl hs]; rfl
theorem v_155_71 {G : aG} {S : Nat → Bool} {f : Nat} {st : List Value} {ls : aL} {h : aH} {k n : Nat} : WQ 155 G S f 71 ls st h k n = (oI (lget ls 4) (WP 155 G S f) 73 ls st h k n) := by rw [wq_s dd_155_71 rfl]; rfl
theorem dd_155_73 : decode (mB 155) 73 = .ok (.iconst 5, 1) := by decide +kernel
theorem u_155_73 {G : aG} {S : Nat → Bool} {f : Nat} {st : List Value} {ls : aL} {h : aH} {k n : Nat} (hs : S 73 = false) : WP 155 G S (f + 1) 73 ls st h k n = (WP 155 G S f 74 ls (.int (nI 5) :: st) h k n) := by rw [wp_s dd_155_73 rfl hs]; rfl
theorem dd_155_74 : decode (mB 155) 74 = .ok (.if_icmp .ge 24, 3) := by decide +kernel
theorem u_155_74 {G : aG} {S : Nat → Bool} {f : Nat} {st : List Value} {ls : aL} {h : aH} {k n : Nat} {x y : Int32} (hs : S 74 = false) : WP 155 G S (f + 1) 74 ls (.int y :: .int x :: st) h k n = (if y ≤ x then WP 155 G S f 98 ls st h k n else WP 155 G S f 77 ls st h k n) := by rw [wp_s dd_155_74 rfl hs]; exact br_ite (c := y ≤ x)
theorem dd_155_77 : decode (mB 155) 77 = .ok (.ldc2_w 265, 3) := by decide +kernel
theorem u_155_77 {G : aG} {S : Nat → Bool} {f : Nat} {st : List Value} {ls : aL} {h : aH} {k n : Nat} (hs : S 77 = false) : WP 155 G S (f + 1) 77 ls st h k n = (WP 155 G S f 80 ls (.long (lN 31) :: st) h k n) := by rw [wp_s dd_155_77 rfl hs]; rfl
theorem dd_155_80 : decode (mB 155) 80 = .ok (.lload_n 1, 1) := by decide +kernel
theorem u_155_80 {G : aG} {S : Nat → Bool} {f : Nat} {st : List Value} {ls : aL} {h : aH} {k n : Nat} (hs : S 80 = false) : WP 155 G S (f + 1) 80 ls st h k n = (oJ (lget ls 1) (WP 155 G S f) 81 ls st h k n) := by rw [wp_s dd_155_80 rfl hs]; rfl
theorem dd_155_81 : decode (mB 155) 81 = .ok (.lmul, 1) := by decide +kernel
theorem u_155_81 {G : aG} {S : Nat → Bool} {f : Nat} {st : List Value} {ls : aL} {h : aH} {k n : Nat} {x y : Int64} (hs : S 81 = false) : WP 155 G S (f + 1) 81 ls (.long y :: .long x :: st) h k n = (WP 155 G S f 82 ls (.long (x * y) :: st) h k n) := by rw [wp_s dd_155_81 rfl hs]; rfl
theorem dd_155_82 : decode (mB 155) 82 = .ok (.aload_n 0, 1) := by decide +kernel
theorem u_155_82 {G : aG} {S : Nat → Bool} {f : Nat} {st : List Value} {ls : aL} {h : aH} {k n : Nat} (hs : S 82 = false) : WP 155 G S (f + 1) 82 ls st h k n = (oA (lget ls 0) (WP 155 G S f) 83 ls st h k n) := by rw [wp_s dd_155_82 rfl hs]; rfl
theorem dd_155_83 : decode (mB 155) 83 = .ok (.iload_n 3, 1) := by decide +kernel
theorem u_155_83 {G : aG} {S : Nat → Bool} {f : Nat} {st : List Value} {ls : aL} {h : aH} {k n : Nat} (hs : S 83 = false) : WP 155 G S (f + 1) 83 ls st h k n = (oI (lget ls 3) (WP 155 G S f) 84 ls st h k n) := by rw [wp_s dd_155_83 rfl hs]; rfl
theorem dd_155_84 : decode (mB 155) 84 = .ok (.iload 4, 2) := by decide +kernel
theorem u_155_84 {G : aG} {S : Nat → Bool} {f : Nat} {st : List Value} {ls : aL} {h : aH} {k n : Nat} (hs : S 84 = false) : WP 155 G S (f + 1) 84 ls st h k n = (oI (lget ls 4) (WP 155 G S f) 86 ls st h k n) := by rw [wp_s dd_155_84 rfl hs]; rfl
theorem dd_155_86 : decode (mB 155) 86 = .ok (.invokevirtual 203, 3) := by decide +kernel
theorem u_155_86 {G : aG} {S : Nat → Bool} {f : Nat} {st : List Value} {ls : aL} {h : aH} {k n : Nat} {v1 v2 : Value} {b : Nat} (hs : S 86 = false) : WP 155 G S (f + 1) 86 ls (v2 :: v1 :: .ref b :: st) h k n = (rcv (hget h b) 10 ∧ CAL G (WP 155 G S f) 134 [.ref b, v1, v2] 89 ls st h k n) := by rw [wp_s dd_155_86 rfl hs]; rfl
theorem dd_155_89 : decode (mB 155) 89 = .ok (.i2l, 1) := by decide +kernel
theorem u_155_89 {G : aG} {S : Nat → Bool} {f : Nat} {st : List Value} {ls : aL} {h : aH} {k n : Nat} {x : Int32} (hs : S 89 = false) : WP 155 G S (f + 1) 89 ls (.int x :: st) h k n = (WP 155 G S f 90 ls (.long x.toInt64 :: st) h k n) := by rw [wp_s dd_155_89 rfl hs]; rfl
theorem dd_155_90 : decode (mB 155) 90 = .ok (.ladd, 1) := by decide +kernel
theorem u_155_90 {G : aG} {S : Nat → Bool} {f : Nat} {st : List Value} {ls : aL} {h : aH} {k n : Nat} {x y : Int64} (hs : S 90 = false) : WP 155 G S (f + 1) 90 ls (.long y :: .long x :: st) h k n = (WP 155 G S f 91 ls (.long (x + y) :: st) h k n) := by rw [wp_s dd_155_90 rfl hs]; rfl
theorem dd_155_91 : decode (mB 155) 91 = .ok (.lstore_n 1, 1) := by decide +kernel
theorem u_155_91 {G : aG} {S : Nat → Bool} {f : Nat} {st : List Value} {ls : aL} {h : aH} {k n : Nat} {x : Int64} (hs : S 91 = false) : WP 155 G S (f + 1) 91 ls (.long x :: st) h k n = (WP 155 G S f 92 (lput2 ls 1 (.long x)) st h k n) := by rw [wp_s dd_155_91 rfl hs]; rfl
theorem dd_155_92 : decode (mB 155) 92 = .ok (.iinc 4 1, 3) := by decide +kernel
theorem u_155_92 {G : aG} {S : Nat → Bool} {f : Nat} {st : List Value} {ls : aL} {h : aH} {k n : Nat} (hs : S 92 = false) : WP 155 G S (f + 1) 92 ls st h k n = (oInc (lget ls 4) (nI 1) (WP 155 G S f) 4 95 ls st h k n) := by rw [wp_s dd_155_92 rfl hs]; rfl
theorem dd_155_95 : decode (mB 155) 95 = .ok (.goto (-24), 3) := by decide +kernel
theorem u_155_95 {G : aG} {S : Nat → Bool} {f : Nat} {st : List Value} {ls : aL} {h : aH} {k n : Nat} (hs : S 95 = false) : WP 155 G S (f + 1) 95 ls st h k n = (WP 155 G S f 71 ls st h k n) := by rw [wp_s dd_155_95 rfl hs]; rfl
theorem dd_155_98 : decode (mB 155) 98 = .ok (.iinc 3 1, 3) := by decide +kernel
theorem u_155_98 {G : aG} {S : Nat → Bool} {f : Nat} {st : List Value} {ls : aL} {h : aH} {k n : Nat} (hs : S 98 = false) : WP 155 G S (f + 1) 98 ls st h k n = (oInc (lget ls 3) (nI 1) (WP 155 G S f) 3 101 ls st h k n) := by rw [wp_s dd_155_98 rfl hs]; rfl
theorem dd_155_101 : decode (mB 155) 101 = .ok (.goto (-69), 3) := by decide +kernel
theorem u_155_101 {G : aG} {S : Nat → Bool} {f : Nat} {st : List Value} {ls : aL} {h : aH} {k n : Nat} (hs : S 101 = false) : WP 155 G S (f + 1) 101 ls st h k n = (WP 155 G S f 32 ls st h k n) := by rw [wp_s dd_155_101 rfl hs]; rfl
theorem dd_155_104 : decode (mB 155) 104 = .ok (.iconst 0, 1) := by decide +kernel
theorem u_155_104 {G : aG} {S : Nat → Bool} {f : Nat} {st : List Value} {ls : aL} {h : aH} {k n : Nat} (hs : S 104 = false) : WP 155 G S (f + 1) 104 ls st h k n = (WP 155 G S f 105 ls (.int (nI 0) :: st) h k n) := by rw [wp_s dd_155_104 rfl hs]; rfl
theorem dd_155_105 : decode (mB 155) 105 = .ok (.istore_n 3, 1) := by decide +kernel
theorem u_155_105 {G : aG} {S : Nat → Bool} {f : Nat} {st : List Value} {ls : aL} {h : aH} {k n : Nat} {x : Int32} (hs : S 105 = false) : WP 155 G S (f + 1) 105 ls (.int x :: st) h k n = (WP 155 G S f 106 (lput1 ls 3 (.int x)) st h k n) := by rw [wp_s dd_155_105 rfl hs]; rfl
theorem dd_155_106 : decode (mB 155) 106 = .ok (.iload_n 3, 1) := by decide +kernel
theorem u_155_106 {G : aG} {S : Nat → Bool} {f : Nat} {st : List Value} {ls : aL} {h : aH} {k n : Nat} (hs : S 106 = false) : WP 155 G S (f + 1) 106 ls st h k n = (oI (lget ls 3) (WP 155 G S f) 107 ls st h k n) := by rw [wp_s dd_155_106 rfl hs]; rfl
theorem v_155_106 {G : aG} {S : Nat → Bool} {f : Nat} {st : List Value} {ls : aL} {h : aH} {k n : Nat} : WQ 155 G S f 106 ls st h k n = (oI (lget ls 3) (WP 155 G S f) 107 ls st h k n) := by rw [wq_s dd_155_106 rfl]; rfl
theorem dd_155_107 : decode (mB 155) 107 = .ok (.iconst 4, 1) := by decide +kernel
theorem u_155_107 {G : aG} {S : Nat → Bool} {f : Nat} {st : List Value} {ls : aL} {h : aH} {k n : Nat} (hs : S 107 = false) : WP 155 G S (f + 1) 107 ls st h k n = (WP 155 G S f 108 ls (.int (nI 4) :: st) h k n) := by rw [wp_s dd_155_107 rfl hs]; rfl
theorem dd_155_108 : decode (mB 155) 108 = .ok (.if_icmp .ge 22, 3) := by decide +kernel
theorem u_155_108 {G : aG} {S : Nat → Bool} {f : Nat} {st : List Value} {ls : aL} {h : aH} {k n : Nat} {x y : Int32} (hs : S 108 = false) : WP 155 G S (f + 1) 108 ls (.int y :: .int x :: st) h k n = (if y ≤ x then WP 155 G S f 130 ls st h k n else WP 155 G S f 111 ls st h k n) := by rw [wp_s dd_155_108 rfl hs]; exact br_ite (c := y ≤ x)
theorem dd_155_111 : decode (mB 155) 111 = .ok (.ldc2_w 265, 3) := by decide +kernel
theorem u_155_111 {G : aG} {S : Nat → Bool} {f : Nat} {st : List Value} {ls : aL} {h : aH} {k n : Nat} (hs : S 111 = false) : WP 155 G S (f + 1) 111 ls st h k n = (WP 155 G S f 114 ls (.long (lN 31) :: st) h k n) := by rw [wp_s dd_155_111 rfl hs]; rfl
theorem dd_155_114 : decode (mB 155) 114 = .ok (.lload_n 1, 1) := by decide +kernel
theorem u_155_114 {G : aG} {S : Nat → Bool} {f : Nat} {st : List Value} {ls : aL} {h : aH} {k n : Nat} (hs : S 114 = false) : WP 155 G S (f + 1) 114 ls st h k n = (oJ (lget ls 1) (WP 155 G S f) 115 ls st h k n) := by rw [wp_s dd_155_114 rfl hs]; rfl
theorem dd_155_115 : decode (mB 155) 115 = .ok (.lmul, 1) := by decide +kernel
theorem u_155_115 {G : aG} {S : Nat → Bool} {f : Nat} {st : List Value} {ls : aL} {h : aH} {k n : Nat} {x y : Int64} (hs : S 115 = false) : WP 155 G S (f + 1) 115 ls (.long y :: .long x :: st) h k n = (WP 155 G S f 116 ls (.long (x * y) :: st) h k n) := by rw [wp_s dd_155_115 rfl hs]; rfl
theorem dd_155_116 : decode (mB 155) 116 = .ok (.aload_n 0, 1) := by decide +kernel
theorem u_155_116 {G : aG} {S : Nat → Bool} {f : Nat} {st : List Value} {ls : aL} {h : aH} {k n : Nat} (hs : S 116 = false) : WP 155 G S (f + 1) 116 ls st h k n = (oA (lget ls 0) (WP 155 G S f) 117 ls st h k n) := by rw [wp_s dd_155_116 rfl hs]; rfl
theorem dd_155_117 : decode (mB 155) 117 = .ok (.iload_n 3, 1) := by decide +kernel
theorem u_155_117 {G : aG} {S : Nat → Bool} {f : Nat} {st : List Value} {ls : aL} {h : aH} {k n : Nat} (hs : S 117 = false) : WP 155 G S (f + 1) 117 ls st h k n = (oI (lget ls 3) (WP 155 G S f) 118 ls st h k n) := by rw [wp_s dd_155_117 rfl hs]; rfl
theorem dd_155_118 : decode (mB 155) 118 = .ok (.invokevirtual 255, 3) := by decide +kernel
theorem u_155_118 {G : aG} {S : Nat → Bool} {f : Nat} {st : List Value} {ls : aL} {h : aH} {k n : Nat} {v1 : Value} {b : Nat} (hs : S 118 = false) : WP 155 G S (f + 1) 118 ls (v1 :: .ref b :: st) h k n = (rcv (hget h b) 10 ∧ CAL G (WP 155 G S f) 151 [.ref b, v1] 121 ls st h k n) := by rw [wp_s dd_155_118 rfl hs]; rfl
theorem dd_155_121 : decode (mB 155) 121 = .ok (.i2l, 1) := by decide +kernel
theorem u_155_121 {G : aG} {S : Nat → Bool} {f : Nat} {st : List Value} {ls : aL} {h : aH} {k n : Nat} {x : Int32} (hs : S 121 = false) : WP 155 G S (f + 1) 121 ls (.int x :: st) h k n = (WP 155 G S f 122 ls (.long x.toInt64 :: st) h k n) := by rw [wp_s dd_155_121 rfl hs]; rfl
theorem dd_155_122 : decode (mB 155) 122 = .ok (.ladd, 1) := by decide +kernel
theorem u_155_122 {G : aG} {S : Nat → Bool} {f : Nat} {st : List Value} {ls : aL} {h : aH} {k n : Nat} {x y : Int64} (hs : S 122 = false) : WP 155 G S (f + 1) 122 ls (.long y :: .long x :: st) h k n = (WP 155 G S f 123 ls (.long (x + y) :: st) h k n) := by rw [wp_s dd_155_122 rfl hs]; rfl
theorem dd_155_123 : decode (mB 155) 123 = .ok (.lstore_n 1, 1) := by decide +kernel
theorem u_155_123 {G : aG} {S : Nat → Bool} {f : Nat} {st : List Value} {ls : aL} {h : aH} {k n : Nat} {x : Int64} (hs : S 123 = false) : WP 155 G S (f + 1) 123 ls (.long x :: st) h k n = (WP 155 G S f 124 (lput2 ls 1 (.long x)) st h k n) := by rw [wp_s dd_155_123 rfl hs]; rfl
theorem dd_155_124 : decode (mB 155) 124 = .ok (.iinc 3 1, 3) := by decide +kernel
theorem u_155_124 {G : aG} {S : Nat → Bool} {f : Nat} {st : List Value} {ls : aL} {h : aH} {k n : Nat} (hs : S 124 = false) : WP 155 G S (f + 1) 124 ls st h k n = (oInc (lget ls 3) (nI 1) (WP 155 G S f) 3 127 ls st h k n) := by rw [wp_s dd_155_124 rfl hs]; rfl
theorem dd_155_127 : decode (mB 155) 127 = .ok (.goto (-21), 3) := by decide +kernel
theorem u_155_127 {G : aG} {S : Nat → Bool} {f : Nat} {st : List Value} {ls : aL} {h : aH} {k n : Nat} (hs : S 127 = false) : WP 155 G S (f + 1) 127 ls st h k n = (WP 155 G S f 106 ls st h k n) := by rw [wp_s dd_155_127 rfl hs]; rfl
theorem dd_155_130 : decode (mB 155) 130 = .ok (.iconst 0, 1) := by decide +kernel
theorem u_155_130 {G : aG} {S : Nat → Bool} {f : Nat} {st : List Value} {ls : aL} {h : aH} {k n : Nat} (hs : S 130 = false) : WP 155 G S (f + 1) 130 ls st h k n = (WP 155 G S f 131 ls (.int (nI 0) :: st) h k n) := by rw [wp_s dd_155_130 rfl hs]; rfl
theorem dd_155_131 : decode (mB 155) 131 = .ok (.istore_n 3, 1) := by decide +kernel
theorem u_155_131 {G : aG} {S : Nat → Bool} {f : Nat} {st : List Value} {ls : aL} {h : aH} {k n : Nat} {x : Int32} (hs : S 131 = false) : WP 155 G S (f + 1) 131 ls (.int x :: st) h k n = (WP 155 G S f 132 (lput1 ls 3 (.int x)) st h k n) := by rw [wp_s dd_155_131 rfl hs]; rfl
theorem dd_155_132 : decode (mB 155) 132 = .ok (.iload_n 3, 1) := by decide +kernel
theorem u_155_132 {G : aG} {S : Nat → Bool} {f : Nat} {st : List Value} {ls : aL} {h : aH} {k n : Nat} (hs : S 132 = false) : WP 155 G S (f + 1) 132 ls st h k n = (oI (lget ls 3) (WP 155 G S f) 133 ls st h k n) := by rw [wp_s dd_155_132 rfl hs]; rfl
theorem v_155_132 {G : aG} {S : Nat → Bool} {f : Nat} {st : List Value} {ls : aL} {h : aH} {k n : Nat} : WQ 155 G S f 132 ls st h k n = (oI (lget ls 3) (WP 155 G S f) 133 ls st h k n) := by rw [wq_s dd_155_132 rfl]; rfl
theorem dd_155_133 : decode (mB 155) 133 = .ok (.aload_n 0, 1) := by decide +kernel
theorem u_155_133 {G : aG} {S : Nat → Bool} {f : Nat} {st : List Value} {ls : aL} {h : aH} {k n : Nat} (hs : S 133 = false) : WP 155 G S (f + 1) 133 ls st h k n = (oA (lget ls 0) (WP 155 G S f) 134 ls st h k n) := by rw [wp_s dd_155_133 rfl hs]; rfl
theorem dd_155_134 : decode (mB 155) 134 = .ok (.invokevirtual 247, 3) := by decide +kernel
theorem u_155_134 {G : aG} {S : Nat → Bool} {f : Nat} {st : List Value} {ls : aL} {h : aH} {k n : Nat} {b : Nat} (hs : S 134 = false) : WP 155 G S (f + 1) 134 ls (.ref b :: st) h k n = (rcv (hget h b) 10 ∧ CAL G (WP 155 G S f) 148 [.ref b] 137 ls st h k n) := by rw [wp_s dd_155_134 rfl hs]; rfl
theorem dd_155_137 : decode (mB 155) 137 = .ok (.if_icmp .ge 27, 3) := by decide +kernel
theorem u_155_137 {G : aG} {S : Nat → Bool} {f : Nat} {st : List Value} {ls : aL} {h : aH} {k n : Nat} {x y : Int32} (hs : S 137 = false) : WP 155 G S (f + 1) 137 ls (.int y :: .int x :: st) h k n = (if y ≤ x then WP 155 G S f 164 ls st h k n else WP 155 G S f 140 ls st h k n) := by rw [wp_s dd_155_137 rfl hs]; exact br_ite (c := y ≤ x)
theorem dd_155_140 : decode (mB 155) 140 = .ok (.ldc2_w 265, 3) := by decide +kernel
theorem u_155_140 {G : aG} {S : Nat → Bool} {f : Nat} {st : List Value} {ls : aL} {h : aH} {k n : Nat} (hs : S 140 = false) : WP 155 G S (f + 1) 140 ls st h k n = (WP 155 G S f 143 ls (.long (lN 31) :: st) h k n) := by rw [wp_s dd_155_140 rfl hs]; rfl
theorem dd_155_143 : decode (mB 155) 143 = .ok (.lload_n 1, 1) := by decide +kernel
theorem u_155_143 {G : aG} {S : Nat → Bool} {f : Nat} {st : List Value} {ls : aL} {h : aH} {k n : Nat} (hs : S 143 = false) : WP 155 G S (f + 1) 143 ls st h k n = (oJ (lget ls 1) (WP 155 G S f) 144 ls st h k n) := by rw [wp_s dd_155_143 rfl hs]; rfl
theorem dd_155_144 : decode (mB 155) 144 = .ok (.lmul, 1) := by decide +kernel
theorem u_155_144 {G : aG} {S : Nat → Bool} {f : Nat} {st : List Value} {ls : aL} {h : aH} {k n : Nat} {x y : Int64} (hs : S 144 = false) : WP 155 G S (f + 1) 144 ls (.long y :: .long x :: st) h k n = (WP 155 G S f 145 ls (.long (x * y) :: st) h k n) := by rw [wp_s dd_155_144 rfl hs]; rfl
theorem dd_155_145 : decode (mB 155) 145 = .ok (.aload_n 0, 1) := by decide +kernel
theorem u_155_145 {G : aG} {S : Nat → Bool} {f : Nat} {st : List Value} {ls : aL} {h : aH} {k n : Nat} (hs : S 145 = false) : WP 155 G S (f + 1) 145 ls st h k n = (oA (lget ls 0) (WP 155 G S f) 146 ls st h k n) := by rw [wp_s dd_155_145 rfl hs]; rfl
theorem dd_155_146 : decode (mB 155) 146 = .ok (.getfield 7, 3) := by decide +kernel
theorem u_155_146 {G : aG} {S : Nat → Bool} {f : Nat} {st : List Value} {ls : aL} {h : aH} {k n : Nat} {a : Nat} (hs : S 146 = false) : WP 155 G S (f + 1) 146 ls (.ref a :: st) h k n = (oV (fget h a 10 0) (WP 155 G S f) 149 ls st h k n) := by rw [wp_s dd_155_146 rfl hs]; rfl
theorem dd_155_149 : decode (mB 155) 149 = .ok (.sipush 444, 3) := by decide +kernel
theorem u_155_149 {G : aG} {S : Nat → Bool} {f : Nat} {st : List Value} {ls : aL} {h : aH} {k n : Nat} (hs : S 149 = false) : WP 155 G S (f + 1) 149 ls st h k n = (WP 155 G S f 152 ls (.int (nI 444) :: st) h k n) := by rw [wp_s dd_155_149 rfl hs]; rfl
theorem dd_155_152 : decode (mB 155) 152 = .ok (.iload_n 3, 1) := by decide +kernel
theorem u_155_152 {G : aG} {S : Nat → Bool} {f : Nat} {st : List Value} {ls : aL} {h : aH} {k n : Nat} (hs : S 152 = false) : WP 155 G S (f + 1) 152 ls st h k n = (oI (lget ls 3) (WP 155 G S f) 153 ls st h k n) := by rw [wp_s dd_155_152 rfl hs]; rfl
theorem dd_155_153 : decode (mB 155) 153 = .ok (.iadd, 1) := by decide +kernel
theorem u_155_153 {G : aG} {S : Nat → Bool} {f : Nat} {st : List Value} {ls : aL} {h : aH} {k n : Nat} {x y : Int32} (hs : S 153 = false) : WP 155 G S (f + 1) 153 ls (.int y :: .int x :: st) h k n = (WP 155 G S f 154 ls (.int (x + y) :: st) h k n) := by rw [wp_s dd_155_153 rfl hs]; rfl
theorem dd_155_154 : decode (mB 155) 154 = .ok (.iaload, 1) := by decide +kernel
theorem u_155_154 {G : aG} {S : Nat → Bool} {f : Nat} {st : List Value} {ls : aL} {h : aH} {k n : Nat} {i : Int32} {a : Nat} (hs : S 154 = false) : WP 155 G S (f + 1) 154 ls (.int i :: .ref a :: st) h k n = (oIld (iget h a 1) i (WP 155 G S f) 155 ls st h k n) := by rw [wp_s dd_155_154 rfl hs]; rfl
theorem dd_155_155 : decode (mB 155) 155 = .ok (.i2l, 1) := by decide +kernel
theorem u_155_155 {G : aG} {S : Nat → Bool} {f : Nat} {st : List Value} {ls : aL} {h : aH} {k n : Nat} {x : Int32} (hs : S 155 = false) : WP 155 G S (f + 1) 155 ls (.int x :: st) h k n = (WP 155 G S f 156 ls (.long x.toInt64 :: st) h k n) := by rw [wp_s dd_155_155 rfl hs]; rfl
theorem dd_155_156 : decode (mB 155) 156 = .ok (.ladd, 1) := by decide +kernel
theorem u_155_156 {G : aG} {S : Nat → Bool} {f : Nat} {st : List Value} {ls : aL} {h : aH} {k n : Nat} {x y : Int64} (hs : S 156 = false) : WP 155 G S (f + 1) 156 ls (.long y :: .long x :: st) h k n = (WP 155 G S f 157 ls (.long (x + y) :: st) h k n) := by rw [wp_s dd_155_156 rfl hs]; rfl
theorem dd_155_157 : decode (mB 155) 157 = .ok (.lstore_n 1, 1) := by decide +kernel
theorem u_155_157 {G : aG} {S : Nat → Bool} {f : Nat} {st : List Value} {ls : aL} {h : aH} {k n : Nat} {x : Int64} (hs : S 157 = false) : WP 155 G S (f + 1) 157 ls (.long x :: st) h k n = (WP 155 G S f 158 (lput2 ls 1 (.long x)) st h k n) := by rw [wp_s dd_155_157 rfl hs]; rfl
theorem dd_155_158 : decode (mB 155) 158 = .ok (.iinc 3 1, 3) := by decide +kernel
theorem u_155_158 {G : aG} {S : Nat → Bool} {f : Nat} {st : List Value} {ls : aL} {h : aH} {k n : Nat} (hs : S 158 = false) : WP 155 G S (f + 1) 158 ls st h k n = (oInc (lget ls 3) (nI 1) (WP 155 G S f) 3 161 ls st h k n) := by rw [wp_s dd_155_158 rfl hs]; rfl
theorem dd_155_161 : decode (mB 155) 161 = .ok (.goto (-29), 3) := by decide +kernel
theorem u_155_161 {G : aG} {S : Nat → Bool} {f : Nat} {st : List Value} {ls : aL} {h : aH} {k n : Nat} (hs : S 161 = false) : WP 155 G S (f + 1) 161 ls st h k n = (WP 155 G S f 132 ls st h k n) := by rw [wp_s dd_155_161 rfl hs]; rfl
theorem dd_155_164 : decode (mB 155) 164 = .ok (.lload_n 1, 1) := by decide +kernel
theorem u_155_164 {G : aG} {S : Nat → Bool} {f : Nat} {st : List Value} {ls : aL} {h : aH} {k n : Nat} (hs : S 164 = false) : WP 155 G S (f + 1) 164 ls st h k n = (oJ (lget ls 1) (WP 155 G S f) 165 ls st h k n) := by rw [wp_s dd_155_164 rfl hs]; rfl
theorem dd_155_165 : decode (mB 155) 165 = .ok (.lreturn, 1) := by decide +kernel
theorem u_155_165 {G : aG} {S : Nat → Bool} {f : Nat} {ls : aL} {h : aH} {k n : Nat} {x : Int64} (hs : S 165 = false) : WP 155 G S (f + 1) 165 ls [.long x] h k n = (RET G (some (.long x)) h k n) := by rw [wp_s dd_155_165 rfl hs]; rfl
