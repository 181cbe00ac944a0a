/-! rows of 6 Machines.init, 7 Machine.init, 9 Machine.load, 24 Machine.foundStand, 25 Machine.chainOfFound, 26 Machine.isFound, 27 Machine.newStand, 28 Machine.makeRoom, 30 Counter.init, 55 Machines.follow, 58 Machines.at, 60 Machine.isEnding, 61 Machine.traitsOf, 62 Machine.due, 65 Counter.count, 66 Counter.begin, 67 Counter.lastSteps, 68 Machine.lastSteps, 70 Counter.stepOn, 71 Machine.step, 72 Machine.findTargets -/
theorem dd_6_0 : decode (mB 6) 0 = .ok (.aload_n 0, 1) := by decide +kernel
theorem u_6_0 {G : aG} {S : Nat → Bool} {f : Nat} {st : List Value} {ls : aL} {h : aH} {k n : Nat} (hs : S 0 = false) : WP 6 G S (f + 1) 0 ls st h k n = (oA (lget ls 0) (WP 6 G S f) 1 ls st h k n) := by rw [wp_s dd_6_0 rfl hs]; rfl
theorem dd_6_1 : decode (mB 6) 1 = .ok (.invokespecial 3, 3) := by decide +kernel
theorem u_6_1 {G : aG} {S : Nat → Bool} {f : Nat} {st : List Value} {ls : aL} {h : aH} {k n : Nat} {a : Nat} (hs : S 1 = false) : WP 6 G S (f + 1) 1 ls (.ref a :: st) h k n = ((st.map fun v => v.category).sum ≤ 8 ∧ 1 ≤ gD G ∧ WP 6 G S f 4 ls st h k n) := by rw [wp_s dd_6_1 rfl hs]; rfl
theorem dd_6_4 : decode (mB 6) 4 = .ok (.aload_n 0, 1) := by decide +kernel
theorem u_6_4 {G : aG} {S : Nat → Bool} {f : Nat} {st : List Value} {ls : aL} {h : aH} {k n : Nat} (hs : S 4 = false) : WP 6 G S (f + 1) 4 ls st h k n = (oA (lget ls 0) (WP 6 G S f) 5 ls st h k n) := by rw [wp_s dd_6_4 rfl hs]; rfl
theorem dd_6_5 : decode (mB 6) 5 = .ok (.bipush 9, 2) := by decide +kernel
theorem u_6_5 {G : aG} {S : Nat → Bool} {f : Nat} {st : List Value} {ls : aL} {h : aH} {k n : Nat} (hs : S 5 = false) : WP 6 G S (f + 1) 5 ls st h k n = (WP 6 G S f 7 ls (.int (nI 9) :: st) h k n) := by rw [wp_s dd_6_5 rfl hs]; rfl
theorem dd_6_7 : decode (mB 6) 7 = .ok (.anewarray 9, 3) := by decide +kernel
theorem u_6_7 {G : aG} {S : Nat → Bool} {f : Nat} {st : List Value} {ls : aL} {h : aH} {k n : Nat} {x : Int32} (hs : S 7 = false) : WP 6 G S (f + 1) 7 ls (.int x :: st) h k n = (¬ x < 0 ∧ x.toNatClampNeg * 4 ≤ 536870912 ∧ oNew G (cQ 3 x.toNatClampNeg) x.toNatClampNeg (WP 6 G S f) 10 ls st h k n) := by rw [wp_s dd_6_7 rfl hs]; rfl
theorem dd_6_10 : decode (mB 6) 10 = .ok (.putfield 11, 3) := by decide +kernel
theorem u_6_10 {G : aG} {S : Nat → Bool} {f : Nat} {st : List Value} {ls : aL} {h : aH} {k n : Nat} {a : Nat} {x : Nat} (hs : S 10 = false) : WP 6 G S (f + 1) 10 ls (.ref x :: .ref a :: st) h k n = (oH (fput h a 3 0 (.ref x)) (WP 6 G S f) 13 ls st k n) := by rw [wp_s dd_6_10 rfl hs]; rfl
theorem dd_6_13 : decode (mB 6) 13 = .ok (.iconst 0, 1) := by decide +kernel
theorem u_6_13 {G : aG} {S : Nat → Bool} {f : Nat} {st : List Value} {ls : aL} {h : aH} {k n : Nat} (hs : S 13 = false) : WP 6 G S (f + 1) 13 ls st h k n = (WP 6 G S f 14 ls (.int (nI 0) :: st) h k n) := by rw [wp_s dd_6_13 rfl hs]; rfl
theorem dd_6_14 : decode (mB 6) 14 = .ok (.istore_n 1, 1) := by decide +kernel
theorem u_6_14 {G : aG} {S : Nat → Bool} {f : Nat} {st : List Value} {ls : aL} {h : aH} {k n : Nat} {x : Int32} (hs : S 14 = false) : WP 6 G S (f + 1) 14 ls (.int x :: st) h k n = (WP 6 G S f 15 (lput1 ls 1 (.int x)) st h k n) := by rw [wp_s dd_6_14 rfl hs]; rfl
theorem dd_6_15 : decode (mB 6) 15 = .ok (.iload_n 1, 1) := by decide +kernel
theorem u_6_15 {G : aG} {S : Nat → Bool} {f : Nat} {st : List Value} {ls : aL} {h : aH} {k n : Nat} (hs : S 15 = false) : WP 6 G S (f + 1) 15 ls st h k n = (oI (lget ls 1) (WP 6 G S f) 16 ls st h k n) := by rw [wp_s dd_6_15 rfl hs]; rfl
theorem v_6_15 {G : aG} {S : Nat → Bool} {f : Nat} {st : List Value} {ls : aL} {h : aH} {k n : Nat} : WQ 6 G S f 15 ls st h k n = (oI (lget ls 1) (WP 6 G S f) 16 ls st h k n) := by rw [wq_s dd_6_15 rfl]; rfl
theorem dd_6_16 : decode (mB 6) 16 = .ok (.bipush 9, 2) := by decide +kernel
theorem u_6_16 {G : aG} {S : Nat → Bool} {f : Nat} {st : List Value} {ls : aL} {h : aH} {k n : Nat} (hs : S 16 = false) : WP 6 G S (f + 1) 16 ls st h k n = (WP 6 G S f 18 ls (.int (nI 9) :: st) h k n) := by rw [wp_s dd_6_16 rfl hs]; rfl
theorem dd_6_18 : decode (mB 6) 18 = .ok (.if_icmp .ge 34, 3) := by decide +kernel
theorem u_6_18 {G : aG} {S : Nat → Bool} {f : Nat} {st : List Value} {ls : aL} {h : aH} {k n : Nat} {x y : Int32} (hs : S 18 = false) : WP 6 G S (f + 1) 18 ls (.int y :: .int x :: st) h k n = (if y ≤ x then WP 6 G S f 52 ls st h k n else WP 6 G S f 21 ls st h k n) := by rw [wp_s dd_6_18 rfl hs]; exact br_ite (c := y ≤ x)
theorem dd_6_21 : decode (mB 6) 21 = .ok (.aload_n 0, 1) := by decide +kernel
theorem u_6_21 {G : aG} {S : Nat → Bool} {f : Nat} {st : List Value} {ls : aL} {h : aH} {k n : Nat} (hs : S 21 = false) : WP 6 G S (f + 1) 21 ls st h k n = (oA (lget ls 0) (WP 6 G S f) 22 ls st h k n) := by rw [wp_s dd_6_21 rfl hs]; rfl
theorem dd_6_22 : decode (mB 6) 22 = .ok (.getfield 11, 3) := by decide +kernel
theorem u_6_22 {G : aG} {S : Nat → Bool} {f : Nat} {st : List Value} {ls : aL} {h : aH} {k n : Nat} {a : Nat} (hs : S 22 = false) : WP 6 G S (f + 1) 22 ls (.ref a :: st) h k n = (oV (fget h a 3 0) (WP 6 G S f) 25 ls st h k n) := by rw [wp_s dd_6_22 rfl hs]; rfl
theorem dd_6_25 : decode (mB 6) 25 = .ok (.iload_n 1, 1) := by decide +kernel
theorem u_6_25 {G : aG} {S : Nat → Bool} {f : Nat} {st : List Value} {ls : aL} {h : aH} {k n : Nat} (hs : S 25 = false) : WP 6 G S (f + 1) 25 ls st h k n = (oI (lget ls 1) (WP 6 G S f) 26 ls st h k n) := by rw [wp_s dd_6_25 rfl hs]; rfl
theorem dd_6_26 : decode (mB 6) 26 = .ok (.new 9, 3) := by decide +kernel
theorem u_6_26 {G : aG} {S : Nat → Bool} {f : Nat} {st : List Value} {ls : aL} {h : aH} {k n : Nat} (hs : S 26 = false) : WP 6 G S (f + 1) 26 ls st h k n = (oNew G (.inr (2, dfl 2)) (clT 2).2.2 (WP 6 G S f) 29 ls st h k n) := by rw [wp_s dd_6_26 rfl hs]; rfl
theorem dd_6_29 : decode (mB 6) 29 = .ok (.dup, 1) := by decide +kernel
theorem u_6_29 {G : aG} {S : Nat → Bool} {f : Nat} {st : List Value} {ls : aL} {h : aH} {k n : Nat} {v : Value} (hs : S 29 = false) : WP 6 G S (f + 1) 29 ls (v :: st) h k n = (cond (cat1 v) (WP 6 G S f 30 ls (v :: v :: st) h k n) False) := by rw [wp_s dd_6_29 rfl hs]; rfl
theorem dd_6_30 : decode (mB 6) 30 = .ok (.invokespecial 17, 3) := by decide +kernel
theorem u_6_30 {G : aG} {S : Nat → Bool} {f : Nat} {st : List Value} {ls : aL} {h : aH} {k n : Nat} {b : Nat} (hs : S 30 = false) : WP 6 G S (f + 1) 30 ls (.ref b :: st) h k n = (CAL G (WP 6 G S f) 7 [.ref b] 33 ls st h k n) := by rw [wp_s dd_6_30 rfl hs]; rfl
theorem dd_6_33 : decode (mB 6) 33 = .ok (.aastore, 1) := by decide +kernel
theorem u_6_33 {G : aG} {S : Nat → Bool} {f : Nat} {st : List Value} {ls : aL} {h : aH} {k n : Nat} {i : Int32} {a b : Nat} (hs : S 33 = false) : WP 6 G S (f + 1) 33 ls (.ref b :: .int i :: .ref a :: st) h k n = (oQst (qget h a) a i b (WP 6 G S f) 34 ls st h k n) := by rw [wp_s dd_6_33 rfl hs]; rfl
theorem dd_6_34 : decode (mB 6) 34 = .ok (.aload_n 0, 1) := by decide +kernel
theorem u_6_34 {G : aG} {S : Nat → Bool} {f : Nat} {st : List Value} {ls : aL} {h : aH} {k n : Nat} (hs : S 34 = false) : WP 6 G S (f + 1) 34 ls st h k n = (oA (lget ls 0) (WP 6 G S f) 35 ls st h k n) := by rw [wp_s dd_6_34 rfl hs]; rfl
theorem dd_6_35 : decode (mB 6) 35 = .ok (.getfield 11, 3) := by decide +kernel
theorem u_6_35 {G : aG} {S : Nat → Bool} {f : Nat} {st : List Value} {ls : aL} {h : aH} {k n : Nat} {a : Nat} (hs : S 35 = false) : WP 6 G S (f + 1) 35 ls (.ref a :: st) h k n = (oV (fget h a 3 0) (WP 6 G S f) 38 ls st h k n) := by rw [wp_s dd_6_35 rfl hs]; rfl
theorem dd_6_38 : decode (mB 6) 38 = .ok (.iload_n 1, 1) := by decide +kernel
theorem u_6_38 {G : aG} {S : Nat → Bool} {f : Nat} {st : List Value} {ls : aL} {h : aH} {k n : Nat} (hs : S 38 = false) : WP 6 G S (f + 1) 38 ls st h k n = (oI (lget ls 1) (WP 6 G S f) 39 ls st h k n) := by rw [wp_s dd_6_38 rfl hs]; rfl
theorem dd_6_39 : decode (mB 6) 39 = .ok (.aaload, 1) := by decide +kernel
theorem u_6_39 {G : aG} {S : Nat → Bool} {f : Nat} {st : List Value} {ls : aL} {h : aH} {k n : Nat} {i : Int32} {a : Nat} (hs : S 39 = false) : WP 6 G S (f + 1) 39 ls (.int i :: .ref a :: st) h k n = (oQld (qget h a) i (WP 6 G S f) 40 ls st h k n) := by rw [wp_s dd_6_39 rfl hs]; rfl
theorem dd_6_40 : decode (mB 6) 40 = .ok (.ldc2_w 18, 3) := by decide +kernel
theorem u_6_40 {G : aG} {S : Nat → Bool} {f : Nat} {st : List Value} {ls : aL} {h : aH} {k n : Nat} (hs : S 40 = false) : WP 6 G S (f + 1) 40 ls st h k n = (WP 6 G S f 43 ls (.long (lN 9) :: st) h k n) := by rw [wp_s dd_6_40 rfl hs]; rfl
theorem dd_6_43 : decode (mB 6) 43 = .ok (.invokevirtual 20, 3) := by decide +kernel
theorem u_6_43 {G : aG} {S : Nat → Bool} {f : Nat} {st : List Value} {ls : aL} {h : aH} {k n : Nat} {v1 : Value} {b : Nat} (hs : S 43 = false) : WP 6 G S (f + 1) 43 ls (v1 :: .ref b :: st) h k n = (rcv (hget h b) 2 ∧ CAL G (WP 6 G S f) 9 [.ref b, v1] 46 ls st h k n) := by rw [wp_s dd_6_43 rfl hs]; rfl
theorem dd_6_46 : decode (mB 6) 46 = .ok (.iinc 1 1, 3) := by decide +kernel
theorem u_6_46 {G : aG} {S : Nat → Bool} {f : Nat} {st : List Value} {ls : aL} {h : aH} {k n : Nat} (hs : S 46 = false) : WP 6 G S (f + 1) 46 ls st h k n = (oInc (lget ls 1) (nI 1) (WP 6 G S f) 1 49 ls st h k n) := by rw [wp_s dd_6_46 rfl hs]; rfl
theorem dd_6_49 : decode (mB 6) 49 = .ok (.goto (-34), 3) := by decide +kernel
theorem u_6_49 {G : aG} {S : Nat → Bool} {f : Nat} {st : List Value} {ls : aL} {h : aH} {k n : Nat} (hs : S 49 = false) : WP 6 G S (f + 1) 49 ls st h k n = (WP 6 G S f 15 ls st h k n) := by rw [wp_s dd_6_49 rfl hs]; rfl
theorem dd_6_52 : decode (mB 6) 52 = .ok (.return_, 1) := by decide +kernel
theorem u_6_52 {G : aG} {S : Nat → Bool} {f : Nat} {ls : aL} {h : aH} {k n : Nat} (hs : S 52 = false) : WP 6 G S (f + 1) 52 ls [] h k n = (RET G none h k n) := by rw [wp_s dd_6_52 rfl hs]; rfl
theorem dd_7_0 : decode (mB 7) 0 = .ok (.aload_n 0, 1) := by decide +kernel
theorem u_7_0 {G : aG} {S : Nat → Bool} {f : Nat} {st : List Value} {ls : aL} {h : aH} {k n : Nat} (hs : S 0 = false) : WP 7 G S (f + 1) 0 ls st h k n = (oA (lget ls 0) (WP 7 G S f) 1 ls st h k n) := by rw [wp_s dd_7_0 rfl hs]; rfl
theorem dd_7_1 : decode (mB 7) 1 = .ok (.invokespecial 3, 3) := by decide +kernel
theorem u_7_1 {G : aG} {S : Nat → Bool} {f : Nat} {st : List Value} {ls : aL} {h : aH} {k n : Nat} {a : Nat} (hs : S 1 = false) : WP 7 G S (f + 1) 1 ls (.ref a :: st) h k n = ((st.map fun v => v.category).sum ≤ 8 ∧ 1 ≤ gD G ∧ WP 7 G S f 4 ls st h k n) := by rw [wp_s dd_7_1 rfl hs]; rfl
theorem dd_7_4 : decode (mB 7) 4 = .ok (.aload_n 0, 1) := by decide +kernel
theorem u_7_4 {G : aG} {S : Nat → Bool} {f : Nat} {st : List Value} {ls : aL} {h : aH} {k n : Nat} (hs : S 4 = false) : WP 7 G S (f + 1) 4 ls st h k n = (oA (lget ls 0) (WP 7 G S f) 5 ls st h k n) := by rw [wp_s dd_7_4 rfl hs]; rfl
theorem dd_7_5 : decode (mB 7) 5 = .ok (.new 9, 3) := by decide +kernel
theorem u_7_5 {G : aG} {S : Nat → Bool} {f : Nat} {st : List Value} {ls : aL} {h : aH} {k n : Nat} (hs : S 5 = false) : WP 7 G S (f + 1) 5 ls st h k n = (oNew G (.inr (5, dfl 5)) (clT 5).2.2 (WP 7 G S f) 8 ls st h k n) := by rw [wp_s dd_7_5 rfl hs]; rfl
theorem dd_7_8 : decode (mB 7) 8 = .ok (.dup, 1) := by decide +kernel
theorem u_7_8 {G : aG} {S : Nat → Bool} {f : Nat} {st : List Value} {ls : aL} {h : aH} {k n : Nat} {v : Value} (hs : S 8 = false) : WP 7 G S (f + 1) 8 ls (v :: st) h k n = (cond (cat1 v) (WP 7 G S f 9 ls (v :: v :: st) h k n) False) := by rw [wp_s dd_7_8 rfl hs]; rfl
theorem dd_7_9 : decode (mB 7) 9 = .ok (.invokespecial 11, 3) := by decide +kernel
theorem u_7_9 {G : aG} {S : Nat → Bool} {f : Nat} {st : List Value} {ls : aL} {h : aH} {k n : Nat} {b : Nat} (hs : S 9 = false) : WP 7 G S (f + 1) 9 ls (.ref b :: st) h k n = (CAL G (WP 7 G S f) 8 [.ref b] 12 ls st h k n) := by rw [wp_s dd_7_9 rfl hs]; rfl
theorem dd_7_12 : decode (mB 7) 12 = .ok (.putfield 12, 3) := by decide +kernel
theorem u_7_12 {G : aG} {S : Nat → Bool} {f : Nat} {st : List Value} {ls : aL} {h : aH} {k n : Nat} {a : Nat} {x : Nat} (hs : S 12 = false) : WP 7 G S (f + 1) 12 ls (.ref x :: .ref a :: st) h k n = (oH (fput h a 2 0 (.ref x)) (WP 7 G S f) 15 ls st k n) := by rw [wp_s dd_7_12 rfl hs]; rfl
theorem dd_7_15 : decode (mB 7) 15 = .ok (.aload_n 0, 1) := by decide +kernel
theorem u_7_15 {G : aG} {S : Nat → Bool} {f : Nat} {st : List Value} {ls : aL} {h : aH} {k n : Nat} (hs : S 15 = false) : WP 7 G S (f + 1) 15 ls st h k n = (oA (lget ls 0) (WP 7 G S f) 16 ls st h k n) := by rw [wp_s dd_7_15 rfl hs]; rfl
theorem dd_7_16 : decode (mB 7) 16 = .ok (.bipush 8, 2) := by decide +kernel
theorem u_7_16 {G : aG} {S : Nat → Bool} {f : Nat} {st : List Value} {ls : aL} {h : aH} {k n : Nat} (hs : S 16 = false) : WP 7 G S (f + 1) 16 ls st h k n = (WP 7 G S f 18 ls (.int (nI 8) :: st) h k n) := by rw [wp_s dd_7_16 rfl hs]; rfl
theorem dd_7_18 : decode (mB 7) 18 = .ok (.newarray .long, 2) := by decide +kernel
theorem u_7_18 {G : aG} {S : Nat → Bool} {f : Nat} {st : List Value} {ls : aL} {h : aH} {k n : Nat} {x : Int32} (hs : S 18 = false) : WP 7 G S (f + 1) 18 ls (.int x :: st) h k n = (¬ x < 0 ∧ x.toNatClampNeg * 8 ≤ 536870912 ∧ oNew G (cJ x.toNatClampNeg) x.toNatClampNeg (WP 7 G S f) 20 ls st h k n) := by rw [wp_s dd_7_18 rfl hs]; rfl
theorem dd_7_20 : decode (mB 7) 20 = .ok (.putfield 18, 3) := by decide +kernel
theorem u_7_20 {G : aG} {S : Nat → Bool} {f : Nat} {st : List Value} {ls : aL} {h : aH} {k n : Nat} {a : Nat} {x : Nat} (hs : S 20 = false) : WP 7 G S (f + 1) 20 ls (.ref x :: .ref a :: st) h k n = (oH (fput h a 2 4 (.ref x)) (WP 7 G S f) 23 ls st k n) := by rw [wp_s dd_7_20 rfl hs]; rfl
theorem dd_7_23 : decode (mB 7) 23 = .ok (.aload_n 0, 1) := by decide +kernel
theorem u_7_23 {G : aG} {S : Nat → Bool} {f : Nat} {st : List Value} {ls : aL} {h : aH} {k n : Nat} (hs : S 23 = false) : WP 7 G S (f + 1) 23 ls st h k n = (oA (lget ls 0) (WP 7 G S f) 24 ls st h k n) := by rw [wp_s dd_7_23 rfl hs]; rfl
theorem dd_7_24 : decode (mB 7) 24 = .ok (.bipush 64, 2) := by decide +kernel
theorem u_7_24 {G : aG} {S : Nat → Bool} {f : Nat} {st : List Value} {ls : aL} {h : aH} {k n : Nat} (hs : S 24 = false) : WP 7 G S (f + 1) 24 ls st h k n = (WP 7 G S f 26 ls (.int (nI 64) :: st) h k n) := by rw [wp_s dd_7_24 rfl hs]; rfl
theorem dd_7_26 : decode (mB 7) 26 = .ok (.newarray .int, 2) := by decide +kernel
theorem u_7_26 {G : aG} {S : Nat → Bool} {f : Nat} {st : List Value} {ls : aL} {h : aH} {k n : Nat} {x : Int32} (hs : S 26 = false) : WP 7 G S (f + 1) 26 ls (.int x :: st) h k n = (¬ x < 0 ∧ x.toNatClampNeg * 4 ≤ 536870912 ∧ oNew G (cI x.toNatClampNeg) x.toNatClampNeg (WP 7 G S f) 28 ls st h k n) := by rw [wp_s dd_7_26 rfl hs]; rfl
theorem dd_7_28 : decode (mB 7) 28 = .ok (.putfield 22, 3) := by decide +kernel
theorem u_7_28 {G : aG} {S : Nat → Bool} {f : Nat} {st : List Value} {ls : aL} {h : aH} {k n : Nat} {a : Nat} {x : Nat} (hs : S 28 = false) : WP 7 G S (f + 1) 28 ls (.ref x :: .ref a :: st) h k n = (oH (fput h a 2 5 (.ref x)) (WP 7 G S f) 31 ls st k n) := by rw [wp_s dd_7_28 rfl hs]; rfl
theorem dd_7_31 : decode (mB 7) 31 = .ok (.aload_n 0, 1) := by decide +kernel
theorem u_7_31 {G : aG} {S : Nat → Bool} {f : Nat} {st : List Value} {ls : aL} {h : aH} {k n : Nat} (hs : S 31 = false) : WP 7 G S (f + 1) 31 ls st h k n = (oA (lget ls 0) (WP 7 G S f) 32 ls st h k n) := by rw [wp_s dd_7_31 rfl hs]; rfl
theorem dd_7_32 : decode (mB 7) 32 = .ok (.bipush 8, 2) := by decide +kernel
theorem u_7_32 {G : aG} {S : Nat → Bool} {f : Nat} {st : List Value} {ls : aL} {h : aH} {k n : Nat} (hs : S 32 = false) : WP 7 G S (f + 1) 32 ls st h k n = (WP 7 G S f 34 ls (.int (nI 8) :: st) h k n) := by rw [wp_s dd_7_32 rfl hs]; rfl
theorem dd_7_34 : decode (mB 7) 34 = .ok (.newarray .int, 2) := by decide +kernel
theorem u_7_34 {G : aG} {S : Nat → Bool} {f : Nat} {st : List Value} {ls : aL} {h : aH} {k n : Nat} {x : Int32} (hs : S 34 = false) : WP 7 G S (f + 1) 34 ls (.int x :: st) h k n = (¬ x < 0 ∧ x.toNatClampNeg * 4 ≤ 536870912 ∧ oNew G (cI x.toNatClampNeg) x.toNatClampNeg (WP 7 G S f) 36 ls st h k n) := by rw [wp_s dd_7_34 rfl hs]; rfl
theorem dd_7_36 : decode (mB 7) 36 = .ok (.putfield 26, 3) := by decide +kernel
theorem u_7_36 {G : aG} {S : Nat → Bool} {f : Nat} {st : List Value} {ls : aL} {h : aH} {k n : Nat} {a : Nat} {x : Nat} (hs : S 36 = false) : WP 7 G S (f + 1) 36 ls (.ref x :: .ref a :: st) h k n = (oH (fput h a 2 6 (.ref x)) (WP 7 G S f) 39 ls st k n) := by rw [wp_s dd_7_36 rfl hs]; rfl
theorem dd_7_39 : decode (mB 7) 39 = .ok (.aload_n 0, 1) := by decide +kernel
theorem u_7_39 {G : aG} {S : Nat → Bool} {f : Nat} {st : List Value} {ls : aL} {h : aH} {k n : Nat} (hs : S 39 = false) : WP 7 G S (f + 1) 39 ls st h k n = (oA (lget ls 0) (WP 7 G S f) 40 ls st h k n) := by rw [wp_s dd_7_39 rfl hs]; rfl
theorem dd_7_40 : decode (mB 7) 40 = .ok (.bipush 8, 2) := by decide +kernel
theorem u_7_40 {G : aG} {S : Nat → Bool} {f : Nat} {st : List Value} {ls : aL} {h : aH} {k n : Nat} (hs : S 40 = false) : WP 7 G S (f + 1) 40 ls st h k n = (WP 7 G S f 42 ls (.int (nI 8) :: st) h k n) := by rw [wp_s dd_7_40 rfl hs]; rfl
theorem dd_7_42 : decode (mB 7) 42 = .ok (.newarray .int, 2) := by decide +kernel
theorem u_7_42 {G : aG} {S : Nat → Bool} {f : Nat} {st : List Value} {ls : aL} {h : aH} {k n : Nat} {x : Int32} (hs : S 42 = false) : WP 7 G S (f + 1) 42 ls (.int x :: st) h k n = (¬ x < 0 ∧ x.toNatClampNeg * 4 ≤ 536870912 ∧ oNew G (cI x.toNatClampNeg) x.toNatClampNeg (WP 7 G S f) 44 ls st h k n) := by rw [wp_s dd_7_42 rfl hs]; rfl
theorem dd_7_44 : decode (mB 7) 44 = .ok (.putfield 29, 3) := by decide +kernel
theorem u_7_44 {G : aG} {S : Nat → Bool} {f : Nat} {st : List Value} {ls : aL} {h : aH} {k n : Nat} {a : Nat} {x : Nat} (hs : S 44 = false) : WP 7 G S (f + 1) 44 ls (.ref x :: .ref a :: st) h k n = (oH (fput h a 2 7 (.ref x)) (WP 7 G S f) 47 ls st k n) := by rw [wp_s dd_7_44 rfl hs]; rfl
theorem dd_7_47 : decode (mB 7) 47 = .ok (.aload_n 0, 1) := by decide +kernel
theorem u_7_47 {G : aG} {S : Nat → Bool} {f : Nat} {st : List Value} {ls : aL} {h : aH} {k n : Nat} (hs : S 47 = false) : WP 7 G S (f + 1) 47 ls st h k n = (oA (lget ls 0) (WP 7 G S f) 48 ls st h k n) := by rw [wp_s dd_7_47 rfl hs]; rfl
theorem dd_7_48 : decode (mB 7) 48 = .ok (.bipush 64, 2) := by decide +kernel
theorem u_7_48 {G : aG} {S : Nat → Bool} {f : Nat} {st : List Value} {ls : aL} {h : aH} {k n : Nat} (hs : S 48 = false) : WP 7 G S (f + 1) 48 ls st h k n = (WP 7 G S f 50 ls (.int (nI 64) :: st) h k n) := by rw [wp_s dd_7_48 rfl hs]; rfl
theorem dd_7_50 : decode (mB 7) 50 = .ok (.newarray .int, 2) := by decide +kernel
theorem u_7_50 {G : aG} {S : Nat → Bool} {f : Nat} {st : List Value} {ls : aL} {h : aH} {k n : Nat} {x : Int32} (hs : S 50 = false) : WP 7 G S (f + 1) 50 ls (.int x :: st) h k n = (¬ x < 0 ∧ x.toNatClampNeg * 4 ≤ 536870912 ∧ oNew G (cI x.toNatClampNeg) x.toNatClampNeg (WP 7 G S f) 52 ls st h k n) := by rw [wp_s dd_7_50 rfl hs]; rfl
theorem dd_7_52 : decode (mB 7) 52 = .ok (.putfield 32, 3) := by decide +kernel
theorem u_7_52 {G : aG} {S : Nat → Bool} {f : Nat} {st : List Value} {ls : aL} {h : aH} {k n : Nat} {a : Nat} {x : Nat} (hs : S 52 = false) : WP 7 G S (f + 1) 52 ls (.ref x :: .ref a :: st) h k n = (oH (fput h a 2 8 (.ref x)) (WP 7 G S f) 55 ls st k n) := by rw [wp_s dd_7_52 rfl hs]; rfl
theorem dd_7_55 : decode (mB 7) 55 = .ok (.aload_n 0, 1) := by decide +kernel
theorem u_7_55 {G : aG} {S : Nat → Bool} {f : Nat} {st : List Value} {ls : aL} {h : aH} {k n : Nat} (hs : S 55 = false) : WP 7 G S (f + 1) 55 ls st h k n = (oA (lget ls 0) (WP 7 G S f) 56 ls st h k n) := by rw [wp_s dd_7_55 rfl hs]; rfl
theorem dd_7_56 : decode (mB 7) 56 = .ok (.iconst 4, 1) := by decide +kernel
theorem u_7_56 {G : aG} {S : Nat → Bool} {f : Nat} {st : List Value} {ls : aL} {h : aH} {k n : Nat} (hs : S 56 = false) : WP 7 G S (f + 1) 56 ls st h k n = (WP 7 G S f 57 ls (.int (nI 4) :: st) h k n) := by rw [wp_s dd_7_56 rfl hs]; rfl
theorem dd_7_57 : decode (mB 7) 57 = .ok (.newarray .long, 2) := by decide +kernel
theorem u_7_57 {G : aG} {S : Nat → Bool} {f : Nat} {st : List Value} {ls : aL} {h : aH} {k n : Nat} {x : Int32} (hs : S 57 = false) : WP 7 G S (f + 1) 57 ls (.int x :: st) h k n = (¬ x < 0 ∧ x.toNatClampNeg * 8 ≤ 536870912 ∧ oNew G (cJ x.toNatClampNeg) x.toNatClampNeg (WP 7 G S f) 59 ls st h k n) := by rw [wp_s dd_7_57 rfl hs]; rfl
theorem dd_7_59 : decode (mB 7) 59 = .ok (.putfield 35, 3) := by decide +kernel
theorem u_7_59 {G : aG} {S : Nat → Bool} {f : Nat} {st : List Value} {ls : aL} {h : aH} {k n : Nat} {a : Nat} {x : Nat} (hs : S 59 = false) : WP 7 G S (f + 1) 59 ls (.ref x :: .ref a :: st) h k n = (oH (fput h a 2 9 (.ref x)) (WP 7 G S f) 62 ls st k n) := by rw [wp_s dd_7_59 rfl hs]; rfl
theorem dd_7_62 : decode (mB 7) 62 = .ok (.aload_n 0, 1) := by decide +kernel
theorem u_7_62 {G : aG} {S : Nat → Bool} {f : Nat} {st : List Value} {ls : aL} {h : aH} {k n : Nat} (hs : S 62 = false) : WP 7 G S (f + 1) 62 ls st h k n = (oA (lget ls 0) (WP 7 G S f) 63 ls st h k n) := by rw [wp_s dd_7_62 rfl hs]; rfl
theorem dd_7_63 : decode (mB 7) 63 = .ok (.bipush 7, 2) := by decide +kernel
theorem u_7_63 {G : aG} {S : Nat → Bool} {f : Nat} {st : List Value} {ls : aL} {h : aH} {k n : Nat} (hs : S 63 = false) : WP 7 G S (f + 1) 63 ls st h k n = (WP 7 G S f 65 ls (.int (nI 7) :: st) h k n) := by rw [wp_s dd_7_63 rfl hs]; rfl
theorem dd_7_65 : decode (mB 7) 65 = .ok (.newarray .int, 2) := by decide +kernel
theorem u_7_65 {G : aG} {S : Nat → Bool} {f : Nat} {st : List Value} {ls : aL} {h : aH} {k n : Nat} {x : Int32} (hs : S 65 = false) : WP 7 G S (f + 1) 65 ls (.int x :: st) h k n = (¬ x < 0 ∧ x.toNatClampNeg * 4 ≤ 536870912 ∧ oNew G (cI x.toNatClampNeg) x.toNatClampNeg (WP 7 G S f) 67 ls st h k n) := by rw [wp_s dd_7_65 rfl hs]; rfl
theorem dd_7_67 : decode (mB 7) 67 = .ok (.putfield 38, 3) := by decide +kernel
theorem u_7_67 {G : aG} {S : Nat → Bool} {f : Nat} {st : List Value} {ls : aL} {h : aH} {k n : Nat} {a : Nat} {x : Nat} (hs : S 67 = false) : WP 7 G S (f + 1) 67 ls (.ref x :: .ref a :: st) h k n = (oH (fput h a 2 11 (.ref x)) (WP 7 G S f) 70 ls st k n) := by rw [wp_s dd_7_67 rfl hs]; rfl
theorem dd_7_70 : decode (mB 7) 70 = .ok (.return_, 1) := by decide +kernel
theorem u_7_70 {G : aG} {S : Nat → Bool} {f : Nat} {ls : aL} {h : aH} {k n : Nat} (hs : S 70 = false) : WP 7 G S (f + 1) 70 ls [] h k n = (RET G none h k n) := by rw [wp_s dd_7_70 rfl hs]; rfl
theorem dd_9_0 : decode (mB 9) 0 = .ok (.aload_n 0, 1) := by decide +kernel
theorem u_9_0 {G : aG} {S : Nat → Bool} {f : Nat} {st : List Value} {ls : aL} {h : aH} {k n : Nat} (hs : S 0 = false) : WP 9 G S (f + 1) 0 ls st h k n = (oA (lget ls 0) (WP 9 G S f) 1 ls st h k n) := by rw [wp_s dd_9_0 rfl hs]; rfl
theorem dd_9_1 : decode (mB 9) 1 = .ok (.getfield 41, 3) := by decide +kernel
theorem u_9_1 {G : aG} {S : Nat → Bool} {f : Nat} {st : List Value} {ls : aL} {h : aH} {k n : Nat} {a : Nat} (hs : S 1 = false) : WP 9 G S (f + 1) 1 ls (.ref a :: st) h k n = (oV (fget h a 2 1) (WP 9 G S f) 4 ls st h k n) := by rw [wp_s dd_9_1 rfl hs]; rfl
theorem dd_9_4 : decode (mB 9) 4 = .ok (.lload_n 1, 1) := by decide +kernel
theorem u_9_4 {G : aG} {S : Nat → Bool} {f : Nat} {st : List Value} {ls : aL} {h : aH} {k n : Nat} (hs : S 4 = false) : WP 9 G S (f + 1) 4 ls st h k n = (oJ (lget ls 1) (WP 9 G S f) 5 ls st h k n) := by rw [wp_s dd_9_4 rfl hs]; rfl
theorem dd_9_5 : decode (mB 9) 5 = .ok (.lcmp, 1) := by decide +kernel
theorem u_9_5 {G : aG} {S : Nat → Bool} {f : Nat} {st : List Value} {ls : aL} {h : aH} {k n : Nat} {x y : Int64} (hs : S 5 = false) : WP 9 G S (f + 1) 5 ls (.long y :: .long x :: st) h k n = (WP 9 G S f 6 ls (.int (lg_cmp x y) :: st) h k n) := by rw [wp_s dd_9_5 rfl hs]; rfl
theorem dd_9_6 : decode (mB 9) 6 = .ok (.ifCond .ne 4, 3) := by decide +kernel
theorem u_9_6 {G : aG} {S : Nat → Bool} {f : Nat} {st : List Value} {ls : aL} {h : aH} {k n : Nat} {x : Int32} (hs : S 6 = false) : WP 9 G S (f + 1) 6 ls (.int x :: st) h k n = (if x = nI 0 then WP 9 G S f 9 ls st h k n else WP 9 G S f 10 ls st h k n) := by rw [wp_s dd_9_6 rfl hs]; exact br_iten (c := x = nI 0)
theorem dd_9_9 : decode (mB 9) 9 = .ok (.return_, 1) := by decide +kernel
theorem u_9_9 {G : aG} {S : Nat → Bool} {f : Nat} {ls : aL} {h : aH} {k n : Nat} (hs : S 9 = false) : WP 9 G S (f + 1) 9 ls [] h k n = (RET G none h k n) := by rw [wp_s dd_9_9 rfl hs]; rfl
theorem dd_9_10 : decode (mB 9) 10 = .ok (.aload_n 0, 1) := by decide +kernel
theorem u_9_10 {G : aG} {S : Nat → Bool} {f : Nat} {st : List Value} {ls : aL} {h : aH} {k n : Nat} (hs : S 10 = false) : WP 9 G S (f + 1) 10 ls st h k n = (oA (lget ls 0) (WP 9 G S f) 11 ls st h k n) := by rw [wp_s dd_9_10 rfl hs]; rfl
theorem dd_9_11 : decode (mB 9) 11 = .ok (.lload_n 1, 1) := by decide +kernel
theorem u_9_11 {G : aG} {S : Nat → Bool} {f : Nat} {st : List Value} {ls : aL} {h : aH} {k n : Nat} (hs : S 11 = false) : WP 9 G S (f + 1) 11 ls st h k n = (oJ (lget ls 1) (WP 9 G S f) 12 ls st h k n) := by rw [wp_s dd_9_11 rfl hs]; rfl
theorem dd_9_12 : decode (mB 9) 12 = .ok (.putfield 41, 3) := by decide +kernel
theorem u_9_12 {G : aG} {S : Nat → Bool} {f : Nat} {st : List Value} {ls : aL} {h : aH} {k n : Nat} {a : Nat} {x : Int64} (hs : S 12 = false) : WP 9 G S (f + 1) 12 ls (.long x :: .ref a :: st) h k n = (oH (fput h a 2 1 (.long x)) (WP 9 G S f) 15 ls st k n) := by rw [wp_s dd_9_12 rfl hs]; rfl
theorem dd_9_15 : decode (mB 9) 15 = .ok (.aload_n 0, 1) := by decide +kernel
theorem u_9_15 {G : aG} {S : Nat → Bool} {f : Nat} {st : List Value} {ls : aL} {h : aH} {k n : Nat} (hs : S 15 = false) : WP 9 G S (f + 1) 15 ls st h k n = (oA (lget ls 0) (WP 9 G S f) 16 ls st h k n) := by rw [wp_s dd_9_15 rfl hs]; rfl
theorem dd_9_16 : decode (mB 9) 16 = .ok (.getfield 12, 3) := by decide +kernel
theorem u_9_16 {G : aG} {S : Nat → Bool} {f : Nat} {st : List Value} {ls : aL} {h : aH} {k n : Nat} {a : Nat} (hs : S 16 = false) : WP 9 G S (f + 1) 16 ls (.ref a :: st) h k n = (oV (fget h a 2 0) (WP 9 G S f) 19 ls st h k n) := by rw [wp_s dd_9_16 rfl hs]; rfl
theorem dd_9_19 : decode (mB 9) 19 = .ok (.lload_n 1, 1) := by decide +kernel
theorem u_9_19 {G : aG} {S : Nat → Bool} {f : Nat} {st : List Value} {ls : aL} {h : aH} {k n : Nat} (hs : S 19 = false) : WP 9 G S (f + 1) 19 ls st h k n = (oJ (lget ls 1) (WP 9 G S f) 20 ls st h k n) := by rw [wp_s dd_9_19 rfl hs]; rfl
theorem dd_9_20 : decode (mB 9) 20 = .ok (.invokevirtual 45, 3) := by decide +kernel
theorem u_9_20 {G : aG} {S : Nat → Bool} {f : Nat} {st : List Value} {ls : aL} {h : aH} {k n : Nat} {v1 : Value} {b : Nat} (hs : S 20 = false) : WP 9 G S (f + 1) 20 ls (v1 :: .ref b :: st) h k n = (rcv (hget h b) 5 ∧ CAL G (WP 9 G S f) 10 [.ref b, v1] 23 ls st h k n) := by rw [wp_s dd_9_20 rfl hs]; rfl
theorem dd_9_23 : decode (mB 9) 23 = .ok (.aload_n 0, 1) := by decide +kernel
theorem u_9_23 {G : aG} {S : Nat → Bool} {f : Nat} {st : List Value} {ls : aL} {h : aH} {k n : Nat} (hs : S 23 = false) : WP 9 G S (f + 1) 23 ls st h k n = (oA (lget ls 0) (WP 9 G S f) 24 ls st h k n) := by rw [wp_s dd_9_23 rfl hs]; rfl
theorem dd_9_24 : decode (mB 9) 24 = .ok (.getfield 12, 3) := by decide +kernel
theorem u_9_24 {G : aG} {S : Nat → Bool} {f : Nat} {st : List Value} {ls : aL} {h : aH} {k n : Nat} {a : Nat} (hs : S 24 = false) : WP 9 G S (f + 1) 24 ls (.ref a :: st) h k n = (oV (fget h a 2 0) (WP 9 G S f) 27 ls st h k n) := by rw [wp_s dd_9_24 rfl hs]; rfl
theorem dd_9_27 : decode (mB 9) 27 = .ok (.invokevirtual 49, 3) := by decide +kernel
theorem u_9_27 {G : aG} {S : Nat → Bool} {f : Nat} {st : List Value} {ls : aL} {h : aH} {k n : Nat} {b : Nat} (hs : S 27 = false) : WP 9 G S (f + 1) 27 ls (.ref b :: st) h k n = (rcv (hget h b) 5 ∧ CAL G (WP 9 G S f) 13 [.ref b] 30 ls st h k n) := by rw [wp_s dd_9_27 rfl hs]; rfl
theorem dd_9_30 : decode (mB 9) 30 = .ok (.aload_n 0, 1) := by decide +kernel
theorem u_9_30 {G : aG} {S : Nat → Bool} {f : Nat} {st : List Value} {ls : aL} {h : aH} {k n : Nat} (hs : S 30 = false) : WP 9 G S (f + 1) 30 ls st h k n = (oA (lget ls 0) (WP 9 G S f) 31 ls st h k n) := by rw [wp_s dd_9_30 rfl hs]; rfl
theorem dd_9_31 : decode (mB 9) 31 = .ok (.getfield 12, 3) := by decide +kernel
theorem u_9_31 {G : aG} {S : Nat → Bool} {f : Nat} {st : List Value} {ls : aL} {h : aH} {k n : Nat} {a : Nat} (hs : S 31 = false) : WP 9 G S (f + 1) 31 ls (.ref a :: st) h k n = (oV (fget h a 2 0) (WP 9 G S f) 34 ls st h k n) := by rw [wp_s dd_9_31 rfl hs]; rfl
theorem dd_9_34 : decode (mB 9) 34 = .ok (.invokevirtual 52, 3) := by decide +kernel
theorem u_9_34 {G : aG} {S : Nat → Bool} {f : Nat} {st : List Value} {ls : aL} {h : aH} {k n : Nat} {b : Nat} (hs : S 34 = false) : WP 9 G S (f + 1) 34 ls (.ref b :: st) h k n = (rcv (hget h b) 5 ∧ CAL G (WP 9 G S f) 15 [.ref b] 37 ls st h k n) := by rw [wp_s dd_9_34 rfl hs]; rfl
theorem dd_9_37 : decode (mB 9) 37 = .ok (.aload_n 0, 1) := by decide +kernel
theorem u_9_37 {G : aG} {S : Nat → Bool} {f : Nat} {st : List Value} {ls : aL} {h : aH} {k n : Nat} (hs : S 37 = false) : WP 9 G S (f + 1) 37 ls st h k n = (oA (lget ls 0) (WP 9 G S f) 38 ls st h k n) := by rw [wp_s dd_9_37 rfl hs]; rfl
theorem dd_9_38 : decode (mB 9) 38 = .ok (.iconst 1, 1) := by decide +kernel
theorem u_9_38 {G : aG} {S : Nat → Bool} {f : Nat} {st : List Value} {ls : aL} {h : aH} {k n : Nat} (hs : S 38 = false) : WP 9 G S (f + 1) 38 ls st h k n = (WP 9 G S f 39 ls (.int (nI 1) :: st) h k n) := by rw [wp_s dd_9_38 rfl hs]; rfl
theorem dd_9_39 : decode (mB 9) 39 = .ok (.iconst 4, 1) := by decide +kernel
theorem u_9_39 {G : aG} {S : Nat → Bool} {f : Nat} {st : List Value} {ls : aL} {h : aH} {k n : Nat} (hs : S 39 = false) : WP 9 G S (f + 1) 39 ls st h k n = (WP 9 G S f 40 ls (.int (nI 4) :: st) h k n) := by rw [wp_s dd_9_39 rfl hs]; rfl
theorem dd_9_40 : decode (mB 9) 40 = .ok (.aload_n 0, 1) := by decide +kernel
theorem u_9_40 {G : aG} {S : Nat → Bool} {f : Nat} {st : List Value} {ls : aL} {h : aH} {k n : Nat} (hs : S 40 = false) : WP 9 G S (f + 1) 40 ls st h k n = (oA (lget ls 0) (WP 9 G S f) 41 ls st h k n) := by rw [wp_s dd_9_40 rfl hs]; rfl
theorem dd_9_41 : decode (mB 9) 41 = .ok (.getfield 12, 3) := by decide +kernel
theorem u_9_41 {G : aG} {S : Nat → Bool} {f : Nat} {st : List Value} {ls : aL} {h : aH} {k n : Nat} {a : Nat} (hs : S 41 = false) : WP 9 G S (f + 1) 41 ls (.ref a :: st) h k n = (oV (fget h a 2 0) (WP 9 G S f) 44 ls st h k n) := by rw [wp_s dd_9_41 rfl hs]; rfl
theorem dd_9_44 : decode (mB 9) 44 = .ok (.getfield 55, 3) := by decide +kernel
theorem u_9_44 {G : aG} {S : Nat → Bool} {f : Nat} {st : List Value} {ls : aL} {h : aH} {k n : Nat} {a : Nat} (hs : S 44 = false) : WP 9 G S (f + 1) 44 ls (.ref a :: st) h k n = (oV (fget h a 5 6) (WP 9 G S f) 47 ls st h k n) := by rw [wp_s dd_9_44 rfl hs]; rfl
theorem dd_9_47 : decode (mB 9) 47 = .ok (.bipush 63, 2) := by decide +kernel
theorem u_9_47 {G : aG} {S : Nat → Bool} {f : Nat} {st : List Value} {ls : aL} {h : aH} {k n : Nat} (hs : S 47 = false) : WP 9 G S (f + 1) 47 ls st h k n = (WP 9 G S f 49 ls (.int (nI 63) :: st) h k n) := by rw [wp_s dd_9_47 rfl hs]; rfl
theorem dd_9_49 : decode (mB 9) 49 = .ok (.iadd, 1) := by decide +kernel
theorem u_9_49 {G : aG} {S : Nat → Bool} {f : Nat} {st : List Value} {ls : aL} {h : aH} {k n : Nat} {x y : Int32} (hs : S 49 = false) : WP 9 G S (f + 1) 49 ls (.int y :: .int x :: st) h k n = (WP 9 G S f 50 ls (.int (x + y) :: st) h k n) := by rw [wp_s dd_9_49 rfl hs]; rfl
theorem dd_9_50 : decode (mB 9) 50 = .ok (.bipush 6, 2) := by decide +kernel
theorem u_9_50 {G : aG} {S : Nat → Bool} {f : Nat} {st : List Value} {ls : aL} {h : aH} {k n : Nat} (hs : S 50 = false) : WP 9 G S (f + 1) 50 ls st h k n = (WP 9 G S f 52 ls (.int (nI 6) :: st) h k n) := by rw [wp_s dd_9_50 rfl hs]; rfl
theorem dd_9_52 : decode (mB 9) 52 = .ok (.ishr, 1) := by decide +kernel
theorem u_9_52 {G : aG} {S : Nat → Bool} {f : Nat} {st : List Value} {ls : aL} {h : aH} {k n : Nat} {x y : Int32} (hs : S 52 = false) : WP 9 G S (f + 1) 52 ls (.int y :: .int x :: st) h k n = (WP 9 G S f 53 ls (.int (x >>> (y &&& 31)) :: st) h k n) := by rw [wp_s dd_9_52 rfl hs]; rfl
theorem dd_9_53 : decode (mB 9) 53 = .ok (.invokestatic 59, 3) := by decide +kernel
theorem u_9_53 {G : aG} {S : Nat → Bool} {f : Nat} {st : List Value} {ls : aL} {h : aH} {k n : Nat} {v1 v2 : Value} (hs : S 53 = false) : WP 9 G S (f + 1) 53 ls (v2 :: v1 :: st) h k n = (CAL G (WP 9 G S f) 12 [v1, v2] 56 ls st h k n) := by rw [wp_s dd_9_53 rfl hs]; rfl
theorem dd_9_56 : decode (mB 9) 56 = .ok (.invokestatic 65, 3) := by decide +kernel
theorem u_9_56 {G : aG} {S : Nat → Bool} {f : Nat} {st : List Value} {ls : aL} {h : aH} {k n : Nat} {v1 v2 : Value} (hs : S 56 = false) : WP 9 G S (f + 1) 56 ls (v2 :: v1 :: st) h k n = (CAL G (WP 9 G S f) 22 [v1, v2] 59 ls st h k n) := by rw [wp_s dd_9_56 rfl hs]; rfl
theorem dd_9_59 : decode (mB 9) 59 = .ok (.putfield 68, 3) := by decide +kernel
theorem u_9_59 {G : aG} {S : Nat → Bool} {f : Nat} {st : List Value} {ls : aL} {h : aH} {k n : Nat} {a : Nat} {x : Int32} (hs : S 59 = false) : WP 9 G S (f + 1) 59 ls (.int x :: .ref a :: st) h k n = (oH (fput h a 2 2 (.int x)) (WP 9 G S f) 62 ls st k n) := by rw [wp_s dd_9_59 rfl hs]; rfl
theorem dd_9_62 : decode (mB 9) 62 = .ok (.aload_n 0, 1) := by decide +kernel
theorem u_9_62 {G : aG} {S : Nat → Bool} {f : Nat} {st : List Value} {ls : aL} {h : aH} {k n : Nat} (hs : S 62 = false) : WP 9 G S (f + 1) 62 ls st h k n = (oA (lget ls 0) (WP 9 G S f) 63 ls st h k n) := by rw [wp_s dd_9_62 rfl hs]; rfl
theorem dd_9_63 : decode (mB 9) 63 = .ok (.iconst 0, 1) := by decide +kernel
theorem u_9_63 {G : aG} {S : Nat → Bool} {f : Nat} {st : List Value} {ls : aL} {h : aH} {k n : Nat} (hs : S 63 = false) : WP 9 G S (f + 1) 63 ls st h k n = (WP 9 G S f 64 ls (.int (nI 0) :: st) h k n) := by rw [wp_s dd_9_63 rfl hs]; rfl
theorem dd_9_64 : decode (mB 9) 64 = .ok (.putfield 71, 3) := by decide +kernel
theorem u_9_64 {G : aG} {S : Nat → Bool} {f : Nat} {st : List Value} {ls : aL} {h : aH} {k n : Nat} {a : Nat} {x : Int32} (hs : S 64 = false) : WP 9 G S (f + 1) 64 ls (.int x :: .ref a :: st) h k n = (oH (fput h a 2 3 (.int x)) (WP 9 G S f) 67 ls st k n) := by rw [wp_s dd_9_64 rfl hs]; rfl
theorem dd_9_67 : decode (mB 9) 67 = .ok (.aload_n 0, 1) := by decide +kernel
theorem u_9_67 {G : aG} {S : Nat → Bool} {f : Nat} {st : List Value} {ls : aL} {h : aH} {k n : Nat} (hs : S 67 = false) : WP 9 G S (f + 1) 67 ls st h k n = (oA (lget ls 0) (WP 9 G S f) 68 ls st h k n) := by rw [wp_s dd_9_67 rfl hs]; rfl
theorem dd_9_68 : decode (mB 9) 68 = .ok (.iconst (-1), 1) := by decide +kernel
theorem u_9_68 {G : aG} {S : Nat → Bool} {f : Nat} {st : List Value} {ls : aL} {h : aH} {k n : Nat} (hs : S 68 = false) : WP 9 G S (f + 1) 68 ls st h k n = (WP 9 G S f 69 ls (.int (-1) :: st) h k n) := by rw [wp_s dd_9_68 rfl hs]; rfl
theorem dd_9_69 : decode (mB 9) 69 = .ok (.putfield 74, 3) := by decide +kernel
theorem u_9_69 {G : aG} {S : Nat → Bool} {f : Nat} {st : List Value} {ls : aL} {h : aH} {k n : Nat} {a : Nat} {x : Int32} (hs : S 69 = false) : WP 9 G S (f + 1) 69 ls (.int x :: .ref a :: st) h k n = (oH (fput h a 2 12 (.int x)) (WP 9 G S f) 72 ls st k n) := by rw [wp_s dd_9_69 rfl hs]; rfl
theorem dd_9_72 : decode (mB 9) 72 = .ok (.aload_n 0, 1) := by decide +kernel
theorem u_9_72 {G : aG} {S : Nat → Bool} {f : Nat} {st : List Value} {ls : aL} {h : aH} {k n : Nat} (hs : S 72 = false) : WP 9 G S (f + 1) 72 ls st h k n = (oA (lget ls 0) (WP 9 G S f) 73 ls st h k n) := by rw [wp_s dd_9_72 rfl hs]; rfl
theorem dd_9_73 : decode (mB 9) 73 = .ok (.getfield 32, 3) := by decide +kernel
theorem u_9_73 {G : aG} {S : Nat → Bool} {f : Nat} {st : List Value} {ls : aL} {h : aH} {k n : Nat} {a : Nat} (hs : S 73 = false) : WP 9 G S (f + 1) 73 ls (.ref a :: st) h k n = (oV (fget h a 2 8) (WP 9 G S f) 76 ls st h k n) := by rw [wp_s dd_9_73 rfl hs]; rfl
theorem dd_9_76 : decode (mB 9) 76 = .ok (.iconst (-1), 1) := by decide +kernel
theorem u_9_76 {G : aG} {S : Nat → Bool} {f : Nat} {st : List Value} {ls : aL} {h : aH} {k n : Nat} (hs : S 76 = false) : WP 9 G S (f + 1) 76 ls st h k n = (WP 9 G S f 77 ls (.int (-1) :: st) h k n) := by rw [wp_s dd_9_76 rfl hs]; rfl
theorem dd_9_77 : decode (mB 9) 77 = .ok (.invokestatic 77, 3) := by decide +kernel
theorem u_9_77 {G : aG} {S : Nat → Bool} {f : Nat} {st : List Value} {ls : aL} {h : aH} {k n : Nat} {v1 v2 : Value} (hs : S 77 = false) : WP 9 G S (f + 1) 77 ls (v2 :: v1 :: st) h k n = (CAL G (WP 9 G S f) 23 [v1, v2] 80 ls st h k n) := by rw [wp_s dd_9_77 rfl hs]; rfl
theorem dd_9_80 : decode (mB 9) 80 = .ok (.aload_n 0, 1) := by decide +kernel
theorem u_9_80 {G : aG} {S : Nat → Bool} {f : Nat} {st : List Value} {ls : aL} {h : aH} {k n : Nat} (hs : S 80 = false) : WP 9 G S (f + 1) 80 ls st h k n = (oA (lget ls 0) (WP 9 G S f) 81 ls st h k n) := by rw [wp_s dd_9_80 rfl hs]; rfl
theorem dd_9_81 : decode (mB 9) 81 = .ok (.getfield 35, 3) := by decide +kernel
theorem u_9_81 {G : aG} {S : Nat → Bool} {f : Nat} {st : List Value} {ls : aL} {h : aH} {k n : Nat} {a : Nat} (hs : S 81 = false) : WP 9 G S (f + 1) 81 ls (.ref a :: st) h k n = (oV (fget h a 2 9) (WP 9 G S f) 84 ls st h k n) := by rw [wp_s dd_9_81 rfl hs]; rfl
theorem dd_9_84 : decode (mB 9) 84 = .ok (.lconst 0, 1) := by decide +kernel
theorem u_9_84 {G : aG} {S : Nat → Bool} {f : Nat} {st : List Value} {ls : aL} {h : aH} {k n : Nat} (hs : S 84 = false) : WP 9 G S (f + 1) 84 ls st h k n = (WP 9 G S f 85 ls (.long (lN 0) :: st) h k n) := by rw [wp_s dd_9_84 rfl hs]; rfl
theorem dd_9_85 : decode (mB 9) 85 = .ok (.invokestatic 83, 3) := by decide +kernel
theorem u_9_85 {G : aG} {S : Nat → Bool} {f : Nat} {st : List Value} {ls : aL} {h : aH} {k n : Nat} {v1 v2 : Value} (hs : S 85 = false) : WP 9 G S (f + 1) 85 ls (v2 :: v1 :: st) h k n = (CAL G (WP 9 G S f) 3 [v1, v2] 88 ls st h k n) := by rw [wp_s dd_9_85 rfl hs]; rfl
theorem dd_9_88 : decode (mB 9) 88 = .ok (.aload_n 0, 1) := by decide +kernel
theorem u_9_88 {G : aG} {S : Nat → Bool} {f : Nat} {st : List Value} {ls : aL} {h : aH} {k n : Nat} (hs : S 88 = false) : WP 9 G S (f + 1) 88 ls st h k n = (oA (lget ls 0) (WP 9 G S f) 89 ls st h k n) := by rw [wp_s dd_9_88 rfl hs]; rfl
theorem dd_9_89 : decode (mB 9) 89 = .ok (.getfield 35, 3) := by decide +kernel
theorem u_9_89 {G : aG} {S : Nat → Bool} {f : Nat} {st : List Value} {ls : aL} {h : aH} {k n : Nat} {a : Nat} (hs : S 89 = false) : WP 9 G S (f + 1) 89 ls (.ref a :: st) h k n = (oV (fget h a 2 9) (WP 9 G S f) 92 ls st h k n) := by rw [wp_s dd_9_89 rfl hs]; rfl
theorem dd_9_92 : decode (mB 9) 92 = .ok (.iconst 0, 1) := by decide +kernel
theorem u_9_92 {G : aG} {S : Nat → Bool} {f : Nat} {st : List Value} {ls : aL} {h : aH} {k n : Nat} (hs : S 92 = false) : WP 9 G S (f + 1) 92 ls st h k n = (WP 9 G S f 93 ls (.int (nI 0) :: st) h k n) := by rw [wp_s dd_9_92 rfl hs]; rfl
theorem dd_9_93 : decode (mB 9) 93 = .ok (.lconst 1, 1) := by decide +kernel
theorem u_9_93 {G : aG} {S : Nat → Bool} {f : Nat} {st : List Value} {ls : aL} {h : aH} {k n : Nat} (hs : S 93 = false) : WP 9 G S (f + 1) 93 ls st h k n = (WP 9 G S f 94 ls (.long (lN 1) :: st) h k n) := by rw [wp_s dd_9_93 rfl hs]; rfl
theorem dd_9_94 : decode (mB 9) 94 = .ok (.lastore, 1) := by decide +kernel
theorem u_9_94 {G : aG} {S : Nat → Bool} {f : Nat} {st : List Value} {ls : aL} {h : aH} {k n : Nat} {i : Int32} {x : Int64} {a : Nat} (hs : S 94 = false) : WP 9 G S (f + 1) 94 ls (.long x :: .int i :: .ref a :: st) h k n = (oJst (jget h a) a i x (WP 9 G S f) 95 ls st h k n) := by rw [wp_s dd_9_94 rfl hs]; rfl
theorem dd_9_95 : decode (mB 9) 95 = .ok (.aload_n 0, 1) := by decide +kernel
theorem u_9_95 {G : aG} {S : Nat → Bool} {f : Nat} {st : List Value} {ls : aL} {h : aH} {k n : Nat} (hs : S 95 = false) : WP 9 G S (f + 1) 95 ls st h k n = (oA (lget ls 0) (WP 9 G S f) 96 ls st h k n) := by rw [wp_s dd_9_95 rfl hs]; rfl
theorem dd_9_96 : decode (mB 9) 96 = .ok (.aload_n 0, 1) := by decide +kernel
theorem u_9_96 {G : aG} {S : Nat → Bool} {f : Nat} {st : List Value} {ls : aL} {h : aH} {k n : Nat} (hs : S 96 = false) : WP 9 G S (f + 1) 96 ls st h k n = (oA (lget ls 0) (WP 9 G S f) 97 ls st h k n) := by rw [wp_s dd_9_96 rfl hs]; rfl
theorem dd_9_97 : decode (mB 9) 97 = .ok (.getfield 12, 3) := by decide +kernel
theorem u_9_97 {G : aG} {S : Nat → Bool} {f : Nat} {st : List Value} {ls : aL} {h : aH} {k n : Nat} {a : Nat} (hs : S 97 = false) : WP 9 G S (f + 1) 97 ls (.ref a :: st) h k n = (oV (fget h a 2 0) (WP 9 G S f) 100 ls st h k n) := by rw [wp_s dd_9_97 rfl hs]; rfl
theorem dd_9_100 : decode (mB 9) 100 = .ok (.getfield 86, 3) := by decide +kernel
theorem u_9_100 {G : aG} {S : Nat → Bool} {f : Nat} {st : List Value} {ls : aL} {h : aH} {k n : Nat} {a : Nat} (hs : S 100 = false) : WP 9 G S (f + 1) 100 ls (.ref a :: st) h k n = (oV (fget h a 5 8) (WP 9 G S f) 103 ls st h k n) := by rw [wp_s dd_9_100 rfl hs]; rfl
theorem dd_9_103 : decode (mB 9) 103 = .ok (.iconst 0, 1) := by decide +kernel
theorem u_9_103 {G : aG} {S : Nat → Bool} {f : Nat} {st : List Value} {ls : aL} {h : aH} {k n : Nat} (hs : S 103 = false) : WP 9 G S (f + 1) 103 ls st h k n = (WP 9 G S f 104 ls (.int (nI 0) :: st) h k n) := by rw [wp_s dd_9_103 rfl hs]; rfl
theorem dd_9_104 : decode (mB 9) 104 = .ok (.iaload, 1) := by decide +kernel
theorem u_9_104 {G : aG} {S : Nat → Bool} {f : Nat} {st : List Value} {ls : aL} {h : aH} {k n : Nat} {i : Int32} {a : Nat} (hs : S 104 = false) : WP 9 G S (f + 1) 104 ls (.int i :: .ref a :: st) h k n = (oIld (iget h a 1) i (WP 9 G S f) 105 ls st h k n) := by rw [wp_s dd_9_104 rfl hs]; rfl
theorem dd_9_105 : decode (mB 9) 105 = .ok (.putfield 87, 3) := by decide +kernel
theorem u_9_105 {G : aG} {S : Nat → Bool} {f : Nat} {st : List Value} {ls : aL} {h : aH} {k n : Nat} {a : Nat} {x : Int32} (hs : S 105 = false) : WP 9 G S (f + 1) 105 ls (.int x :: .ref a :: st) h k n = (oH (fput h a 2 10 (.int x)) (WP 9 G S f) 108 ls st k n) := by rw [wp_s dd_9_105 rfl hs]; rfl
theorem dd_9_108 : decode (mB 9) 108 = .ok (.aload_n 0, 1) := by decide +kernel
theorem u_9_108 {G : aG} {S : Nat → Bool} {f : Nat} {st : List Value} {ls : aL} {h : aH} {k n : Nat} (hs : S 108 = false) : WP 9 G S (f + 1) 108 ls st h k n = (oA (lget ls 0) (WP 9 G S f) 109 ls st h k n) := by rw [wp_s dd_9_108 rfl hs]; rfl
theorem dd_9_109 : decode (mB 9) 109 = .ok (.invokevirtual 90, 3) := by decide +kernel
theorem u_9_109 {G : aG} {S : Nat → Bool} {f : Nat} {st : List Value} {ls : aL} {h : aH} {k n : Nat} {b : Nat} (hs : S 109 = false) : WP 9 G S (f + 1) 109 ls (.ref b :: st) h k n = (rcv (hget h b) 2 ∧ CAL G (WP 9 G S f) 24 [.ref b] 112 ls st h k n) := by rw [wp_s dd_9_109 rfl hs]; rfl
theorem dd_9_112 : decode (mB 9) 112 = .ok (.pop, 1) := by decide +kernel
theorem u_9_112 {G : aG} {S : Nat → Bool} {f : Nat} {st : List Value} {ls : aL} {h : aH} {k n : Nat} {v : Value} (hs : S 112 = false) : WP 9 G S (f + 1) 112 ls (v :: st) h k n = (cond (cat1 v) (WP 9 G S f 113 ls st h k n) False) := by rw [wp_s dd_9_112 rfl hs]; rfl
theorem dd_9_113 : decode (mB 9) 113 = .ok (.return_, 1) := by decide +kernel
theorem u_9_113 {G : aG} {S : Nat → Bool} {f : Nat} {ls : aL} {h : aH} {k n : Nat} (hs : S 113 = false) : WP 9 G S (f + 1) 113 ls [] h k n = (RET G none h k n) := by rw [wp_s dd_9_113 rfl hs]; rfl
theorem dd_24_0 : decode (mB 24) 0 = .ok (.aload_n 0, 1) := by decide +kernel
theorem u_24_0 {G : aG} {S : Nat → Bool} {f : Nat} {st : List Value} {ls : aL} {h : aH} {k n : Nat} (hs : S 0 = false) : WP 24 G S (f + 1) 0 ls st h k n = (oA (lget ls 0) (WP 24 G S f) 1 ls st h k n) := by rw [wp_s dd_24_0 rfl hs]; rfl
theorem dd_24_1 : decode (mB 24) 1 = .ok (.invokevirtual 119, 3) := by decide +kernel
theorem u_24_1 {G : aG} {S : Nat → Bool} {f : Nat} {st : List Value} {ls : aL} {h : aH} {k n : Nat} {b : Nat} (hs : S 1 = false) : WP 24 G S (f + 1) 1 ls (.ref b :: st) h k n = (rcv (hget h b) 2 ∧ CAL G (WP 24 G S f) 25 [.ref b] 4 ls st h k n) := by rw [wp_s dd_24_1 rfl hs]; rfl
theorem dd_24_4 : decode (mB 24) 4 = .ok (.istore_n 1, 1) := by decide +kernel
theorem u_24_4 {G : aG} {S : Nat → Bool} {f : Nat} {st : List Value} {ls : aL} {h : aH} {k n : Nat} {x : Int32} (hs : S 4 = false) : WP 24 G S (f + 1) 4 ls (.int x :: st) h k n = (WP 24 G S f 5 (lput1 ls 1 (.int x)) st h k n) := by rw [wp_s dd_24_4 rfl hs]; rfl
theorem dd_24_5 : decode (mB 24) 5 = .ok (.aload_n 0, 1) := by decide +kernel
theorem u_24_5 {G : aG} {S : Nat → Bool} {f : Nat} {st : List Value} {ls : aL} {h : aH} {k n : Nat} (hs : S 5 = false) : WP 24 G S (f + 1) 5 ls st h k n = (oA (lget ls 0) (WP 24 G S f) 6 ls st h k n) := by rw [wp_s dd_24_5 rfl hs]; rfl
theorem dd_24_6 : decode (mB 24) 6 = .ok (.getfield 32, 3) := by decide +kernel
theorem u_24_6 {G : aG} {S : Nat → Bool} {f : Nat} {st : List Value} {ls : aL} {h : aH} {k n : Nat} {a : Nat} (hs : S 6 = false) : WP 24 G S (f + 1) 6 ls (.ref a :: st) h k n = (oV (fget h a 2 8) (WP 24 G S f) 9 ls st h k n) := by rw [wp_s dd_24_6 rfl hs]; rfl
theorem dd_24_9 : decode (mB 24) 9 = .ok (.iload_n 1, 1) := by decide +kernel
theorem u_24_9 {G : aG} {S : Nat → Bool} {f : Nat} {st : List Value} {ls : aL} {h : aH} {k n : Nat} (hs : S 9 = false) : WP 24 G S (f + 1) 9 ls st h k n = (oI (lget ls 1) (WP 24 G S f) 10 ls st h k n) := by rw [wp_s dd_24_9 rfl hs]; rfl
theorem dd_24_10 : decode (mB 24) 10 = .ok (.iaload, 1) := by decide +kernel
theorem u_24_10 {G : aG} {S : Nat → Bool} {f : Nat} {st : List Value} {ls : aL} {h : aH} {k n : Nat} {i : Int32} {a : Nat} (hs : S 10 = false) : WP 24 G S (f + 1) 10 ls (.int i :: .ref a :: st) h k n = (oIld (iget h a 1) i (WP 24 G S f) 11 ls st h k n) := by rw [wp_s dd_24_10 rfl hs]; rfl
theorem dd_24_11 : decode (mB 24) 11 = .ok (.istore_n 2, 1) := by decide +kernel
theorem u_24_11 {G : aG} {S : Nat → Bool} {f : Nat} {st : List Value} {ls : aL} {h : aH} {k n : Nat} {x : Int32} (hs : S 11 = false) : WP 24 G S (f + 1) 11 ls (.int x :: st) h k n = (WP 24 G S f 12 (lput1 ls 2 (.int x)) st h k n) := by rw [wp_s dd_24_11 rfl hs]; rfl
theorem dd_24_12 : decode (mB 24) 12 = .ok (.iconst 0, 1) := by decide +kernel
theorem u_24_12 {G : aG} {S : Nat → Bool} {f : Nat} {st : List Value} {ls : aL} {h : aH} {k n : Nat} (hs : S 12 = false) : WP 24 G S (f + 1) 12 ls st h k n = (WP 24 G S f 13 ls (.int (nI 0) :: st) h k n) := by rw [wp_s dd_24_12 rfl hs]; rfl
theorem dd_24_13 : decode (mB 24) 13 = .ok (.istore_n 3, 1) := by decide +kernel
theorem u_24_13 {G : aG} {S : Nat → Bool} {f : Nat} {st : List Value} {ls : aL} {h : aH} {k n : Nat} {x : Int32} (hs : S 13 = false) : WP 24 G S (f + 1) 13 ls (.int x :: st) h k n = (WP 24 G S f 14 (lput1 ls 3 (.int x)) st h k n) := by rw [wp_s dd_24_13 rfl hs]; rfl
theorem dd_24_14 : decode (mB 24) 14 = .ok (.iload_n 3, 1) := by decide +kernel
theorem u_24_14 {G : aG} {S : Nat → Bool} {f : Nat} {st : List Value} {ls : aL} {h : aH} {k n : Nat} (hs : S 14 = false) : WP 24 G S (f + 1) 14 ls st h k n = (oI (lget ls 3) (WP 24 G S f) 15 ls st h k n) := by rw [wp_s dd_24_14 rfl hs]; rfl
theorem v_24_14 {G : aG} {S : Nat → Bool} {f : Nat} {st : List Value} {ls : aL} {h : aH} {k n : Nat} : WQ 24 G S f 14 ls st h k n = (oI (lget ls 3) (WP 24 G S f) 15 ls st h k n) := by rw [wq_s dd_24_14 rfl]; rfl
theorem dd_24_15 : decode (mB 24) 15 = .ok (.aload_n 0, 1) := by decide +kernel
theorem u_24_15 {G : aG} {S : Nat → Bool} {f : Nat} {st : List Value} {ls : aL} {h : aH} {k n : Nat} (hs : S 15 = false) : WP 24 G S (f + 1) 15 ls st h k n = (oA (lget ls 0) (WP 24 G S f) 16 ls st h k n) := by rw [wp_s dd_24_15 rfl hs]; rfl
theorem dd_24_16 : decode (mB 24) 16 = .ok (.getfield 71, 3) := by decide +kernel
theorem u_24_16 {G : aG} {S : Nat → Bool} {f : Nat} {st : List Value} {ls : aL} {h : aH} {k n : Nat} {a : Nat} (hs : S 16 = false) : WP 24 G S (f + 1) 16 ls (.ref a :: st) h k n = (oV (fget h a 2 3) (WP 24 G S f) 19 ls st h k n) := by rw [wp_s dd_24_16 rfl hs]; rfl
theorem dd_24_19 : decode (mB 24) 19 = .ok (.if_icmp .ge 38, 3) := by decide +kernel
theorem u_24_19 {G : aG} {S : Nat → Bool} {f : Nat} {st : List Value} {ls : aL} {h : aH} {k n : Nat} {x y : Int32} (hs : S 19 = false) : WP 24 G S (f + 1) 19 ls (.int y :: .int x :: st) h k n = (if y ≤ x then WP 24 G S f 57 ls st h k n else WP 24 G S f 22 ls st h k n) := by rw [wp_s dd_24_19 rfl hs]; exact br_ite (c := y ≤ x)
theorem dd_24_22 : decode (mB 24) 22 = .ok (.iload_n 2, 1) := by decide +kernel
theorem u_24_22 {G : aG} {S : Nat → Bool} {f : Nat} {st : List Value} {ls : aL} {h : aH} {k n : Nat} (hs : S 22 = false) : WP 24 G S (f + 1) 22 ls st h k n = (oI (lget ls 2) (WP 24 G S f) 23 ls st h k n) := by rw [wp_s dd_24_22 rfl hs]; rfl
theorem dd_24_23 : decode (mB 24) 23 = .ok (.ifCond .lt 34, 3) := by decide +kernel
theorem u_24_23 {G : aG} {S : Nat → Bool} {f : Nat} {st : List Value} {ls : aL} {h : aH} {k n : Nat} {x : Int32} (hs : S 23 = false) : WP 24 G S (f + 1) 23 ls (.int x :: st) h k n = (if x < nI 0 then WP 24 G S f 57 ls st h k n else WP 24 G S f 26 ls st h k n) := by rw [wp_s dd_24_23 rfl hs]; exact br_ite (c := x < nI 0)
theorem dd_24_26 : decode (mB 24) 26 = .ok (.iload_n 2, 1) := by decide +kernel
theorem u_24_26 {G : aG} {S : Nat → Bool} {f : Nat} {st : List Value} {ls : aL} {h : aH} {k n : Nat} (hs : S 26 = false) : WP 24 G S (f + 1) 26 ls st h k n = (oI (lget ls 2) (WP 24 G S f) 27 ls st h k n) := by rw [wp_s dd_24_26 rfl hs]; rfl
theorem dd_24_27 : decode (mB 24) 27 = .ok (.aload_n 0, 1) := by decide +kernel
theorem u_24_27 {G : aG} {S : Nat → Bool} {f : Nat} {st : List Value} {ls : aL} {h : aH} {k n : Nat} (hs : S 27 = false) : WP 24 G S (f + 1) 27 ls st h k n = (oA (lget ls 0) (WP 24 G S f) 28 ls st h k n) := by rw [wp_s dd_24_27 rfl hs]; rfl
theorem dd_24_28 : decode (mB 24) 28 = .ok (.getfield 71, 3) := by decide +kernel
theorem u_24_28 {G : aG} {S : Nat → Bool} {f : Nat} {st : List Value} {ls : aL} {h : aH} {k n : Nat} {a : Nat} (hs : S 28 = false) : WP 24 G S (f + 1) 28 ls (.ref a :: st) h k n = (oV (fget h a 2 3) (WP 24 G S f) 31 ls st h k n) := by rw [wp_s dd_24_28 rfl hs]; rfl
theorem dd_24_31 : decode (mB 24) 31 = .ok (.if_icmp .ge 26, 3) := by decide +kernel
theorem u_24_31 {G : aG} {S : Nat → Bool} {f : Nat} {st : List Value} {ls : aL} {h : aH} {k n : Nat} {x y : Int32} (hs : S 31 = false) : WP 24 G S (f + 1) 31 ls (.int y :: .int x :: st) h k n = (if y ≤ x then WP 24 G S f 57 ls st h k n else WP 24 G S f 34 ls st h k n) := by rw [wp_s dd_24_31 rfl hs]; exact br_ite (c := y ≤ x)
theorem dd_24_34 : decode (mB 24) 34 = .ok (.aload_n 0, 1) := by decide +kernel
theorem u_24_34 {G : aG} {S : Nat → Bool} {f : Nat} {st : List Value} {ls : aL} {h : aH} {k n : Nat} (hs : S 34 = false) : WP 24 G S (f + 1) 34 ls st h k n = (oA (lget ls 0) (WP 24 G S f) 35 ls st h k n) := by rw [wp_s dd_24_34 rfl hs]; rfl
theorem dd_24_35 : decode (mB 24) 35 = .ok (.iload_n 2, 1) := by decide +kernel
theorem u_24_35 {G : aG} {S : Nat → Bool} {f : Nat} {st : List Value} {ls : aL} {h : aH} {k n : Nat} (hs : S 35 = false) : WP 24 G S (f + 1) 35 ls st h k n = (oI (lget ls 2) (WP 24 G S f) 36 ls st h k n) := by rw [wp_s dd_24_35 rfl hs]; rfl
theorem dd_24_36 : decode (mB 24) 36 = .ok (.invokevirtual 122, 3) := by decide +kernel
theorem u_24_36 {G : aG} {S : Nat → Bool} {f : Nat} {st : List Value} {ls : aL} {h : aH} {k n : Nat} {v1 : Value} {b : Nat} (hs : S 36 = false) : WP 24 G S (f + 1) 36 ls (v1 :: .ref b :: st) h k n = (rcv (hget h b) 2 ∧ CAL G (WP 24 G S f) 26 [.ref b, v1] 39 ls st h k n) := by rw [wp_s dd_24_36 rfl hs]; rfl
theorem dd_24_39 : decode (mB 24) 39 = .ok (.ifCond .eq 5, 3) := by decide +kernel
theorem u_24_39 {G : aG} {S : Nat → Bool} {f : Nat} {st : List Value} {ls : aL} {h : aH} {k n : Nat} {x : Int32} (hs : S 39 = false) : WP 24 G S (f + 1) 39 ls (.int x :: st) h k n = (if x = nI 0 then WP 24 G S f 44 ls st h k n else WP 24 G S f 42 ls st h k n) := by rw [wp_s dd_24_39 rfl hs]; exact br_ite (c := x = nI 0)
theorem dd_24_42 : decode (mB 24) 42 = .ok (.iload_n 2, 1) := by decide +kernel
theorem u_24_42 {G : aG} {S : Nat → Bool} {f : Nat} {st : List Value} {ls : aL} {h : aH} {k n : Nat} (hs : S 42 = false) : WP 24 G S (f + 1) 42 ls st h k n = (oI (lget ls 2) (WP 24 G S f) 43 ls st h k n) := by rw [wp_s dd_24_42 rfl hs]; rfl
theorem dd_24_43 : decode (mB 24) 43 = .ok (.ireturn, 1) := by decide +kernel
theorem u_24_43 {G : aG} {S : Nat → Bool} {f : Nat} {ls : aL} {h : aH} {k n : Nat} {x : Int32} (hs : S 43 = false) : WP 24 G S (f + 1) 43 ls [.int x] h k n = (RET G (some (.int x)) h k n) := by rw [wp_s dd_24_43 rfl hs]; rfl
theorem dd_24_44 : decode (mB 24) 44 = .ok (.aload_n 0, 1) := by decide +kernel
theorem u_24_44 {G : aG} {S : Nat → Bool} {f : Nat} {st : List Value} {ls : aL} {h : aH} {k n : Nat} (hs : S 44 = false) : WP 24 G S (f + 1) 44 ls st h k n = (oA (lget ls 0) (WP 24 G S f) 45 ls st h k n) := by rw [wp_s dd_24_44 rfl hs]; rfl
theorem dd_24_45 : decode (mB 24) 45 = .ok (.getfield 29, 3) := by decide +kernel
theorem u_24_45 {G : aG} {S : Nat → Bool} {f : Nat} {st : List Value} {ls : aL} {h : aH} {k n : Nat} {a : Nat} (hs : S 45 = false) : WP 24 G S (f + 1) 45 ls (.ref a :: st) h k n = (oV (fget h a 2 7) (WP 24 G S f) 48 ls st h k n) := by rw [wp_s dd_24_45 rfl hs]; rfl
theorem dd_24_48 : decode (mB 24) 48 = .ok (.iload_n 2, 1) := by decide +kernel
theorem u_24_48 {G : aG} {S : Nat → Bool} {f : Nat} {st : List Value} {ls : aL} {h : aH} {k n : Nat} (hs : S 48 = false) : WP 24 G S (f + 1) 48 ls st h k n = (oI (lget ls 2) (WP 24 G S f) 49 ls st h k n) := by rw [wp_s dd_24_48 rfl hs]; rfl
theorem dd_24_49 : decode (mB 24) 49 = .ok (.iaload, 1) := by decide +kernel
theorem u_24_49 {G : aG} {S : Nat → Bool} {f : Nat} {st : List Value} {ls : aL} {h : aH} {k n : Nat} {i : Int32} {a : Nat} (hs : S 49 = false) : WP 24 G S (f + 1) 49 ls (.int i :: .ref a :: st) h k n = (oIld (iget h a 1) i (WP 24 G S f) 50 ls st h k n) := by rw [wp_s dd_24_49 rfl hs]; rfl
theorem dd_24_50 : decode (mB 24) 50 = .ok (.istore_n 2, 1) := by decide +kernel
theorem u_24_50 {G : aG} {S : Nat → Bool} {f : Nat} {st : List Value} {ls : aL} {h : aH} {k n : Nat} {x : Int32} (hs : S 50 = false) : WP 24 G S (f + 1) 50 ls (.int x :: st) h k n = (WP 24 G S f 51 (lput1 ls 2 (.int x)) st h k n) := by rw [wp_s dd_24_50 rfl hs]; rfl
theorem dd_24_51 : decode (mB 24) 51 = .ok (.iinc 3 1, 3) := by decide +kernel
theorem u_24_51 {G : aG} {S : Nat → Bool} {f : Nat} {st : List Value} {ls : aL} {h : aH} {k n : Nat} (hs : S 51 = false) : WP 24 G S (f + 1) 51 ls st h k n = (oInc (lget ls 3) (nI 1) (WP 24 G S f) 3 54 ls st h k n) := by rw [wp_s dd_24_51 rfl hs]; rfl
theorem dd_24_54 : decode (mB 24) 54 = .ok (.goto (-40), 3) := by decide +kernel
theorem u_24_54 {G : aG} {S : Nat → Bool} {f : Nat} {st : List Value} {ls : aL} {h : aH} {k n : Nat} (hs : S 54 = false) : WP 24 G S (f + 1) 54 ls st h k n = (WP 24 G S f 14 ls st h k n) := by rw [wp_s dd_24_54 rfl hs]; rfl
theorem dd_24_57 : decode (mB 24) 57 = .ok (.aload_n 0, 1) := by decide +kernel
theorem u_24_57 {G : aG} {S : Nat → Bool} {f : Nat} {st : List Value} {ls : aL} {h : aH} {k n : Nat} (hs : S 57 = false) : WP 24 G S (f + 1) 57 ls st h k n = (oA (lget ls 0) (WP 24 G S f) 58 ls st h k n) := by rw [wp_s dd_24_57 rfl hs]; rfl
theorem dd_24_58 : decode (mB 24) 58 = .ok (.getfield 71, 3) := by decide +kernel
theorem u_24_58 {G : aG} {S : Nat → Bool} {f : Nat} {st : List Value} {ls : aL} {h : aH} {k n : Nat} {a : Nat} (hs : S 58 = false) : WP 24 G S (f + 1) 58 ls (.ref a :: st) h k n = (oV (fget h a 2 3) (WP 24 G S f) 61 ls st h k n) := by rw [wp_s dd_24_58 rfl hs]; rfl
theorem dd_24_61 : decode (mB 24) 61 = .ok (.ldc 126, 2) := by decide +kernel
theorem u_24_61 {G : aG} {S : Nat → Bool} {f : Nat} {st : List Value} {ls : aL} {h : aH} {k n : Nat} (hs : S 61 = false) : WP 24 G S (f + 1) 61 ls st h k n = (WP 24 G S f 63 ls (.int (nI 65536) :: st) h k n) := by rw [wp_s dd_24_61 rfl hs]; rfl
theorem dd_24_63 : decode (mB 24) 63 = .ok (.if_icmp .ge 11, 3) := by decide +kernel
theorem u_24_63 {G : aG} {S : Nat → Bool} {f : Nat} {st : List Value} {ls : aL} {h : aH} {k n : Nat} {x y : Int32} (hs : S 63 = false) : WP 24 G S (f + 1) 63 ls (.int y :: .int x :: st) h k n = (if y ≤ x then WP 24 G S f 74 ls st h k n else WP 24 G S f 66 ls st h k n) := by rw [wp_s dd_24_63 rfl hs]; exact br_ite (c := y ≤ x)
theorem dd_24_66 : decode (mB 24) 66 = .ok (.aload_n 0, 1) := by decide +kernel
theorem u_24_66 {G : aG} {S : Nat → Bool} {f : Nat} {st : List Value} {ls : aL} {h : aH} {k n : Nat} (hs : S 66 = false) : WP 24 G S (f + 1) 66 ls st h k n = (oA (lget ls 0) (WP 24 G S f) 67 ls st h k n) := by rw [wp_s dd_24_66 rfl hs]; rfl
theorem dd_24_67 : decode (mB 24) 67 = .ok (.iload_n 1, 1) := by decide +kernel
theorem u_24_67 {G : aG} {S : Nat → Bool} {f : Nat} {st : List Value} {ls : aL} {h : aH} {k n : Nat} (hs : S 67 = false) : WP 24 G S (f + 1) 67 ls st h k n = (oI (lget ls 1) (WP 24 G S f) 68 ls st h k n) := by rw [wp_s dd_24_67 rfl hs]; rfl
theorem dd_24_68 : decode (mB 24) 68 = .ok (.invokevirtual 127, 3) := by decide +kernel
theorem u_24_68 {G : aG} {S : Nat → Bool} {f : Nat} {st : List Value} {ls : aL} {h : aH} {k n : Nat} {v1 : Value} {b : Nat} (hs : S 68 = false) : WP 24 G S (f + 1) 68 ls (v1 :: .ref b :: st) h k n = (rcv (hget h b) 2 ∧ CAL G (WP 24 G S f) 27 [.ref b, v1] 71 ls st h k n) := by rw [wp_s dd_24_68 rfl hs]; rfl
theorem dd_24_71 : decode (mB 24) 71 = .ok (.goto 4, 3) := by decide +kernel
theorem u_24_71 {G : aG} {S : Nat → Bool} {f : Nat} {st : List Value} {ls : aL} {h : aH} {k n : Nat} (hs : S 71 = false) : WP 24 G S (f + 1) 71 ls st h k n = (WP 24 G S f 75 ls st h k n) := by rw [wp_s dd_24_71 rfl hs]; rfl
theorem dd_24_74 : decode (mB 24) 74 = .ok (.iconst (-1), 1) := by decide +kernel
theorem u_24_74 {G : aG} {S : Nat → Bool} {f : Nat} {st : List Value} {ls : aL} {h : aH} {k n : Nat} (hs : S 74 = false) : WP 24 G S (f + 1) 74 ls st h k n = (WP 24 G S f 75 ls (.int (-1) :: st) h k n) := by rw [wp_s dd_24_74 rfl hs]; rfl
theorem dd_24_75 : decode (mB 24) 75 = .ok (.ireturn, 1) := by decide +kernel
theorem u_24_75 {G : aG} {S : Nat → Bool} {f : Nat} {ls : aL} {h : aH} {k n : Nat} {x : Int32} (hs : S 75 = false) : WP 24 G S (f + 1) 75 ls [.int x] h k n = (RET G (some (.int x)) h k n) := by rw [wp_s dd_24_75 rfl hs]; rfl
theorem dd_25_0 : decode (mB 25) 0 = .ok (.lconst 0, 1) := by decide +kernel
theorem u_25_0 {G : aG} {S : Nat → Bool} {f : Nat} {st : List Value} {ls : aL} {h : aH} {k n : Nat} (hs : S 0 = false) : WP 25 G S (f + 1) 0 ls st h k n = (WP 25 G S f 1 ls (.long (lN 0) :: st) h k n) := by rw [wp_s dd_25_0 rfl hs]; rfl
theorem dd_25_1 : decode (mB 25) 1 = .ok (.lstore_n 1, 1) := by decide +kernel
theorem u_25_1 {G : aG} {S : Nat → Bool} {f : Nat} {st : List Value} {ls : aL} {h : aH} {k n : Nat} {x : Int64} (hs : S 1 = false) : WP 25 G S (f + 1) 1 ls (.long x :: st) h k n = (WP 25 G S f 2 (lput2 ls 1 (.long x)) st h k n) := by rw [wp_s dd_25_1 rfl hs]; rfl
theorem dd_25_2 : decode (mB 25) 2 = .ok (.iconst 0, 1) := by decide +kernel
theorem u_25_2 {G : aG} {S : Nat → Bool} {f : Nat} {st : List Value} {ls : aL} {h : aH} {k n : Nat} (hs : S 2 = false) : WP 25 G S (f + 1) 2 ls st h k n = (WP 25 G S f 3 ls (.int (nI 0) :: st) h k n) := by rw [wp_s dd_25_2 rfl hs]; rfl
theorem dd_25_3 : decode (mB 25) 3 = .ok (.istore_n 3, 1) := by decide +kernel
theorem u_25_3 {G : aG} {S : Nat → Bool} {f : Nat} {st : List Value} {ls : aL} {h : aH} {k n : Nat} {x : Int32} (hs : S 3 = false) : WP 25 G S (f + 1) 3 ls (.int x :: st) h k n = (WP 25 G S f 4 (lput1 ls 3 (.int x)) st h k n) := by rw [wp_s dd_25_3 rfl hs]; rfl
theorem dd_25_4 : decode (mB 25) 4 = .ok (.iload_n 3, 1) := by decide +kernel
theorem u_25_4 {G : aG} {S : Nat → Bool} {f : Nat} {st : List Value} {ls : aL} {h : aH} {k n : Nat} (hs : S 4 = false) : WP 25 G S (f + 1) 4 ls st h k n = (oI (lget ls 3) (WP 25 G S f) 5 ls st h k n) := by rw [wp_s dd_25_4 rfl hs]; rfl
theorem v_25_4 {G : aG} {S : Nat → Bool} {f : Nat} {st : List Value} {ls : aL} {h : aH} {k n : Nat} : WQ 25 G S f 4 ls st h k n = (oI (lget ls 3) (WP 25 G S f) 5 ls st h k n) := by rw [wq_s dd_25_4 rfl]; rfl
theorem dd_25_5 : decode (mB 25) 5 = .ok (.aload_n 0, 1) := by decide +kernel
theorem u_25_5 {G : aG} {S : Nat → Bool} {f : Nat} {st : List Value} {ls : aL} {h : aH} {k n : Nat} (hs : S 5 = false) : WP 25 G S (f + 1) 5 ls st h k n = (oA (lget ls 0) (WP 25 G S f) 6 ls st h k n) := by rw [wp_s dd_25_5 rfl hs]; rfl
theorem dd_25_6 : decode (mB 25) 6 = .ok (.getfield 68, 3) := by decide +kernel
theorem u_25_6 {G : aG} {S : Nat → Bool} {f : Nat} {st : List Value} {ls : aL} {h : aH} {k n : Nat} {a : Nat} (hs : S 6 = false) : WP 25 G S (f + 1) 6 ls (.ref a :: st) h k n = (oV (fget h a 2 2) (WP 25 G S f) 9 ls st h k n) := by rw [wp_s dd_25_6 rfl hs]; rfl
theorem dd_25_9 : decode (mB 25) 9 = .ok (.if_icmp .ge 22, 3) := by decide +kernel
theorem u_25_9 {G : aG} {S : Nat → Bool} {f : Nat} {st : List Value} {ls : aL} {h : aH} {k n : Nat} {x y : Int32} (hs : S 9 = false) : WP 25 G S (f + 1) 9 ls (.int y :: .int x :: st) h k n = (if y ≤ x then WP 25 G S f 31 ls st h k n else WP 25 G S f 12 ls st h k n) := by rw [wp_s dd_25_9 rfl hs]; exact br_ite (c := y ≤ x)
theorem dd_25_12 : decode (mB 25) 12 = .ok (.lload_n 1, 1) := by decide +kernel
theorem u_25_12 {G : aG} {S : Nat → Bool} {f : Nat} {st : List Value} {ls : aL} {h : aH} {k n : Nat} (hs : S 12 = false) : WP 25 G S (f + 1) 12 ls st h k n = (oJ (lget ls 1) (WP 25 G S f) 13 ls st h k n) := by rw [wp_s dd_25_12 rfl hs]; rfl
theorem dd_25_13 : decode (mB 25) 13 = .ok (.aload_n 0, 1) := by decide +kernel
theorem u_25_13 {G : aG} {S : Nat → Bool} {f : Nat} {st : List Value} {ls : aL} {h : aH} {k n : Nat} (hs : S 13 = false) : WP 25 G S (f + 1) 13 ls st h k n = (oA (lget ls 0) (WP 25 G S f) 14 ls st h k n) := by rw [wp_s dd_25_13 rfl hs]; rfl
theorem dd_25_14 : decode (mB 25) 14 = .ok (.getfield 35, 3) := by decide +kernel
theorem u_25_14 {G : aG} {S : Nat → Bool} {f : Nat} {st : List Value} {ls : aL} {h : aH} {k n : Nat} {a : Nat} (hs : S 14 = false) : WP 25 G S (f + 1) 14 ls (.ref a :: st) h k n = (oV (fget h a 2 9) (WP 25 G S f) 17 ls st h k n) := by rw [wp_s dd_25_14 rfl hs]; rfl
theorem dd_25_17 : decode (mB 25) 17 = .ok (.iload_n 3, 1) := by decide +kernel
theorem u_25_17 {G : aG} {S : Nat → Bool} {f : Nat} {st : List Value} {ls : aL} {h : aH} {k n : Nat} (hs : S 17 = false) : WP 25 G S (f + 1) 17 ls st h k n = (oI (lget ls 3) (WP 25 G S f) 18 ls st h k n) := by rw [wp_s dd_25_17 rfl hs]; rfl
theorem dd_25_18 : decode (mB 25) 18 = .ok (.laload, 1) := by decide +kernel
theorem u_25_18 {G : aG} {S : Nat → Bool} {f : Nat} {st : List Value} {ls : aL} {h : aH} {k n : Nat} {i : Int32} {a : Nat} (hs : S 18 = false) : WP 25 G S (f + 1) 18 ls (.int i :: .ref a :: st) h k n = (oJld (jget h a) i (WP 25 G S f) 19 ls st h k n) := by rw [wp_s dd_25_18 rfl hs]; rfl
theorem dd_25_19 : decode (mB 25) 19 = .ok (.lxor, 1) := by decide +kernel
theorem u_25_19 {G : aG} {S : Nat → Bool} {f : Nat} {st : List Value} {ls : aL} {h : aH} {k n : Nat} {x y : Int64} (hs : S 19 = false) : WP 25 G S (f + 1) 19 ls (.long y :: .long x :: st) h k n = (WP 25 G S f 20 ls (.long (x ^^^ y) :: st) h k n) := by rw [wp_s dd_25_19 rfl hs]; rfl
theorem dd_25_20 : decode (mB 25) 20 = .ok (.ldc2_w 140, 3) := by decide +kernel
theorem u_25_20 {G : aG} {S : Nat → Bool} {f : Nat} {st : List Value} {ls : aL} {h : aH} {k n : Nat} (hs : S 20 = false) : WP 25 G S (f + 1) 20 ls st h k n = (WP 25 G S f 23 ls (.long (-7046029254386353131) :: st) h k n) := by rw [wp_s dd_25_20 rfl hs]; rfl
theorem dd_25_23 : decode (mB 25) 23 = .ok (.lmul, 1) := by decide +kernel
theorem u_25_23 {G : aG} {S : Nat → Bool} {f : Nat} {st : List Value} {ls : aL} {h : aH} {k n : Nat} {x y : Int64} (hs : S 23 = false) : WP 25 G S (f + 1) 23 ls (.long y :: .long x :: st) h k n = (WP 25 G S f 24 ls (.long (x * y) :: st) h k n) := by rw [wp_s dd_25_23 rfl hs]; rfl
theorem dd_25_24 : decode (mB 25) 24 = .ok (.lstore_n 1, 1) := by decide +kernel
theorem u_25_24 {G : aG} {S : Nat → Bool} {f : Nat} {st : List Value} {ls : aL} {h : aH} {k n : Nat} {x : Int64} (hs : S 24 = false) : WP 25 G S (f + 1) 24 ls (.long x :: st) h k n = (WP 25 G S f 25 (lput2 ls 1 (.long x)) st h k n) := by rw [wp_s dd_25_24 rfl hs]; rfl
theorem dd_25_25 : decode (mB 25) 25 = .ok (.iinc 3 1, 3) := by decide +kernel
theorem u_25_25 {G : aG} {S : Nat → Bool} {f : Nat} {st : List Value} {ls : aL} {h : aH} {k n : Nat} (hs : S 25 = false) : WP 25 G S (f + 1) 25 ls st h k n = (oInc (lget ls 3) (nI 1) (WP 25 G S f) 3 28 ls st h k n) := by rw [wp_s dd_25_25 rfl hs]; rfl
theorem dd_25_28 : decode (mB 25) 28 = .ok (.goto (-24), 3) := by decide +kernel
theorem u_25_28 {G : aG} {S : Nat → Bool} {f : Nat} {st : List Value} {ls : aL} {h : aH} {k n : Nat} (hs : S 28 = false) : WP 25 G S (f + 1) 28 ls st h k n = (WP 25 G S f 4 ls st h k n) := by rw [wp_s dd_25_28 rfl hs]; rfl
theorem dd_25_31 : decode (mB 25) 31 = .ok (.lload_n 1, 1) := by decide +kernel
theorem u_25_31 {G : aG} {S : Nat → Bool} {f : Nat} {st : List Value} {ls : aL} {h : aH} {k n : Nat} (hs : S 31 = false) : WP 25 G S (f + 1) 31 ls st h k n = (oJ (lget ls 1) (WP 25 G S f) 32 ls st h k n) := by rw [wp_s dd_25_31 rfl hs]; rfl
theorem dd_25_32 : decode (mB 25) 32 = .ok (.bipush 58, 2) := by decide +kernel
theorem u_25_32 {G : aG} {S : Nat → Bool} {f : Nat} {st : List Value} {ls : aL} {h : aH} {k n : Nat} (hs : S 32 = false) : WP 25 G S (f + 1) 32 ls st h k n = (WP 25 G S f 34 ls (.int (nI 58) :: st) h k n) := by rw [wp_s dd_25_32 rfl hs]; rfl
theorem dd_25_34 : decode (mB 25) 34 = .ok (.lushr, 1) := by decide +kernel
theorem u_25_34 {G : aG} {S : Nat → Bool} {f : Nat} {st : List Value} {ls : aL} {h : aH} {k n : Nat} {x : Int64} {y : Int32} (hs : S 34 = false) : WP 25 G S (f + 1) 34 ls (.int y :: .long x :: st) h k n = (WP 25 G S f 35 ls (.long ((x.toUInt64 >>> (y.toInt64.toUInt64 &&& Int64.toUInt64 63)).toInt64) :: st) h k n) := by rw [wp_s dd_25_34 rfl hs]; rfl
theorem dd_25_35 : decode (mB 25) 35 = .ok (.l2i, 1) := by decide +kernel
theorem u_25_35 {G : aG} {S : Nat → Bool} {f : Nat} {st : List Value} {ls : aL} {h : aH} {k n : Nat} {x : Int64} (hs : S 35 = false) : WP 25 G S (f + 1) 35 ls (.long x :: st) h k n = (WP 25 G S f 36 ls (.int x.toInt32 :: st) h k n) := by rw [wp_s dd_25_35 rfl hs]; rfl
theorem dd_25_36 : decode (mB 25) 36 = .ok (.bipush 63, 2) := by decide +kernel
theorem u_25_36 {G : aG} {S : Nat → Bool} {f : Nat} {st : List Value} {ls : aL} {h : aH} {k n : Nat} (hs : S 36 = false) : WP 25 G S (f + 1) 36 ls st h k n = (WP 25 G S f 38 ls (.int (nI 63) :: st) h k n) := by rw [wp_s dd_25_36 rfl hs]; rfl
theorem dd_25_38 : decode (mB 25) 38 = .ok (.iand, 1) := by decide +kernel
theorem u_25_38 {G : aG} {S : Nat → Bool} {f : Nat} {st : List Value} {ls : aL} {h : aH} {k n : Nat} {x y : Int32} (hs : S 38 = false) : WP 25 G S (f + 1) 38 ls (.int y :: .int x :: st) h k n = (WP 25 G S f 39 ls (.int (x &&& y) :: st) h k n) := by rw [wp_s dd_25_38 rfl hs]; rfl
theorem dd_25_39 : decode (mB 25) 39 = .ok (.ireturn, 1) := by decide +kernel
theorem u_25_39 {G : aG} {S : Nat → Bool} {f : Nat} {ls : aL} {h : aH} {k n : Nat} {x : Int32} (hs : S 39 = false) : WP 25 G S (f + 1) 39 ls [.int x] h k n = (RET G (some (.int x)) h k n) := by rw [wp_s dd_25_39 rfl hs]; rfl
theorem dd_26_0 : decode (mB 26) 0 = .ok (.iconst 0, 1) := by decide +kernel
theorem u_26_0 {G : aG} {S : Nat → Bool} {f : Nat} {st : List Value} {ls : aL} {h : aH} {k n : Nat} (hs : S 0 = false) : WP 26 G S (f + 1) 0 ls st h k n = (WP 26 G S f 1 ls (.int (nI 0) :: st) h k n) := by rw [wp_s dd_26_0 rfl hs]; rfl
theorem dd_26_1 : decode (mB 26) 1 = .ok (.istore_n 2, 1) := by decide +kernel
theorem u_26_1 {G : aG} {S : Nat → Bool} {f : Nat} {st : List Value} {ls : aL} {h : aH} {k n : Nat} {x : Int32} (hs : S 1 = false) : WP 26 G S (f + 1) 1 ls (.int x :: st) h k n = (WP 26 G S f 2 (lput1 ls 2 (.int x)) st h k n) := by rw [wp_s dd_26_1 rfl hs]; rfl
theorem dd_26_2 : decode (mB 26) 2 = .ok (.iload_n 2, 1) := by decide +kernel
theorem u_26_2 {G : aG} {S : Nat → Bool} {f : Nat} {st : List Value} {ls : aL} {h : aH} {k n : Nat} (hs : S 2 = false) : WP 26 G S (f + 1) 2 ls st h k n = (oI (lget ls 2) (WP 26 G S f) 3 ls st h k n) := by rw [wp_s dd_26_2 rfl hs]; rfl
theorem v_26_2 {G : aG} {S : Nat → Bool} {f : Nat} {st : List Value} {ls : aL} {h : aH} {k n : Nat} : WQ 26 G S f 2 ls st h k n = (oI (lget ls 2) (WP 26 G S f) 3 ls st h k n) := by rw [wq_s dd_26_2 rfl]; rfl
theorem dd_26_3 : decode (mB 26) 3 = .ok (.aload_n 0, 1) := by decide +kernel
theorem u_26_3 {G : aG} {S : Nat → Bool} {f : Nat} {st : List Value} {ls : aL} {h : aH} {k n : Nat} (hs : S 3 = false) : WP 26 G S (f + 1) 3 ls st h k n = (oA (lget ls 0) (WP 26 G S f) 4 ls st h k n) := by rw [wp_s dd_26_3 rfl hs]; rfl
theorem dd_26_4 : decode (mB 26) 4 = .ok (.getfield 68, 3) := by decide +kernel
theorem u_26_4 {G : aG} {S : Nat → Bool} {f : Nat} {st : List Value} {ls : aL} {h : aH} {k n : Nat} {a : Nat} (hs : S 4 = false) : WP 26 G S (f + 1) 4 ls (.ref a :: st) h k n = (oV (fget h a 2 2) (WP 26 G S f) 7 ls st h k n) := by rw [wp_s dd_26_4 rfl hs]; rfl
theorem dd_26_7 : decode (mB 26) 7 = .ok (.if_icmp .ge 34, 3) := by decide +kernel
theorem u_26_7 {G : aG} {S : Nat → Bool} {f : Nat} {st : List Value} {ls : aL} {h : aH} {k n : Nat} {x y : Int32} (hs : S 7 = false) : WP 26 G S (f + 1) 7 ls (.int y :: .int x :: st) h k n = (if y ≤ x then WP 26 G S f 41 ls st h k n else WP 26 G S f 10 ls st h k n) := by rw [wp_s dd_26_7 rfl hs]; exact br_ite (c := y ≤ x)
theorem dd_26_10 : decode (mB 26) 10 = .ok (.aload_n 0, 1) := by decide +kernel
theorem u_26_10 {G : aG} {S : Nat → Bool} {f : Nat} {st : List Value} {ls : aL} {h : aH} {k n : Nat} (hs : S 10 = false) : WP 26 G S (f + 1) 10 ls st h k n = (oA (lget ls 0) (WP 26 G S f) 11 ls st h k n) := by rw [wp_s dd_26_10 rfl hs]; rfl
theorem dd_26_11 : decode (mB 26) 11 = .ok (.getfield 18, 3) := by decide +kernel
theorem u_26_11 {G : aG} {S : Nat → Bool} {f : Nat} {st : List Value} {ls : aL} {h : aH} {k n : Nat} {a : Nat} (hs : S 11 = false) : WP 26 G S (f + 1) 11 ls (.ref a :: st) h k n = (oV (fget h a 2 4) (WP 26 G S f) 14 ls st h k n) := by rw [wp_s dd_26_11 rfl hs]; rfl
theorem dd_26_14 : decode (mB 26) 14 = .ok (.iload_n 1, 1) := by decide +kernel
theorem u_26_14 {G : aG} {S : Nat → Bool} {f : Nat} {st : List Value} {ls : aL} {h : aH} {k n : Nat} (hs : S 14 = false) : WP 26 G S (f + 1) 14 ls st h k n = (oI (lget ls 1) (WP 26 G S f) 15 ls st h k n) := by rw [wp_s dd_26_14 rfl hs]; rfl
theorem dd_26_15 : decode (mB 26) 15 = .ok (.aload_n 0, 1) := by decide +kernel
theorem u_26_15 {G : aG} {S : Nat → Bool} {f : Nat} {st : List Value} {ls : aL} {h : aH} {k n : Nat} (hs : S 15 = false) : WP 26 G S (f + 1) 15 ls st h k n = (oA (lget ls 0) (WP 26 G S f) 16 ls st h k n) := by rw [wp_s dd_26_15 rfl hs]; rfl
theorem dd_26_16 : decode (mB 26) 16 = .ok (.getfield 68, 3) := by decide +kernel
theorem u_26_16 {G : aG} {S : Nat → Bool} {f : Nat} {st : List Value} {ls : aL} {h : aH} {k n : Nat} {a : Nat} (hs : S 16 = false) : WP 26 G S (f + 1) 16 ls (.ref a :: st) h k n = (oV (fget h a 2 2) (WP 26 G S f) 19 ls st h k n) := by rw [wp_s dd_26_16 rfl hs]; rfl
theorem dd_26_19 : decode (mB 26) 19 = .ok (.imul, 1) := by decide +kernel
theorem u_26_19 {G : aG} {S : Nat → Bool} {f : Nat} {st : List Value} {ls : aL} {h : aH} {k n : Nat} {x y : Int32} (hs : S 19 = false) : WP 26 G S (f + 1) 19 ls (.int y :: .int x :: st) h k n = (WP 26 G S f 20 ls (.int (x * y) :: st) h k n) := by rw [wp_s dd_26_19 rfl hs]; rfl
theorem dd_26_20 : decode (mB 26) 20 = .ok (.iload_n 2, 1) := by decide +kernel
theorem u_26_20 {G : aG} {S : Nat → Bool} {f : Nat} {st : List Value} {ls : aL} {h : aH} {k n : Nat} (hs : S 20 = false) : WP 26 G S (f + 1) 20 ls st h k n = (oI (lget ls 2) (WP 26 G S f) 21 ls st h k n) := by rw [wp_s dd_26_20 rfl hs]; rfl
theorem dd_26_21 : decode (mB 26) 21 = .ok (.iadd, 1) := by decide +kernel
theorem u_26_21 {G : aG} {S : Nat → Bool} {f : Nat} {st : List Value} {ls : aL} {h : aH} {k n : Nat} {x y : Int32} (hs : S 21 = false) : WP 26 G S (f + 1) 21 ls (.int y :: .int x :: st) h k n = (WP 26 G S f 22 ls (.int (x + y) :: st) h k n) := by rw [wp_s dd_26_21 rfl hs]; rfl
theorem dd_26_22 : decode (mB 26) 22 = .ok (.laload, 1) := by decide +kernel
theorem u_26_22 {G : aG} {S : Nat → Bool} {f : Nat} {st : List Value} {ls : aL} {h : aH} {k n : Nat} {i : Int32} {a : Nat} (hs : S 22 = false) : WP 26 G S (f + 1) 22 ls (.int i :: .ref a :: st) h k n = (oJld (jget h a) i (WP 26 G S f) 23 ls st h k n) := by rw [wp_s dd_26_22 rfl hs]; rfl
theorem dd_26_23 : decode (mB 26) 23 = .ok (.aload_n 0, 1) := by decide +kernel
theorem u_26_23 {G : aG} {S : Nat → Bool} {f : Nat} {st : List Value} {ls : aL} {h : aH} {k n : Nat} (hs : S 23 = false) : WP 26 G S (f + 1) 23 ls st h k n = (oA (lget ls 0) (WP 26 G S f) 24 ls st h k n) := by rw [wp_s dd_26_23 rfl hs]; rfl
theorem dd_26_24 : decode (mB 26) 24 = .ok (.getfield 35, 3) := by decide +kernel
theorem u_26_24 {G : aG} {S : Nat → Bool} {f : Nat} {st : List Value} {ls : aL} {h : aH} {k n : Nat} {a : Nat} (hs : S 24 = false) : WP 26 G S (f + 1) 24 ls (.ref a :: st) h k n = (oV (fget h a 2 9) (WP 26 G S f) 27 ls st h k n) := by rw [wp_s dd_26_24 rfl hs]; rfl
theorem dd_26_27 : decode (mB 26) 27 = .ok (.iload_n 2, 1) := by decide +kernel
theorem u_26_27 {G : aG} {S : Nat → Bool} {f : Nat} {st : List Value} {ls : aL} {h : aH} {k n : Nat} (hs : S 27 = false) : WP 26 G S (f + 1) 27 ls st h k n = (oI (lget ls 2) (WP 26 G S f) 28 ls st h k n) := by rw [wp_s dd_26_27 rfl hs]; rfl
theorem dd_26_28 : decode (mB 26) 28 = .ok (.laload, 1) := by decide +kernel
theorem u_26_28 {G : aG} {S : Nat → Bool} {f : Nat} {st : List Value} {ls : aL} {h : aH} {k n : Nat} {i : Int32} {a : Nat} (hs : S 28 = false) : WP 26 G S (f + 1) 28 ls (.int i :: .ref a :: st) h k n = (oJld (jget h a) i (WP 26 G S f) 29 ls st h k n) := by rw [wp_s dd_26_28 rfl hs]; rfl
theorem dd_26_29 : decode (mB 26) 29 = .ok (.lcmp, 1) := by decide +kernel
theorem u_26_29 {G : aG} {S : Nat → Bool} {f : Nat} {st : List Value} {ls : aL} {h : aH} {k n : Nat} {x y : Int64} (hs : S 29 = false) : WP 26 G S (f + 1) 29 ls (.long y :: .long x :: st) h k n = (WP 26 G S f 30 ls (.int (lg_cmp x y) :: st) h k n) := by rw [wp_s dd_26_29 rfl hs]; rfl
theorem dd_26_30 : decode (mB 26) 30 = .ok (.ifCond .eq 5, 3) := by decide +kernel
theorem u_26_30 {G : aG} {S : Nat → Bool} {f : Nat} {st : List Value} {ls : aL} {h : aH} {k n : Nat} {x : Int32} (hs : S 30 = false) : WP 26 G S (f + 1) 30 ls (.int x :: st) h k n = (if x = nI 0 then WP 26 G S f 35 ls st h k n else WP 26 G S f 33 ls st h k n) := by rw [wp_s dd_26_30 rfl hs]; exact br_ite (c := x = nI 0)
theorem dd_26_33 : decode (mB 26) 33 = .ok (.iconst 0, 1) := by decide +kernel
theorem u_26_33 {G : aG} {S : Nat → Bool} {f : Nat} {st : List Value} {ls : aL} {h : aH} {k n : Nat} (hs : S 33 = false) : WP 26 G S (f + 1) 33 ls st h k n = (WP 26 G S f 34 ls (.int (nI 0) :: st) h k n) := by rw [wp_s dd_26_33 rfl hs]; rfl
theorem dd_26_34 : decode (mB 26) 34 = .ok (.ireturn, 1) := by decide +kernel
theorem u_26_34 {G : aG} {S : Nat → Bool} {f : Nat} {ls : aL} {h : aH} {k n : Nat} {x : Int32} (hs : S 34 = false) : WP 26 G S (f + 1) 34 ls [.int x] h k n = (cond (x == nI 0 || x == nI 1) (RET G (some (.int x)) h k n) False) := by rw [wp_s dd_26_34 rfl hs]; rfl
theorem dd_26_35 : decode (mB 26) 35 = .ok (.iinc 2 1, 3) := by decide +kernel
theorem u_26_35 {G : aG} {S : Nat → Bool} {f : Nat} {st : List Value} {ls : aL} {h : aH} {k n : Nat} (hs : S 35 = false) : WP 26 G S (f + 1) 35 ls st h k n = (oInc (lget ls 2) (nI 1) (WP 26 G S f) 2 38 ls st h k n) := by rw [wp_s dd_26_35 rfl hs]; rfl
theorem dd_26_38 : decode (mB 26) 38 = .ok (.goto (-36), 3) := by decide +kernel
theorem u_26_38 {G : aG} {S : Nat → Bool} {f : Nat} {st : List Value} {ls : aL} {h : aH} {k n : Nat} (hs : S 38 = false) : WP 26 G S (f + 1) 38 ls st h k n = (WP 26 G S f 2 ls st h k n) := by rw [wp_s dd_26_38 rfl hs]; rfl
theorem dd_26_41 : decode (mB 26) 41 = .ok (.iconst 1, 1) := by decide +kernel
theorem u_26_41 {G : aG} {S : Nat → Bool} {f : Nat} {st : List Value} {ls : aL} {h : aH} {k n : Nat} (hs : S 41 = false) : WP 26 G S (f + 1) 41 ls st h k n = (WP 26 G S f 42 ls (.int (nI 1) :: st) h k n) := by rw [wp_s dd_26_41 rfl hs]; rfl
theorem dd_26_42 : decode (mB 26) 42 = .ok (.ireturn, 1) := by decide +kernel
theorem u_26_42 {G : aG} {S : Nat → Bool} {f : Nat} {ls : aL} {h : aH} {k n : Nat} {x : Int32} (hs : S 42 = false) : WP 26 G S (f + 1) 42 ls [.int x] h k n = (cond (x == nI 0 || x == nI 1) (RET G (some (.int x)) h k n) False) := by rw [wp_s dd_26_42 rfl hs]; rfl
theorem dd_27_0 : decode (mB 27) 0 = .ok (.aload_n 0, 1) := by decide +kernel
theorem u_27_0 {G : aG} {S : Nat → Bool} {f : Nat} {st : List Value} {ls : aL} {h : aH} {k n : Nat} (hs : S 0 = false) : WP 27 G S (f + 1) 0 ls st h k n = (oA (lget ls 0) (WP 27 G S f) 1 ls st h k n) := by rw [wp_s dd_27_0 rfl hs]; rfl
theorem dd_27_1 : decode (mB 27) 1 = .ok (.invokevirtual 130, 3) := by decide +kernel
theorem u_27_1 {G : aG} {S : Nat → Bool} {f : Nat} {st : List Value} {ls : aL} {h : aH} {k n : Nat} {b : Nat} (hs : S 1 = false) : WP 27 G S (f + 1) 1 ls (.ref b :: st) h k n = (rcv (hget h b) 2 ∧ CAL G (WP 27 G S f) 28 [.ref b] 4 ls st h k n) := by rw [wp_s dd_27_1 rfl hs]; rfl
theorem dd_27_4 : decode (mB 27) 4 = .ok (.aload_n 0, 1) := by decide +kernel
theorem u_27_4 {G : aG} {S : Nat → Bool} {f : Nat} {st : List Value} {ls : aL} {h : aH} {k n : Nat} (hs : S 4 = false) : WP 27 G S (f + 1) 4 ls st h k n = (oA (lget ls 0) (WP 27 G S f) 5 ls st h k n) := by rw [wp_s dd_27_4 rfl hs]; rfl
theorem dd_27_5 : decode (mB 27) 5 = .ok (.getfield 71, 3) := by decide +kernel
theorem u_27_5 {G : aG} {S : Nat → Bool} {f : Nat} {st : List Value} {ls : aL} {h : aH} {k n : Nat} {a : Nat} (hs : S 5 = false) : WP 27 G S (f + 1) 5 ls (.ref a :: st) h k n = (oV (fget h a 2 3) (WP 27 G S f) 8 ls st h k n) := by rw [wp_s dd_27_5 rfl hs]; rfl
theorem dd_27_8 : decode (mB 27) 8 = .ok (.istore_n 2, 1) := by decide +kernel
theorem u_27_8 {G : aG} {S : Nat → Bool} {f : Nat} {st : List Value} {ls : aL} {h : aH} {k n : Nat} {x : Int32} (hs : S 8 = false) : WP 27 G S (f + 1) 8 ls (.int x :: st) h k n = (WP 27 G S f 9 (lput1 ls 2 (.int x)) st h k n) := by rw [wp_s dd_27_8 rfl hs]; rfl
theorem dd_27_9 : decode (mB 27) 9 = .ok (.aload_n 0, 1) := by decide +kernel
theorem u_27_9 {G : aG} {S : Nat → Bool} {f : Nat} {st : List Value} {ls : aL} {h : aH} {k n : Nat} (hs : S 9 = false) : WP 27 G S (f + 1) 9 ls st h k n = (oA (lget ls 0) (WP 27 G S f) 10 ls st h k n) := by rw [wp_s dd_27_9 rfl hs]; rfl
theorem dd_27_10 : decode (mB 27) 10 = .ok (.dup, 1) := by decide +kernel
theorem u_27_10 {G : aG} {S : Nat → Bool} {f : Nat} {st : List Value} {ls : aL} {h : aH} {k n : Nat} {v : Value} (hs : S 10 = false) : WP 27 G S (f + 1) 10 ls (v :: st) h k n = (cond (cat1 v) (WP 27 G S f 11 ls (v :: v :: st) h k n) False) := by rw [wp_s dd_27_10 rfl hs]; rfl
theorem dd_27_11 : decode (mB 27) 11 = .ok (.getfield 71, 3) := by decide +kernel
theorem u_27_11 {G : aG} {S : Nat → Bool} {f : Nat} {st : List Value} {ls : aL} {h : aH} {k n : Nat} {a : Nat} (hs : S 11 = false) : WP 27 G S (f + 1) 11 ls (.ref a :: st) h k n = (oV (fget h a 2 3) (WP 27 G S f) 14 ls st h k n) := by rw [wp_s dd_27_11 rfl hs]; rfl
theorem dd_27_14 : decode (mB 27) 14 = .ok (.iconst 1, 1) := by decide +kernel
theorem u_27_14 {G : aG} {S : Nat → Bool} {f : Nat} {st : List Value} {ls : aL} {h : aH} {k n : Nat} (hs : S 14 = false) : WP 27 G S (f + 1) 14 ls st h k n = (WP 27 G S f 15 ls (.int (nI 1) :: st) h k n) := by rw [wp_s dd_27_14 rfl hs]; rfl
theorem dd_27_15 : decode (mB 27) 15 = .ok (.iadd, 1) := by decide +kernel
theorem u_27_15 {G : aG} {S : Nat → Bool} {f : Nat} {st : List Value} {ls : aL} {h : aH} {k n : Nat} {x y : Int32} (hs : S 15 = false) : WP 27 G S (f + 1) 15 ls (.int y :: .int x :: st) h k n = (WP 27 G S f 16 ls (.int (x + y) :: st) h k n) := by rw [wp_s dd_27_15 rfl hs]; rfl
theorem dd_27_16 : decode (mB 27) 16 = .ok (.putfield 71, 3) := by decide +kernel
theorem u_27_16 {G : aG} {S : Nat → Bool} {f : Nat} {st : List Value} {ls : aL} {h : aH} {k n : Nat} {a : Nat} {x : Int32} (hs : S 16 = false) : WP 27 G S (f + 1) 16 ls (.int x :: .ref a :: st) h k n = (oH (fput h a 2 3 (.int x)) (WP 27 G S f) 19 ls st k n) := by rw [wp_s dd_27_16 rfl hs]; rfl
theorem dd_27_19 : decode (mB 27) 19 = .ok (.iconst 0, 1) := by decide +kernel
theorem u_27_19 {G : aG} {S : Nat → Bool} {f : Nat} {st : List Value} {ls : aL} {h : aH} {k n : Nat} (hs : S 19 = false) : WP 27 G S (f + 1) 19 ls st h k n = (WP 27 G S f 20 ls (.int (nI 0) :: st) h k n) := by rw [wp_s dd_27_19 rfl hs]; rfl
theorem dd_27_20 : decode (mB 27) 20 = .ok (.istore_n 3, 1) := by decide +kernel
theorem u_27_20 {G : aG} {S : Nat → Bool} {f : Nat} {st : List Value} {ls : aL} {h : aH} {k n : Nat} {x : Int32} (hs : S 20 = false) : WP 27 G S (f + 1) 20 ls (.int x :: st) h k n = (WP 27 G S f 21 (lput1 ls 3 (.int x)) st h k n) := by rw [wp_s dd_27_20 rfl hs]; rfl
theorem dd_27_21 : decode (mB 27) 21 = .ok (.iload_n 3, 1) := by decide +kernel
theorem u_27_21 {G : aG} {S : Nat → Bool} {f : Nat} {st : List Value} {ls : aL} {h : aH} {k n : Nat} (hs : S 21 = false) : WP 27 G S (f + 1) 21 ls st h k n = (oI (lget ls 3) (WP 27 G S f) 22 ls st h k n) := by rw [wp_s dd_27_21 rfl hs]; rfl
theorem v_27_21 {G : aG} {S : Nat → Bool} {f : Nat} {st : List Value} {ls : aL} {h : aH} {k n : Nat} : WQ 27 G S f 21 ls st h k n = (oI (lget ls 3) (WP 27 G S f) 22 ls st h k n) := by rw [wq_s dd_27_21 rfl]; rfl
theorem dd_27_22 : decode (mB 27) 22 = .ok (.aload_n 0, 1) := by decide +kernel
theorem u_27_22 {G : aG} {S : Nat → Bool} {f : Nat} {st : List Value} {ls : aL} {h : aH} {k n : Nat} (hs : S 22 = false) : WP 27 G S (f + 1) 22 ls st h k n = (oA (lget ls 0) (WP 27 G S f) 23 ls st h k n) := by rw [wp_s dd_27_22 rfl hs]; rfl
theorem dd_27_23 : decode (mB 27) 23 = .ok (.getfield 68, 3) := by decide +kernel
theorem u_27_23 {G : aG} {S : Nat → Bool} {f : Nat} {st : List Value} {ls : aL} {h : aH} {k n : Nat} {a : Nat} (hs : S 23 = false) : WP 27 G S (f + 1) 23 ls (.ref a :: st) h k n = (oV (fget h a 2 2) (WP 27 G S f) 26 ls st h k n) := by rw [wp_s dd_27_23 rfl hs]; rfl
theorem dd_27_26 : decode (mB 27) 26 = .ok (.if_icmp .ge 28, 3) := by decide +kernel
theorem u_27_26 {G : aG} {S : Nat → Bool} {f : Nat} {st : List Value} {ls : aL} {h : aH} {k n : Nat} {x y : Int32} (hs : S 26 = false) : WP 27 G S (f + 1) 26 ls (.int y :: .int x :: st) h k n = (if y ≤ x then WP 27 G S f 54 ls st h k n else WP 27 G S f 29 ls st h k n) := by rw [wp_s dd_27_26 rfl hs]; exact br_ite (c := y ≤ x)
theorem dd_27_29 : decode (mB 27) 29 = .ok (.aload_n 0, 1) := by decide +kernel
theorem u_27_29 {G : aG} {S : Nat → Bool} {f : Nat} {st : List Value} {ls : aL} {h : aH} {k n : Nat} (hs : S 29 = false) : WP 27 G S (f + 1) 29 ls st h k n = (oA (lget ls 0) (WP 27 G S f) 30 ls st h k n) := by rw [wp_s dd_27_29 rfl hs]; rfl
theorem dd_27_30 : decode (mB 27) 30 = .ok (.getfield 18, 3) := by decide +kernel
theorem u_27_30 {G : aG} {S : Nat → Bool} {f : Nat} {st : List Value} {ls : aL} {h : aH} {k n : Nat} {a : Nat} (hs : S 30 = false) : WP 27 G S (f + 1) 30 ls (.ref a :: st) h k n = (oV (fget h a 2 4) (WP 27 G S f) 33 ls st h k n) := by rw [wp_s dd_27_30 rfl hs]; rfl
theorem dd_27_33 : decode (mB 27) 33 = .ok (.iload_n 2, 1) := by decide +kernel
theorem u_27_33 {G : aG} {S : Nat → Bool} {f : Nat} {st : List Value} {ls : aL} {h : aH} {k n : Nat} (hs : S 33 = false) : WP 27 G S (f + 1) 33 ls st h k n = (oI (lget ls 2) (WP 27 G S f) 34 ls st h k n) := by rw [wp_s dd_27_33 rfl hs]; rfl
theorem dd_27_34 : decode (mB 27) 34 = .ok (.aload_n 0, 1) := by decide +kernel
theorem u_27_34 {G : aG} {S : Nat → Bool} {f : Nat} {st : List Value} {ls : aL} {h : aH} {k n : Nat} (hs : S 34 = false) : WP 27 G S (f + 1) 34 ls st h k n = (oA (lget ls 0) (WP 27 G S f) 35 ls st h k n) := by rw [wp_s dd_27_34 rfl hs]; rfl
theorem dd_27_35 : decode (mB 27) 35 = .ok (.getfield 68, 3) := by decide +kernel
theorem u_27_35 {G : aG} {S : Nat → Bool} {f : Nat} {st : List Value} {ls : aL} {h : aH} {k n : Nat} {a : Nat} (hs : S 35 = false) : WP 27 G S (f + 1) 35 ls (.ref a :: st) h k n = (oV (fget h a 2 2) (WP 27 G S f) 38 ls st h k n) := by rw [wp_s dd_27_35 rfl hs]; rfl
theorem dd_27_38 : decode (mB 27) 38 = .ok (.imul, 1) := by decide +kernel
theorem u_27_38 {G : aG} {S : Nat → Bool} {f : Nat} {st : List Value} {ls : aL} {h : aH} {k n : Nat} {x y : Int32} (hs : S 38 = false) : WP 27 G S (f + 1) 38 ls (.int y :: .int x :: st) h k n = (WP 27 G S f 39 ls (.int (x * y) :: st) h k n) := by rw [wp_s dd_27_38 rfl hs]; rfl
theorem dd_27_39 : decode (mB 27) 39 = .ok (.iload_n 3, 1) := by decide +kernel
theorem u_27_39 {G : aG} {S : Nat → Bool} {f : Nat} {st : List Value} {ls : aL} {h : aH} {k n : Nat} (hs : S 39 = false) : WP 27 G S (f + 1) 39 ls st h k n = (oI (lget ls 3) (WP 27 G S f) 40 ls st h k n) := by rw [wp_s dd_27_39 rfl hs]; rfl
theorem dd_27_40 : decode (mB 27) 40 = .ok (.iadd, 1) := by decide +kernel
theorem u_27_40 {G : aG} {S : Nat → Bool} {f : Nat} {st : List Value} {ls : aL} {h : aH} {k n : Nat} {x y : Int32} (hs : S 40 = false) : WP 27 G S (f + 1) 40 ls (.int y :: .int x :: st) h k n = (WP 27 G S f 41 ls (.int (x + y) :: st) h k n) := by rw [wp_s dd_27_40 rfl hs]; rfl
theorem dd_27_41 : decode (mB 27) 41 = .ok (.aload_n 0, 1) := by decide +kernel
theorem u_27_41 {G : aG} {S : Nat → Bool} {f : Nat} {st : List Value} {ls : aL} {h : aH} {k n : Nat} (hs : S 41 = false) : WP 27 G S (f + 1) 41 ls st h k n = (oA (lget ls 0) (WP 27 G S f) 42 ls st h k n) := by rw [wp_s dd_27_41 rfl hs]; rfl
theorem dd_27_42 : decode (mB 27) 42 = .ok (.getfield 35, 3) := by decide +kernel
theorem u_27_42 {G : aG} {S : Nat → Bool} {f : Nat} {st : List Value} {ls : aL} {h : aH} {k n : Nat} {a : Nat} (hs : S 42 = false) : WP 27 G S (f + 1) 42 ls (.ref a :: st) h k n = (oV (fget h a 2 9) (WP 27 G S f) 45 ls st h k n) := by rw [wp_s dd_27_42 rfl hs]; rfl
theorem dd_27_45 : decode (mB 27) 45 = .ok (.iload_n 3, 1) := by decide +kernel
theorem u_27_45 {G : aG} {S : Nat → Bool} {f : Nat} {st : List Value} {ls : aL} {h : aH} {k n : Nat} (hs : S 45 = false) : WP 27 G S (f + 1) 45 ls st h k n = (oI (lget ls 3) (WP 27 G S f) 46 ls st h k n) := by rw [wp_s dd_27_45 rfl hs]; rfl
theorem dd_27_46 : decode (mB 27) 46 = .ok (.laload, 1) := by decide +kernel
theorem u_27_46 {G : aG} {S : Nat → Bool} {f : Nat} {st : List Value} {ls : aL} {h : aH} {k n : Nat} {i : Int32} {a : Nat} (hs : S 46 = false) : WP 27 G S (f + 1) 46 ls (.int i :: .ref a :: st) h k n = (oJld (jget h a) i (WP 27 G S f) 47 ls st h k n) := by rw [wp_s dd_27_46 rfl hs]; rfl
theorem dd_27_47 : decode (mB 27) 47 = .ok (.lastore, 1) := by decide +kernel
theorem u_27_47 {G : aG} {S : Nat → Bool} {f : Nat} {st : List Value} {ls : aL} {h : aH} {k n : Nat} {i : Int32} {x : Int64} {a : Nat} (hs : S 47 = false) : WP 27 G S (f + 1) 47 ls (.long x :: .int i :: .ref a :: st) h k n = (oJst (jget h a) a i x (WP 27 G S f) 48 ls st h k n) := by rw [wp_s dd_27_47 rfl hs]; rfl
theorem dd_27_48 : decode (mB 27) 48 = .ok (.iinc 3 1, 3) := by decide +kernel
theorem u_27_48 {G : aG} {S : Nat → Bool} {f : Nat} {st : List Value} {ls : aL} {h : aH} {k n : Nat} (hs : S 48 = false) : WP 27 G S (f + 1) 48 ls st h k n = (oInc (lget ls 3) (nI 1) (WP 27 G S f) 3 51 ls st h k n) := by rw [wp_s dd_27_48 rfl hs]; rfl
theorem dd_27_51 : decode (mB 27) 51 = .ok (.goto (-30), 3) := by decide +kernel
theorem u_27_51 {G : aG} {S : Nat → Bool} {f : Nat} {st : List Value} {ls : aL} {h : aH} {k n : Nat} (hs : S 51 = false) : WP 27 G S (f + 1) 51 ls st h k n = (WP 27 G S f 21 ls st h k n) := by rw [wp_s dd_27_51 rfl hs]; rfl
theorem dd_27_54 : decode (mB 27) 54 = .ok (.iconst 0, 1) := by decide +kernel
theorem u_27_54 {G : aG} {S : Nat → Bool} {f : Nat} {st : List Value} {ls : aL} {h : aH} {k n : Nat} (hs : S 54 = false) : WP 27 G S (f + 1) 54 ls st h k n = (WP 27 G S f 55 ls (.int (nI 0) :: st) h k n) := by rw [wp_s dd_27_54 rfl hs]; rfl
theorem dd_27_55 : decode (mB 27) 55 = .ok (.istore_n 3, 1) := by decide +kernel
theorem u_27_55 {G : aG} {S : Nat → Bool} {f : Nat} {st : List Value} {ls : aL} {h : aH} {k n : Nat} {x : Int32} (hs : S 55 = false) : WP 27 G S (f + 1) 55 ls (.int x :: st) h k n = (WP 27 G S f 56 (lput1 ls 3 (.int x)) st h k n) := by rw [wp_s dd_27_55 rfl hs]; rfl
theorem dd_27_56 : decode (mB 27) 56 = .ok (.iload_n 3, 1) := by decide +kernel
theorem u_27_56 {G : aG} {S : Nat → Bool} {f : Nat} {st : List Value} {ls : aL} {h : aH} {k n : Nat} (hs : S 56 = false) : WP 27 G S (f + 1) 56 ls st h k n = (oI (lget ls 3) (WP 27 G S f) 57 ls st h k n) := by rw [wp_s dd_27_56 rfl hs]; rfl
theorem v_27_56 {G : aG} {S : Nat → Bool} {f : Nat} {st : List Value} {ls : aL} {h : aH} {k n : Nat} : WQ 27 G S f 56 ls st h k n = (oI (lget ls 3) (WP 27 G S f) 57 ls st h k n) := by rw [wq_s dd_27_56 rfl]; rfl
theorem dd_27_57 : decode (mB 27) 57 = .ok (.bipush 8, 2) := by decide +kernel
theorem u_27_57 {G : aG} {S : Nat → Bool} {f : Nat} {st : List Value} {ls : aL} {h : aH} {k n : Nat} (hs : S 57 = false) : WP 27 G S (f + 1) 57 ls st h k n = (WP 27 G S f 59 ls (.int (nI 8) :: st) h k n) := by rw [wp_s dd_27_57 rfl hs]; rfl
theorem dd_27_59 : decode (mB 27) 59 = .ok (.if_icmp .ge 22, 3) := by decide +kernel
theorem u_27_59 {G : aG} {S : Nat → Bool} {f : Nat} {st : List Value} {ls : aL} {h : aH} {k n : Nat} {x y : Int32} (hs : S 59 = false) : WP 27 G S (f + 1) 59 ls (.int y :: .int x :: st) h k n = (if y ≤ x then WP 27 G S f 81 ls st h k n else WP 27 G S f 62 ls st h k n) := by rw [wp_s dd_27_59 rfl hs]; exact br_ite (c := y ≤ x)
theorem dd_27_62 : decode (mB 27) 62 = .ok (.aload_n 0, 1) := by decide +kernel
theorem u_27_62 {G : aG} {S : Nat → Bool} {f : Nat} {st : List Value} {ls : aL} {h : aH} {k n : Nat} (hs : S 62 = false) : WP 27 G S (f + 1) 62 ls st h k n = (oA (lget ls 0) (WP 27 G S f) 63 ls st h k n) := by rw [wp_s dd_27_62 rfl hs]; rfl
theorem dd_27_63 : decode (mB 27) 63 = .ok (.getfield 22, 3) := by decide +kernel
theorem u_27_63 {G : aG} {S : Nat → Bool} {f : Nat} {st : List Value} {ls : aL} {h : aH} {k n : Nat} {a : Nat} (hs : S 63 = false) : WP 27 G S (f + 1) 63 ls (.ref a :: st) h k n = (oV (fget h a 2 5) (WP 27 G S f) 66 ls st h k n) := by rw [wp_s dd_27_63 rfl hs]; rfl
theorem dd_27_66 : decode (mB 27) 66 = .ok (.iload_n 2, 1) := by decide +kernel
theorem u_27_66 {G : aG} {S : Nat → Bool} {f : Nat} {st : List Value} {ls : aL} {h : aH} {k n : Nat} (hs : S 66 = false) : WP 27 G S (f + 1) 66 ls st h k n = (oI (lget ls 2) (WP 27 G S f) 67 ls st h k n) := by rw [wp_s dd_27_66 rfl hs]; rfl
theorem dd_27_67 : decode (mB 27) 67 = .ok (.bipush 8, 2) := by decide +kernel
theorem u_27_67 {G : aG} {S : Nat → Bool} {f : Nat} {st : List Value} {ls : aL} {h : aH} {k n : Nat} (hs : S 67 = false) : WP 27 G S (f + 1) 67 ls st h k n = (WP 27 G S f 69 ls (.int (nI 8) :: st) h k n) := by rw [wp_s dd_27_67 rfl hs]; rfl
theorem dd_27_69 : decode (mB 27) 69 = .ok (.imul, 1) := by decide +kernel
theorem u_27_69 {G : aG} {S : Nat → Bool} {f : Nat} {st : List Value} {ls : aL} {h : aH} {k n : Nat} {x y : Int32} (hs : S 69 = false) : WP 27 G S (f + 1) 69 ls (.int y :: .int x :: st) h k n = (WP 27 G S f 70 ls (.int (x * y) :: st) h k n) := by rw [wp_s dd_27_69 rfl hs]; rfl
theorem dd_27_70 : decode (mB 27) 70 = .ok (.iload_n 3, 1) := by decide +kernel
theorem u_27_70 {G : aG} {S : Nat → Bool} {f : Nat} {st : List Value} {ls : aL} {h : aH} {k n : Nat} (hs : S 70 = false) : WP 27 G S (f + 1) 70 ls st h k n = (oI (lget ls 3) (WP 27 G S f) 71 ls st h k n) := by rw [wp_s dd_27_70 rfl hs]; rfl
theorem dd_27_71 : decode (mB 27) 71 = .ok (.iadd, 1) := by decide +kernel
theorem u_27_71 {G : aG} {S : Nat → Bool} {f : Nat} {st : List Value} {ls : aL} {h : aH} {k n : Nat} {x y : Int32} (hs : S 71 = false) : WP 27 G S (f + 1) 71 ls (.int y :: .int x :: st) h k n = (WP 27 G S f 72 ls (.int (x + y) :: st) h k n) := by rw [wp_s dd_27_71 rfl hs]; rfl
theorem dd_27_72 : decode (mB 27) 72 = .ok (.bipush (-2), 2) := by decide +kernel
theorem u_27_72 {G : aG} {S : Nat → Bool} {f : Nat} {st : List Value} {ls : aL} {h : aH} {k n : Nat} (hs : S 72 = false) : WP 27 G S (f + 1) 72 ls st h k n = (WP 27 G S f 74 ls (.int (-2) :: st) h k n) := by rw [wp_s dd_27_72 rfl hs]; rfl
theorem dd_27_74 : decode (mB 27) 74 = .ok (.iastore, 1) := by decide +kernel
theorem u_27_74 {G : aG} {S : Nat → Bool} {f : Nat} {st : List Value} {ls : aL} {h : aH} {k n : Nat} {i x : Int32} {a : Nat} (hs : S 74 = false) : WP 27 G S (f + 1) 74 ls (.int x :: .int i :: .ref a :: st) h k n = (oIst (iget h a 1) a i x (WP 27 G S f) 75 ls st h k n) := by rw [wp_s dd_27_74 rfl hs]; rfl
theorem dd_27_75 : decode (mB 27) 75 = .ok (.iinc 3 1, 3) := by decide +kernel
theorem u_27_75 {G : aG} {S : Nat → Bool} {f : Nat} {st : List Value} {ls : aL} {h : aH} {k n : Nat} (hs : S 75 = false) : WP 27 G S (f + 1) 75 ls st h k n = (oInc (lget ls 3) (nI 1) (WP 27 G S f) 3 78 ls st h k n) := by rw [wp_s dd_27_75 rfl hs]; rfl
theorem dd_27_78 : decode (mB 27) 78 = .ok (.goto (-22), 3) := by decide +kernel
theorem u_27_78 {G : aG} {S : Nat → Bool} {f : Nat} {st : List Value} {ls : aL} {h : aH} {k n : Nat} (hs : S 78 = false) : WP 27 G S (f + 1) 78 ls st h k n = (WP 27 G S f 56 ls st h k n) := by rw [wp_s dd_27_78 rfl hs]; rfl
theorem dd_27_81 : decode (mB 27) 81 = .ok (.aload_n 0, 1) := by decide +kernel
theorem u_27_81 {G : aG} {S : Nat → Bool} {f : Nat} {st : List Value} {ls : aL} {h : aH} {k n : Nat} (hs : S 81 = false) : WP 27 G S (f + 1) 81 ls st h k n = (oA (lget ls 0) (WP 27 G S f) 82 ls st h k n) := by rw [wp_s dd_27_81 rfl hs]; rfl
theorem dd_27_82 : decode (mB 27) 82 = .ok (.getfield 26, 3) := by decide +kernel
theorem u_27_82 {G : aG} {S : Nat → Bool} {f : Nat} {st : List Value} {ls : aL} {h : aH} {k n : Nat} {a : Nat} (hs : S 82 = false) : WP 27 G S (f + 1) 82 ls (.ref a :: st) h k n = (oV (fget h a 2 6) (WP 27 G S f) 85 ls st h k n) := by rw [wp_s dd_27_82 rfl hs]; rfl
theorem dd_27_85 : decode (mB 27) 85 = .ok (.iload_n 2, 1) := by decide +kernel
theorem u_27_85 {G : aG} {S : Nat → Bool} {f : Nat} {st : List Value} {ls : aL} {h : aH} {k n : Nat} (hs : S 85 = false) : WP 27 G S (f + 1) 85 ls st h k n = (oI (lget ls 2) (WP 27 G S f) 86 ls st h k n) := by rw [wp_s dd_27_85 rfl hs]; rfl
theorem dd_27_86 : decode (mB 27) 86 = .ok (.aload_n 0, 1) := by decide +kernel
theorem u_27_86 {G : aG} {S : Nat → Bool} {f : Nat} {st : List Value} {ls : aL} {h : aH} {k n : Nat} (hs : S 86 = false) : WP 27 G S (f + 1) 86 ls st h k n = (oA (lget ls 0) (WP 27 G S f) 87 ls st h k n) := by rw [wp_s dd_27_86 rfl hs]; rfl
theorem dd_27_87 : decode (mB 27) 87 = .ok (.getfield 87, 3) := by decide +kernel
theorem u_27_87 {G : aG} {S : Nat → Bool} {f : Nat} {st : List Value} {ls : aL} {h : aH} {k n : Nat} {a : Nat} (hs : S 87 = false) : WP 27 G S (f + 1) 87 ls (.ref a :: st) h k n = (oV (fget h a 2 10) (WP 27 G S f) 90 ls st h k n) := by rw [wp_s dd_27_87 rfl hs]; rfl
theorem dd_27_90 : decode (mB 27) 90 = .ok (.iastore, 1) := by decide +kernel
theorem u_27_90 {G : aG} {S : Nat → Bool} {f : Nat} {st : List Value} {ls : aL} {h : aH} {k n : Nat} {i x : Int32} {a : Nat} (hs : S 90 = false) : WP 27 G S (f + 1) 90 ls (.int x :: .int i :: .ref a :: st) h k n = (oIst (iget h a 1) a i x (WP 27 G S f) 91 ls st h k n) := by rw [wp_s dd_27_90 rfl hs]; rfl
theorem dd_27_91 : decode (mB 27) 91 = .ok (.aload_n 0, 1) := by decide +kernel
theorem u_27_91 {G : aG} {S : Nat → Bool} {f : Nat} {st : List Value} {ls : aL} {h : aH} {k n : Nat} (hs : S 91 = false) : WP 27 G S (f + 1) 91 ls st h k n = (oA (lget ls 0) (WP 27 G S f) 92 ls st h k n) := by rw [wp_s dd_27_91 rfl hs]; rfl
theorem dd_27_92 : decode (mB 27) 92 = .ok (.getfield 29, 3) := by decide +kernel
theorem u_27_92 {G : aG} {S : Nat → Bool} {f : Nat} {st : List Value} {ls : aL} {h : aH} {k n : Nat} {a : Nat} (hs : S 92 = false) : WP 27 G S (f + 1) 92 ls (.ref a :: st) h k n = (oV (fget h a 2 7) (WP 27 G S f) 95 ls st h k n) := by rw [wp_s dd_27_92 rfl hs]; rfl
theorem dd_27_95 : decode (mB 27) 95 = .ok (.iload_n 2, 1) := by decide +kernel
theorem u_27_95 {G : aG} {S : Nat → Bool} {f : Nat} {st : List Value} {ls : aL} {h : aH} {k n : Nat} (hs : S 95 = false) : WP 27 G S (f + 1) 95 ls st h k n = (oI (lget ls 2) (WP 27 G S f) 96 ls st h k n) := by rw [wp_s dd_27_95 rfl hs]; rfl
theorem dd_27_96 : decode (mB 27) 96 = .ok (.aload_n 0, 1) := by decide +kernel
theorem u_27_96 {G : aG} {S : Nat → Bool} {f : Nat} {st : List Value} {ls : aL} {h : aH} {k n : Nat} (hs : S 96 = false) : WP 27 G S (f + 1) 96 ls st h k n = (oA (lget ls 0) (WP 27 G S f) 97 ls st h k n) := by rw [wp_s dd_27_96 rfl hs]; rfl
theorem dd_27_97 : decode (mB 27) 97 = .ok (.getfield 32, 3) := by decide +kernel
theorem u_27_97 {G : aG} {S : Nat → Bool} {f : Nat} {st : List Value} {ls : aL} {h : aH} {k n : Nat} {a : Nat} (hs : S 97 = false) : WP 27 G S (f + 1) 97 ls (.ref a :: st) h k n = (oV (fget h a 2 8) (WP 27 G S f) 100 ls st h k n) := by rw [wp_s dd_27_97 rfl hs]; rfl
theorem dd_27_100 : decode (mB 27) 100 = .ok (.iload_n 1, 1) := by decide +kernel
theorem u_27_100 {G : aG} {S : Nat → Bool} {f : Nat} {st : List Value} {ls : aL} {h : aH} {k n : Nat} (hs : S 100 = false) : WP 27 G S (f + 1) 100 ls st h k n = (oI (lget ls 1) (WP 27 G S f) 101 ls st h k n) := by rw [wp_s dd_27_100 rfl hs]; rfl
theorem dd_27_101 : decode (mB 27) 101 = .ok (.iaload, 1) := by decide +kernel
theorem u_27_101 {G : aG} {S : Nat → Bool} {f : Nat} {st : List Value} {ls : aL} {h : aH} {k n : Nat} {i : Int32} {a : Nat} (hs : S 101 = false) : WP 27 G S (f + 1) 101 ls (.int i :: .ref a :: st) h k n = (oIld (iget h a 1) i (WP 27 G S f) 102 ls st h k n) := by rw [wp_s dd_27_101 rfl hs]; rfl
theorem dd_27_102 : decode (mB 27) 102 = .ok (.iastore, 1) := by decide +kernel
theorem u_27_102 {G : aG} {S : Nat → Bool} {f : Nat} {st : List Value} {ls : aL} {h : aH} {k n : Nat} {i x : Int32} {a : Nat} (hs : S 102 = false) : WP 27 G S (f + 1) 102 ls (.int x :: .int i :: .ref a :: st) h k n = (oIst (iget h a 1) a i x (WP 27 G S f) 103 ls st h k n) := by rw [wp_s dd_27_102 rfl hs]; rfl
theorem dd_27_103 : decode (mB 27) 103 = .ok (.aload_n 0, 1) := by decide +kernel
theorem u_27_103 {G : aG} {S : Nat → Bool} {f : Nat} {st : List Value} {ls : aL} {h : aH} {k n : Nat} (hs : S 103 = false) : WP 27 G S (f + 1) 103 ls st h k n = (oA (lget ls 0) (WP 27 G S f) 104 ls st h k n) := by rw [wp_s dd_27_103 rfl hs]; rfl
theorem dd_27_104 : decode (mB 27) 104 = .ok (.getfield 32, 3) := by decide +kernel
theorem u_27_104 {G : aG} {S : Nat → Bool} {f : Nat} {st : List Value} {ls : aL} {h : aH} {k n : Nat} {a : Nat} (hs : S 104 = false) : WP 27 G S (f + 1) 104 ls (.ref a :: st) h k n = (oV (fget h a 2 8) (WP 27 G S f) 107 ls st h k n) := by rw [wp_s dd_27_104 rfl hs]; rfl
theorem dd_27_107 : decode (mB 27) 107 = .ok (.iload_n 1, 1) := by decide +kernel
theorem u_27_107 {G : aG} {S : Nat → Bool} {f : Nat} {st : List Value} {ls : aL} {h : aH} {k n : Nat} (hs : S 107 = false) : WP 27 G S (f + 1) 107 ls st h k n = (oI (lget ls 1) (WP 27 G S f) 108 ls st h k n) := by rw [wp_s dd_27_107 rfl hs]; rfl
theorem dd_27_108 : decode (mB 27) 108 = .ok (.iload_n 2, 1) := by decide +kernel
theorem u_27_108 {G : aG} {S : Nat → Bool} {f : Nat} {st : List Value} {ls : aL} {h : aH} {k n : Nat} (hs : S 108 = false) : WP 27 G S (f + 1) 108 ls st h k n = (oI (lget ls 2) (WP 27 G S f) 109 ls st h k n) := by rw [wp_s dd_27_108 rfl hs]; rfl
theorem dd_27_109 : decode (mB 27) 109 = .ok (.iastore, 1) := by decide +kernel
theorem u_27_109 {G : aG} {S : Nat → Bool} {f : Nat} {st : List Value} {ls : aL} {h : aH} {k n : Nat} {i x : Int32} {a : Nat} (hs : S 109 = false) : WP 27 G S (f + 1) 109 ls (.int x :: .int i :: .ref a :: st) h k n = (oIst (iget h a 1) a i x (WP 27 G S f) 110 ls st h k n) := by rw [wp_s dd_27_109 rfl hs]; rfl
theorem dd_27_110 : decode (mB 27) 110 = .ok (.iload_n 2, 1) := by decide +kernel
theorem u_27_110 {G : aG} {S : Nat → Bool} {f : Nat} {st : List Value} {ls : aL} {h : aH} {k n : Nat} (hs : S 110 = false) : WP 27 G S (f + 1) 110 ls st h k n = (oI (lget ls 2) (WP 27 G S f) 111 ls st h k n) := by rw [wp_s dd_27_110 rfl hs]; rfl
theorem dd_27_111 : decode (mB 27) 111 = .ok (.ireturn, 1) := by decide +kernel
theorem u_27_111 {G : aG} {S : Nat → Bool} {f : Nat} {ls : aL} {h : aH} {k n : Nat} {x : Int32} (hs : S 111 = false) : WP 27 G S (f + 1) 111 ls [.int x] h k n = (RET G (some (.int x)) h k n) := by rw [wp_s dd_27_111 rfl hs]; rfl
theorem dd_28_0 : decode (mB 28) 0 = .ok (.aload_n 0, 1) := by decide +kernel
theorem u_28_0 {G : aG} {S : Nat → Bool} {f : Nat} {st : List Value} {ls : aL} {h : aH} {k n : Nat} (hs : S 0 = false) : WP 28 G S (f + 1) 0 ls st h k n = (oA (lget ls 0) (WP 28 G S f) 1 ls st h k n) := by rw [wp_s dd_28_0 rfl hs]; rfl
theorem dd_28_1 : decode (mB 28) 1 = .ok (.getfield 71, 3) := by decide +kernel
theorem u_28_1 {G : aG} {S : Nat → Bool} {f : Nat} {st : List Value} {ls : aL} {h : aH} {k n : Nat} {a : Nat} (hs : S 1 = false) : WP 28 G S (f + 1) 1 ls (.ref a :: st) h k n = (oV (fget h a 2 3) (WP 28 G S f) 4 ls st h k n) := by rw [wp_s dd_28_1 rfl hs]; rfl
theorem dd_28_4 : decode (mB 28) 4 = .ok (.aload_n 0, 1) := by decide +kernel
theorem u_28_4 {G : aG} {S : Nat → Bool} {f : Nat} {st : List Value} {ls : aL} {h : aH} {k n : Nat} (hs : S 4 = false) : WP 28 G S (f + 1) 4 ls st h k n = (oA (lget ls 0) (WP 28 G S f) 5 ls st h k n) := by rw [wp_s dd_28_4 rfl hs]; rfl
theorem dd_28_5 : decode (mB 28) 5 = .ok (.getfield 26, 3) := by decide +kernel
theorem u_28_5 {G : aG} {S : Nat → Bool} {f : Nat} {st : List Value} {ls : aL} {h : aH} {k n : Nat} {a : Nat} (hs : S 5 = false) : WP 28 G S (f + 1) 5 ls (.ref a :: st) h k n = (oV (fget h a 2 6) (WP 28 G S f) 8 ls st h k n) := by rw [wp_s dd_28_5 rfl hs]; rfl
theorem dd_28_8 : decode (mB 28) 8 = .ok (.arraylength, 1) := by decide +kernel
theorem u_28_8 {G : aG} {S : Nat → Bool} {f : Nat} {st : List Value} {ls : aL} {h : aH} {k n : Nat} {a : Nat} (hs : S 8 = false) : WP 28 G S (f + 1) 8 ls (.ref a :: st) h k n = (oLen (alen h a) (WP 28 G S f) 9 ls st h k n) := by rw [wp_s dd_28_8 rfl hs]; rfl
theorem dd_28_9 : decode (mB 28) 9 = .ok (.if_icmp .lt 57, 3) := by decide +kernel
theorem u_28_9 {G : aG} {S : Nat → Bool} {f : Nat} {st : List Value} {ls : aL} {h : aH} {k n : Nat} {x y : Int32} (hs : S 9 = false) : WP 28 G S (f + 1) 9 ls (.int y :: .int x :: st) h k n = (if x < y then WP 28 G S f 66 ls st h k n else WP 28 G S f 12 ls st h k n) := by rw [wp_s dd_28_9 rfl hs]; exact br_ite (c := x < y)
theorem dd_28_12 : decode (mB 28) 12 = .ok (.aload_n 0, 1) := by decide +kernel
theorem u_28_12 {G : aG} {S : Nat → Bool} {f : Nat} {st : List Value} {ls : aL} {h : aH} {k n : Nat} (hs : S 12 = false) : WP 28 G S (f + 1) 12 ls st h k n = (oA (lget ls 0) (WP 28 G S f) 13 ls st h k n) := by rw [wp_s dd_28_12 rfl hs]; rfl
theorem dd_28_13 : decode (mB 28) 13 = .ok (.aload_n 0, 1) := by decide +kernel
theorem u_28_13 {G : aG} {S : Nat → Bool} {f : Nat} {st : List Value} {ls : aL} {h : aH} {k n : Nat} (hs : S 13 = false) : WP 28 G S (f + 1) 13 ls st h k n = (oA (lget ls 0) (WP 28 G S f) 14 ls st h k n) := by rw [wp_s dd_28_13 rfl hs]; rfl
theorem dd_28_14 : decode (mB 28) 14 = .ok (.getfield 26, 3) := by decide +kernel
theorem u_28_14 {G : aG} {S : Nat → Bool} {f : Nat} {st : List Value} {ls : aL} {h : aH} {k n : Nat} {a : Nat} (hs : S 14 = false) : WP 28 G S (f + 1) 14 ls (.ref a :: st) h k n = (oV (fget h a 2 6) (WP 28 G S f) 17 ls st h k n) := by rw [wp_s dd_28_14 rfl hs]; rfl
theorem dd_28_17 : decode (mB 28) 17 = .ok (.iconst 2, 1) := by decide +kernel
theorem u_28_17 {G : aG} {S : Nat → Bool} {f : Nat} {st : List Value} {ls : aL} {h : aH} {k n : Nat} (hs : S 17 = false) : WP 28 G S (f + 1) 17 ls st h k n = (WP 28 G S f 18 ls (.int (nI 2) :: st) h k n) := by rw [wp_s dd_28_17 rfl hs]; rfl
theorem dd_28_18 : decode (mB 28) 18 = .ok (.aload_n 0, 1) := by decide +kernel
theorem u_28_18 {G : aG} {S : Nat → Bool} {f : Nat} {st : List Value} {ls : aL} {h : aH} {k n : Nat} (hs : S 18 = false) : WP 28 G S (f + 1) 18 ls st h k n = (oA (lget ls 0) (WP 28 G S f) 19 ls st h k n) := by rw [wp_s dd_28_18 rfl hs]; rfl
theorem dd_28_19 : decode (mB 28) 19 = .ok (.getfield 71, 3) := by decide +kernel
theorem u_28_19 {G : aG} {S : Nat → Bool} {f : Nat} {st : List Value} {ls : aL} {h : aH} {k n : Nat} {a : Nat} (hs : S 19 = false) : WP 28 G S (f + 1) 19 ls (.ref a :: st) h k n = (oV (fget h a 2 3) (WP 28 G S f) 22 ls st h k n) := by rw [wp_s dd_28_19 rfl hs]; rfl
theorem dd_28_22 : decode (mB 28) 22 = .ok (.imul, 1) := by decide +kernel
theorem u_28_22 {G : aG} {S : Nat → Bool} {f : Nat} {st : List Value} {ls : aL} {h : aH} {k n : Nat} {x y : Int32} (hs : S 22 = false) : WP 28 G S (f + 1) 22 ls (.int y :: .int x :: st) h k n = (WP 28 G S f 23 ls (.int (x * y) :: st) h k n) := by rw [wp_s dd_28_22 rfl hs]; rfl
theorem dd_28_23 : decode (mB 28) 23 = .ok (.invokestatic 133, 3) := by decide +kernel
theorem u_28_23 {G : aG} {S : Nat → Bool} {f : Nat} {st : List Value} {ls : aL} {h : aH} {k n : Nat} {v1 v2 : Value} (hs : S 23 = false) : WP 28 G S (f + 1) 23 ls (v2 :: v1 :: st) h k n = (CAL G (WP 28 G S f) 18 [v1, v2] 26 ls st h k n) := by rw [wp_s dd_28_23 rfl hs]; rfl
theorem dd_28_26 : decode (mB 28) 26 = .ok (.putfield 26, 3) := by decide +kernel
theorem u_28_26 {G : aG} {S : Nat → Bool} {f : Nat} {st : List Value} {ls : aL} {h : aH} {k n : Nat} {a : Nat} {x : Nat} (hs : S 26 = false) : WP 28 G S (f + 1) 26 ls (.ref x :: .ref a :: st) h k n = (oH (fput h a 2 6 (.ref x)) (WP 28 G S f) 29 ls st k n) := by rw [wp_s dd_28_26 rfl hs]; rfl
theorem dd_28_29 : decode (mB 28) 29 = .ok (.aload_n 0, 1) := by decide +kernel
theorem u_28_29 {G : aG} {S : Nat → Bool} {f : Nat} {st : List Value} {ls : aL} {h : aH} {k n : Nat} (hs : S 29 = false) : WP 28 G S (f + 1) 29 ls st h k n = (oA (lget ls 0) (WP 28 G S f) 30 ls st h k n) := by rw [wp_s dd_28_29 rfl hs]; rfl
theorem dd_28_30 : decode (mB 28) 30 = .ok (.aload_n 0, 1) := by decide +kernel
theorem u_28_30 {G : aG} {S : Nat → Bool} {f : Nat} {st : List Value} {ls : aL} {h : aH} {k n : Nat} (hs : S 30 = false) : WP 28 G S (f + 1) 30 ls st h k n = (oA (lget ls 0) (WP 28 G S f) 31 ls st h k n) := by rw [wp_s dd_28_30 rfl hs]; rfl
theorem dd_28_31 : decode (mB 28) 31 = .ok (.getfield 29, 3) := by decide +kernel
theorem u_28_31 {G : aG} {S : Nat → Bool} {f : Nat} {st : List Value} {ls : aL} {h : aH} {k n : Nat} {a : Nat} (hs : S 31 = false) : WP 28 G S (f + 1) 31 ls (.ref a :: st) h k n = (oV (fget h a 2 7) (WP 28 G S f) 34 ls st h k n) := by rw [wp_s dd_28_31 rfl hs]; rfl
theorem dd_28_34 : decode (mB 28) 34 = .ok (.iconst 2, 1) := by decide +kernel
theorem u_28_34 {G : aG} {S : Nat → Bool} {f : Nat} {st : List Value} {ls : aL} {h : aH} {k n : Nat} (hs : S 34 = false) : WP 28 G S (f + 1) 34 ls st h k n = (WP 28 G S f 35 ls (.int (nI 2) :: st) h k n) := by rw [wp_s dd_28_34 rfl hs]; rfl
theorem dd_28_35 : decode (mB 28) 35 = .ok (.aload_n 0, 1) := by decide +kernel
theorem u_28_35 {G : aG} {S : Nat → Bool} {f : Nat} {st : List Value} {ls : aL} {h : aH} {k n : Nat} (hs : S 35 = false) : WP 28 G S (f + 1) 35 ls st h k n = (oA (lget ls 0) (WP 28 G S f) 36 ls st h k n) := by rw [wp_s dd_28_35 rfl hs]; rfl
theorem dd_28_36 : decode (mB 28) 36 = .ok (.getfield 71, 3) := by decide +kernel
theorem u_28_36 {G : aG} {S : Nat → Bool} {f : Nat} {st : List Value} {ls : aL} {h : aH} {k n : Nat} {a : Nat} (hs : S 36 = false) : WP 28 G S (f + 1) 36 ls (.ref a :: st) h k n = (oV (fget h a 2 3) (WP 28 G S f) 39 ls st h k n) := by rw [wp_s dd_28_36 rfl hs]; rfl
theorem dd_28_39 : decode (mB 28) 39 = .ok (.imul, 1) := by decide +kernel
theorem u_28_39 {G : aG} {S : Nat → Bool} {f : Nat} {st : List Value} {ls : aL} {h : aH} {k n : Nat} {x y : Int32} (hs : S 39 = false) : WP 28 G S (f + 1) 39 ls (.int y :: .int x :: st) h k n = (WP 28 G S f 40 ls (.int (x * y) :: st) h k n) := by rw [wp_s dd_28_39 rfl hs]; rfl
theorem dd_28_40 : decode (mB 28) 40 = .ok (.invokestatic 133, 3) := by decide +kernel
theorem u_28_40 {G : aG} {S : Nat → Bool} {f : Nat} {st : List Value} {ls : aL} {h : aH} {k n : Nat} {v1 v2 : Value} (hs : S 40 = false) : WP 28 G S (f + 1) 40 ls (v2 :: v1 :: st) h k n = (CAL G (WP 28 G S f) 18 [v1, v2] 43 ls st h k n) := by rw [wp_s dd_28_40 rfl hs]; rfl
theorem dd_28_43 : decode (mB 28) 43 = .ok (.putfield 29, 3) := by decide +kernel
theorem u_28_43 {G : aG} {S : Nat → Bool} {f : Nat} {st : List Value} {ls : aL} {h : aH} {k n : Nat} {a : Nat} {x : Nat} (hs : S 43 = false) : WP 28 G S (f + 1) 43 ls (.ref x :: .ref a :: st) h k n = (oH (fput h a 2 7 (.ref x)) (WP 28 G S f) 46 ls st k n) := by rw [wp_s dd_28_43 rfl hs]; rfl
theorem dd_28_46 : decode (mB 28) 46 = .ok (.aload_n 0, 1) := by decide +kernel
theorem u_28_46 {G : aG} {S : Nat → Bool} {f : Nat} {st : List Value} {ls : aL} {h : aH} {k n : Nat} (hs : S 46 = false) : WP 28 G S (f + 1) 46 ls st h k n = (oA (lget ls 0) (WP 28 G S f) 47 ls st h k n) := by rw [wp_s dd_28_46 rfl hs]; rfl
theorem dd_28_47 : decode (mB 28) 47 = .ok (.aload_n 0, 1) := by decide +kernel
theorem u_28_47 {G : aG} {S : Nat → Bool} {f : Nat} {st : List Value} {ls : aL} {h : aH} {k n : Nat} (hs : S 47 = false) : WP 28 G S (f + 1) 47 ls st h k n = (oA (lget ls 0) (WP 28 G S f) 48 ls st h k n) := by rw [wp_s dd_28_47 rfl hs]; rfl
theorem dd_28_48 : decode (mB 28) 48 = .ok (.getfield 22, 3) := by decide +kernel
theorem u_28_48 {G : aG} {S : Nat → Bool} {f : Nat} {st : List Value} {ls : aL} {h : aH} {k n : Nat} {a : Nat} (hs : S 48 = false) : WP 28 G S (f + 1) 48 ls (.ref a :: st) h k n = (oV (fget h a 2 5) (WP 28 G S f) 51 ls st h k n) := by rw [wp_s dd_28_48 rfl hs]; rfl
theorem dd_28_51 : decode (mB 28) 51 = .ok (.iconst 2, 1) := by decide +kernel
theorem u_28_51 {G : aG} {S : Nat → Bool} {f : Nat} {st : List Value} {ls : aL} {h : aH} {k n : Nat} (hs : S 51 = false) : WP 28 G S (f + 1) 51 ls st h k n = (WP 28 G S f 52 ls (.int (nI 2) :: st) h k n) := by rw [wp_s dd_28_51 rfl hs]; rfl
theorem dd_28_52 : decode (mB 28) 52 = .ok (.aload_n 0, 1) := by decide +kernel
theorem u_28_52 {G : aG} {S : Nat → Bool} {f : Nat} {st : List Value} {ls : aL} {h : aH} {k n : Nat} (hs : S 52 = false) : WP 28 G S (f + 1) 52 ls st h k n = (oA (lget ls 0) (WP 28 G S f) 53 ls st h k n) := by rw [wp_s dd_28_52 rfl hs]; rfl
theorem dd_28_53 : decode (mB 28) 53 = .ok (.getfield 71, 3) := by decide +kernel
theorem u_28_53 {G : aG} {S : Nat → Bool} {f : Nat} {st : List Value} {ls : aL} {h : aH} {k n : Nat} {a : Nat} (hs : S 53 = false) : WP 28 G S (f + 1) 53 ls (.ref a :: st) h k n = (oV (fget h a 2 3) (WP 28 G S f) 56 ls st h k n) := by rw [wp_s dd_28_53 rfl hs]; rfl
theorem dd_28_56 : decode (mB 28) 56 = .ok (.imul, 1) := by decide +kernel
theorem u_28_56 {G : aG} {S : Nat → Bool} {f : Nat} {st : List Value} {ls : aL} {h : aH} {k n : Nat} {x y : Int32} (hs : S 56 = false) : WP 28 G S (f + 1) 56 ls (.int y :: .int x :: st) h k n = (WP 28 G S f 57 ls (.int (x * y) :: st) h k n) := by rw [wp_s dd_28_56 rfl hs]; rfl
theorem dd_28_57 : decode (mB 28) 57 = .ok (.bipush 8, 2) := by decide +kernel
theorem u_28_57 {G : aG} {S : Nat → Bool} {f : Nat} {st : List Value} {ls : aL} {h : aH} {k n : Nat} (hs : S 57 = false) : WP 28 G S (f + 1) 57 ls st h k n = (WP 28 G S f 59 ls (.int (nI 8) :: st) h k n) := by rw [wp_s dd_28_57 rfl hs]; rfl
theorem dd_28_59 : decode (mB 28) 59 = .ok (.imul, 1) := by decide +kernel
theorem u_28_59 {G : aG} {S : Nat → Bool} {f : Nat} {st : List Value} {ls : aL} {h : aH} {k n : Nat} {x y : Int32} (hs : S 59 = false) : WP 28 G S (f + 1) 59 ls (.int y :: .int x :: st) h k n = (WP 28 G S f 60 ls (.int (x * y) :: st) h k n) := by rw [wp_s dd_28_59 rfl hs]; rfl
theorem dd_28_60 : decode (mB 28) 60 = .ok (.invokestatic 133, 3) := by decide +kernel
theorem u_28_60 {G : aG} {S : Nat → Bool} {f : Nat} {st : List Value} {ls : aL} {h : aH} {k n : Nat} {v1 v2 : Value} (hs : S 60 = false) : WP 28 G S (f + 1) 60 ls (v2 :: v1 :: st) h k n = (CAL G (WP 28 G S f) 18 [v1, v2] 63 ls st h k n) := by rw [wp_s dd_28_60 rfl hs]; rfl
theorem dd_28_63 : decode (mB 28) 63 = .ok (.putfield 22, 3) := by decide +kernel
theorem u_28_63 {G : aG} {S : Nat → Bool} {f : Nat} {st : List Value} {ls : aL} {h : aH} {k n : Nat} {a : Nat} {x : Nat} (hs : S 63 = false) : WP 28 G S (f + 1) 63 ls (.ref x :: .ref a :: st) h k n = (oH (fput h a 2 5 (.ref x)) (WP 28 G S f) 66 ls st k n) := by rw [wp_s dd_28_63 rfl hs]; rfl
theorem dd_28_66 : decode (mB 28) 66 = .ok (.aload_n 0, 1) := by decide +kernel
theorem u_28_66 {G : aG} {S : Nat → Bool} {f : Nat} {st : List Value} {ls : aL} {h : aH} {k n : Nat} (hs : S 66 = false) : WP 28 G S (f + 1) 66 ls st h k n = (oA (lget ls 0) (WP 28 G S f) 67 ls st h k n) := by rw [wp_s dd_28_66 rfl hs]; rfl
theorem dd_28_67 : decode (mB 28) 67 = .ok (.getfield 18, 3) := by decide +kernel
theorem u_28_67 {G : aG} {S : Nat → Bool} {f : Nat} {st : List Value} {ls : aL} {h : aH} {k n : Nat} {a : Nat} (hs : S 67 = false) : WP 28 G S (f + 1) 67 ls (.ref a :: st) h k n = (oV (fget h a 2 4) (WP 28 G S f) 70 ls st h k n) := by rw [wp_s dd_28_67 rfl hs]; rfl
theorem dd_28_70 : decode (mB 28) 70 = .ok (.arraylength, 1) := by decide +kernel
theorem u_28_70 {G : aG} {S : Nat → Bool} {f : Nat} {st : List Value} {ls : aL} {h : aH} {k n : Nat} {a : Nat} (hs : S 70 = false) : WP 28 G S (f + 1) 70 ls (.ref a :: st) h k n = (oLen (alen h a) (WP 28 G S f) 71 ls st h k n) := by rw [wp_s dd_28_70 rfl hs]; rfl
theorem dd_28_71 : decode (mB 28) 71 = .ok (.aload_n 0, 1) := by decide +kernel
theorem u_28_71 {G : aG} {S : Nat → Bool} {f : Nat} {st : List Value} {ls : aL} {h : aH} {k n : Nat} (hs : S 71 = false) : WP 28 G S (f + 1) 71 ls st h k n = (oA (lget ls 0) (WP 28 G S f) 72 ls st h k n) := by rw [wp_s dd_28_71 rfl hs]; rfl
theorem dd_28_72 : decode (mB 28) 72 = .ok (.getfield 26, 3) := by decide +kernel
theorem u_28_72 {G : aG} {S : Nat → Bool} {f : Nat} {st : List Value} {ls : aL} {h : aH} {k n : Nat} {a : Nat} (hs : S 72 = false) : WP 28 G S (f + 1) 72 ls (.ref a :: st) h k n = (oV (fget h a 2 6) (WP 28 G S f) 75 ls st h k n) := by rw [wp_s dd_28_72 rfl hs]; rfl
theorem dd_28_75 : decode (mB 28) 75 = .ok (.arraylength, 1) := by decide +kernel
theorem u_28_75 {G : aG} {S : Nat → Bool} {f : Nat} {st : List Value} {ls : aL} {h : aH} {k n : Nat} {a : Nat} (hs : S 75 = false) : WP 28 G S (f + 1) 75 ls (.ref a :: st) h k n = (oLen (alen h a) (WP 28 G S f) 76 ls st h k n) := by rw [wp_s dd_28_75 rfl hs]; rfl
theorem dd_28_76 : decode (mB 28) 76 = .ok (.aload_n 0, 1) := by decide +kernel
theorem u_28_76 {G : aG} {S : Nat → Bool} {f : Nat} {st : List Value} {ls : aL} {h : aH} {k n : Nat} (hs : S 76 = false) : WP 28 G S (f + 1) 76 ls st h k n = (oA (lget ls 0) (WP 28 G S f) 77 ls st h k n) := by rw [wp_s dd_28_76 rfl hs]; rfl
theorem dd_28_77 : decode (mB 28) 77 = .ok (.getfield 68, 3) := by decide +kernel
theorem u_28_77 {G : aG} {S : Nat → Bool} {f : Nat} {st : List Value} {ls : aL} {h : aH} {k n : Nat} {a : Nat} (hs : S 77 = false) : WP 28 G S (f + 1) 77 ls (.ref a :: st) h k n = (oV (fget h a 2 2) (WP 28 G S f) 80 ls st h k n) := by rw [wp_s dd_28_77 rfl hs]; rfl
theorem dd_28_80 : decode (mB 28) 80 = .ok (.imul, 1) := by decide +kernel
theorem u_28_80 {G : aG} {S : Nat → Bool} {f : Nat} {st : List Value} {ls : aL} {h : aH} {k n : Nat} {x y : Int32} (hs : S 80 = false) : WP 28 G S (f + 1) 80 ls (.int y :: .int x :: st) h k n = (WP 28 G S f 81 ls (.int (x * y) :: st) h k n) := by rw [wp_s dd_28_80 rfl hs]; rfl
theorem dd_28_81 : decode (mB 28) 81 = .ok (.if_icmp .ge 24, 3) := by decide +kernel
theorem u_28_81 {G : aG} {S : Nat → Bool} {f : Nat} {st : List Value} {ls : aL} {h : aH} {k n : Nat} {x y : Int32} (hs : S 81 = false) : WP 28 G S (f + 1) 81 ls (.int y :: .int x :: st) h k n = (if y ≤ x then WP 28 G S f 105 ls st h k n else WP 28 G S f 84 ls st h k n) := by rw [wp_s dd_28_81 rfl hs]; exact br_ite (c := y ≤ x)
theorem dd_28_84 : decode (mB 28) 84 = .ok (.aload_n 0, 1) := by decide +kernel
theorem u_28_84 {G : aG} {S : Nat → Bool} {f : Nat} {st : List Value} {ls : aL} {h : aH} {k n : Nat} (hs : S 84 = false) : WP 28 G S (f + 1) 84 ls st h k n = (oA (lget ls 0) (WP 28 G S f) 85 ls st h k n) := by rw [wp_s dd_28_84 rfl hs]; rfl
theorem dd_28_85 : decode (mB 28) 85 = .ok (.aload_n 0, 1) := by decide +kernel
theorem u_28_85 {G : aG} {S : Nat → Bool} {f : Nat} {st : List Value} {ls : aL} {h : aH} {k n : Nat} (hs : S 85 = false) : WP 28 G S (f + 1) 85 ls st h k n = (oA (lget ls 0) (WP 28 G S f) 86 ls st h k n) := by rw [wp_s dd_28_85 rfl hs]; rfl
theorem dd_28_86 : decode (mB 28) 86 = .ok (.getfield 18, 3) := by decide +kernel
theorem u_28_86 {G : aG} {S : Nat → Bool} {f : Nat} {st : List Value} {ls : aL} {h : aH} {k n : Nat} {a : Nat} (hs : S 86 = false) : WP 28 G S (f + 1) 86 ls (.ref a :: st) h k n = (oV (fget h a 2 4) (WP 28 G S f) 89 ls st h k n) := by rw [wp_s dd_28_86 rfl hs]; rfl
theorem dd_28_89 : decode (mB 28) 89 = .ok (.aload_n 0, 1) := by decide +kernel
theorem u_28_89 {G : aG} {S : Nat → Bool} {f : Nat} {st : List Value} {ls : aL} {h : aH} {k n : Nat} (hs : S 89 = false) : WP 28 G S (f + 1) 89 ls st h k n = (oA (lget ls 0) (WP 28 G S f) 90 ls st h k n) := by rw [wp_s dd_28_89 rfl hs]; rfl
theorem dd_28_90 : decode (mB 28) 90 = .ok (.getfield 26, 3) := by decide +kernel
theorem u_28_90 {G : aG} {S : Nat → Bool} {f : Nat} {st : List Value} {ls : aL} {h : aH} {k n : Nat} {a : Nat} (hs : S 90 = false) : WP 28 G S (f + 1) 90 ls (.ref a :: st) h k n = (oV (fget h a 2 6) (WP 28 G S f) 93 ls st h k n) := by rw [wp_s dd_28_90 rfl hs]; rfl
theorem dd_28_93 : decode (mB 28) 93 = .ok (.arraylength, 1) := by decide +kernel
theorem u_28_93 {G : aG} {S : Nat → Bool} {f : Nat} {st : List Value} {ls : aL} {h : aH} {k n : Nat} {a : Nat} (hs : S 93 = false) : WP 28 G S (f + 1) 93 ls (.ref a :: st) h k n = (oLen (alen h a) (WP 28 G S f) 94 ls st h k n) := by rw [wp_s dd_28_93 rfl hs]; rfl
theorem dd_28_94 : decode (mB 28) 94 = .ok (.aload_n 0, 1) := by decide +kernel
theorem u_28_94 {G : aG} {S : Nat → Bool} {f : Nat} {st : List Value} {ls : aL} {h : aH} {k n : Nat} (hs : S 94 = false) : WP 28 G S (f + 1) 94 ls st h k n = (oA (lget ls 0) (WP 28 G S f) 95 ls st h k n) := by rw [wp_s dd_28_94 rfl hs]; rfl
theorem dd_28_95 : decode (mB 28) 95 = .ok (.getfield 68, 3) := by decide +kernel
theorem u_28_95 {G : aG} {S : Nat → Bool} {f : Nat} {st : List Value} {ls : aL} {h : aH} {k n : Nat} {a : Nat} (hs : S 95 = false) : WP 28 G S (f + 1) 95 ls (.ref a :: st) h k n = (oV (fget h a 2 2) (WP 28 G S f) 98 ls st h k n) := by rw [wp_s dd_28_95 rfl hs]; rfl
theorem dd_28_98 : decode (mB 28) 98 = .ok (.imul, 1) := by decide +kernel
theorem u_28_98 {G : aG} {S : Nat → Bool} {f : Nat} {st : List Value} {ls : aL} {h : aH} {k n : Nat} {x y : Int32} (hs : S 98 = false) : WP 28 G S (f + 1) 98 ls (.int y :: .int x :: st) h k n = (WP 28 G S f 99 ls (.int (x * y) :: st) h k n) := by rw [wp_s dd_28_98 rfl hs]; rfl
theorem dd_28_99 : decode (mB 28) 99 = .ok (.invokestatic 137, 3) := by decide +kernel
theorem u_28_99 {G : aG} {S : Nat → Bool} {f : Nat} {st : List Value} {ls : aL} {h : aH} {k n : Nat} {v1 v2 : Value} (hs : S 99 = false) : WP 28 G S (f + 1) 99 ls (v2 :: v1 :: st) h k n = (CAL G (WP 28 G S f) 29 [v1, v2] 102 ls st h k n) := by rw [wp_s dd_28_99 rfl hs]; rfl
theorem dd_28_102 : decode (mB 28) 102 = .ok (.putfield 18, 3) := by decide +kernel
theorem u_28_102 {G : aG} {S : Nat → Bool} {f : Nat} {st : List Value} {ls : aL} {h : aH} {k n : Nat} {a : Nat} {x : Nat} (hs : S 102 = false) : WP 28 G S (f + 1) 102 ls (.ref x :: .ref a :: st) h k n = (oH (fput h a 2 4 (.ref x)) (WP 28 G S f) 105 ls st k n) := by rw [wp_s dd_28_102 rfl hs]; rfl
theorem dd_28_105 : decode (mB 28) 105 = .ok (.return_, 1) := by decide +kernel
theorem u_28_105 {G : aG} {S : Nat → Bool} {f : Nat} {ls : aL} {h : aH} {k n : Nat} (hs : S 105 = false) : WP 28 G S (f + 1) 105 ls [] h k n = (RET G none h k n) := by rw [wp_s dd_28_105 rfl hs]; rfl
theorem dd_30_0 : decode (mB 30) 0 = .ok (.aload_n 0, 1) := by decide +kernel
theorem u_30_0 {G : aG} {S : Nat → Bool} {f : Nat} {st : List Value} {ls : aL} {h : aH} {k n : Nat} (hs : S 0 = false) : WP 30 G S (f + 1) 0 ls st h k n = (oA (lget ls 0) (WP 30 G S f) 1 ls st h k n) := by rw [wp_s dd_30_0 rfl hs]; rfl
theorem dd_30_1 : decode (mB 30) 1 = .ok (.invokespecial 3, 3) := by decide +kernel
theorem u_30_1 {G : aG} {S : Nat → Bool} {f : Nat} {st : List Value} {ls : aL} {h : aH} {k n : Nat} {a : Nat} (hs : S 1 = false) : WP 30 G S (f + 1) 1 ls (.ref a :: st) h k n = ((st.map fun v => v.category).sum ≤ 8 ∧ 1 ≤ gD G ∧ WP 30 G S f 4 ls st h k n) := by rw [wp_s dd_30_1 rfl hs]; rfl
theorem dd_30_4 : decode (mB 30) 4 = .ok (.aload_n 0, 1) := by decide +kernel
theorem u_30_4 {G : aG} {S : Nat → Bool} {f : Nat} {st : List Value} {ls : aL} {h : aH} {k n : Nat} (hs : S 4 = false) : WP 30 G S (f + 1) 4 ls st h k n = (oA (lget ls 0) (WP 30 G S f) 5 ls st h k n) := by rw [wp_s dd_30_4 rfl hs]; rfl
theorem dd_30_5 : decode (mB 30) 5 = .ok (.bipush 16, 2) := by decide +kernel
theorem u_30_5 {G : aG} {S : Nat → Bool} {f : Nat} {st : List Value} {ls : aL} {h : aH} {k n : Nat} (hs : S 5 = false) : WP 30 G S (f + 1) 5 ls st h k n = (WP 30 G S f 7 ls (.int (nI 16) :: st) h k n) := by rw [wp_s dd_30_5 rfl hs]; rfl
theorem dd_30_7 : decode (mB 30) 7 = .ok (.newarray .int, 2) := by decide +kernel
theorem u_30_7 {G : aG} {S : Nat → Bool} {f : Nat} {st : List Value} {ls : aL} {h : aH} {k n : Nat} {x : Int32} (hs : S 7 = false) : WP 30 G S (f + 1) 7 ls (.int x :: st) h k n = (¬ x < 0 ∧ x.toNatClampNeg * 4 ≤ 536870912 ∧ oNew G (cI x.toNatClampNeg) x.toNatClampNeg (WP 30 G S f) 9 ls st h k n) := by rw [wp_s dd_30_7 rfl hs]; rfl
theorem dd_30_9 : decode (mB 30) 9 = .ok (.putfield 11, 3) := by decide +kernel
theorem u_30_9 {G : aG} {S : Nat → Bool} {f : Nat} {st : List Value} {ls : aL} {h : aH} {k n : Nat} {a : Nat} {x : Nat} (hs : S 9 = false) : WP 30 G S (f + 1) 9 ls (.ref x :: .ref a :: st) h k n = (oH (fput h a 6 0 (.ref x)) (WP 30 G S f) 12 ls st k n) := by rw [wp_s dd_30_9 rfl hs]; rfl
theorem dd_30_12 : decode (mB 30) 12 = .ok (.aload_n 0, 1) := by decide +kernel
theorem u_30_12 {G : aG} {S : Nat → Bool} {f : Nat} {st : List Value} {ls : aL} {h : aH} {k n : Nat} (hs : S 12 = false) : WP 30 G S (f + 1) 12 ls st h k n = (oA (lget ls 0) (WP 30 G S f) 13 ls st h k n) := by rw [wp_s dd_30_12 rfl hs]; rfl
theorem dd_30_13 : decode (mB 30) 13 = .ok (.bipush 16, 2) := by decide +kernel
theorem u_30_13 {G : aG} {S : Nat → Bool} {f : Nat} {st : List Value} {ls : aL} {h : aH} {k n : Nat} (hs : S 13 = false) : WP 30 G S (f + 1) 13 ls st h k n = (WP 30 G S f 15 ls (.int (nI 16) :: st) h k n) := by rw [wp_s dd_30_13 rfl hs]; rfl
theorem dd_30_15 : decode (mB 30) 15 = .ok (.newarray .int, 2) := by decide +kernel
theorem u_30_15 {G : aG} {S : Nat → Bool} {f : Nat} {st : List Value} {ls : aL} {h : aH} {k n : Nat} {x : Int32} (hs : S 15 = false) : WP 30 G S (f + 1) 15 ls (.int x :: st) h k n = (¬ x < 0 ∧ x.toNatClampNeg * 4 ≤ 536870912 ∧ oNew G (cI x.toNatClampNeg) x.toNatClampNeg (WP 30 G S f) 17 ls st h k n) := by rw [wp_s dd_30_15 rfl hs]; rfl
theorem dd_30_17 : decode (mB 30) 17 = .ok (.putfield 15, 3) := by decide +kernel
theorem u_30_17 {G : aG} {S : Nat → Bool} {f : Nat} {st : List Value} {ls : aL} {h : aH} {k n : Nat} {a : Nat} {x : Nat} (hs : S 17 = false) : WP 30 G S (f + 1) 17 ls (.ref x :: .ref a :: st) h k n = (oH (fput h a 6 1 (.ref x)) (WP 30 G S f) 20 ls st k n) := by rw [wp_s dd_30_17 rfl hs]; rfl
theorem dd_30_20 : decode (mB 30) 20 = .ok (.return_, 1) := by decide +kernel
theorem u_30_20 {G : aG} {S : Nat → Bool} {f : Nat} {ls : aL} {h : aH} {k n : Nat} (hs : S 20 = false) : WP 30 G S (f + 1) 20 ls [] h k n = (RET G none h k n) := by rw [wp_s dd_30_20 rfl hs]; rfl
theorem dd_55_0 : decode (mB 55) 0 = .ok (.iconst 0, 1) := by decide +kernel
theorem u_55_0 {G : aG} {S : Nat → Bool} {f : Nat} {st : List Value} {ls : aL} {h : aH} {k n : Nat} (hs : S 0 = false) : WP 55 G S (f + 1) 0 ls st h k n = (WP 55 G S f 1 ls (.int (nI 0) :: st) h k n) := by rw [wp_s dd_55_0 rfl hs]; rfl
theorem dd_55_1 : decode (mB 55) 1 = .ok (.istore_n 2, 1) := by decide +kernel
theorem u_55_1 {G : aG} {S : Nat → Bool} {f : Nat} {st : List Value} {ls : aL} {h : aH} {k n : Nat} {x : Int32} (hs : S 1 = false) : WP 55 G S (f + 1) 1 ls (.int x :: st) h k n = (WP 55 G S f 2 (lput1 ls 2 (.int x)) st h k n) := by rw [wp_s dd_55_1 rfl hs]; rfl
theorem dd_55_2 : decode (mB 55) 2 = .ok (.iload_n 2, 1) := by decide +kernel
theorem u_55_2 {G : aG} {S : Nat → Bool} {f : Nat} {st : List Value} {ls : aL} {h : aH} {k n : Nat} (hs : S 2 = false) : WP 55 G S (f + 1) 2 ls st h k n = (oI (lget ls 2) (WP 55 G S f) 3 ls st h k n) := by rw [wp_s dd_55_2 rfl hs]; rfl
theorem v_55_2 {G : aG} {S : Nat → Bool} {f : Nat} {st : List Value} {ls : aL} {h : aH} {k n : Nat} : WQ 55 G S f 2 ls st h k n = (oI (lget ls 2) (WP 55 G S f) 3 ls st h k n) := by rw [wq_s dd_55_2 rfl]; rfl
theorem dd_55_3 : decode (mB 55) 3 = .ok (.bipush 9, 2) := by decide +kernel
theorem u_55_3 {G : aG} {S : Nat → Bool} {f : Nat} {st : List Value} {ls : aL} {h : aH} {k n : Nat} (hs : S 3 = false) : WP 55 G S (f + 1) 3 ls st h k n = (WP 55 G S f 5 ls (.int (nI 9) :: st) h k n) := by rw [wp_s dd_55_3 rfl hs]; rfl
theorem dd_55_5 : decode (mB 55) 5 = .ok (.if_icmp .ge 27, 3) := by decide +kernel
theorem u_55_5 {G : aG} {S : Nat → Bool} {f : Nat} {st : List Value} {ls : aL} {h : aH} {k n : Nat} {x y : Int32} (hs : S 5 = false) : WP 55 G S (f + 1) 5 ls (.int y :: .int x :: st) h k n = (if y ≤ x then WP 55 G S f 32 ls st h k n else WP 55 G S f 8 ls st h k n) := by rw [wp_s dd_55_5 rfl hs]; exact br_ite (c := y ≤ x)
theorem dd_55_8 : decode (mB 55) 8 = .ok (.iload_n 2, 1) := by decide +kernel
theorem u_55_8 {G : aG} {S : Nat → Bool} {f : Nat} {st : List Value} {ls : aL} {h : aH} {k n : Nat} (hs : S 8 = false) : WP 55 G S (f + 1) 8 ls st h k n = (oI (lget ls 2) (WP 55 G S f) 9 ls st h k n) := by rw [wp_s dd_55_8 rfl hs]; rfl
theorem dd_55_9 : decode (mB 55) 9 = .ok (.aload_n 1, 1) := by decide +kernel
theorem u_55_9 {G : aG} {S : Nat → Bool} {f : Nat} {st : List Value} {ls : aL} {h : aH} {k n : Nat} (hs : S 9 = false) : WP 55 G S (f + 1) 9 ls st h k n = (oA (lget ls 1) (WP 55 G S f) 10 ls st h k n) := by rw [wp_s dd_55_9 rfl hs]; rfl
theorem dd_55_10 : decode (mB 55) 10 = .ok (.arraylength, 1) := by decide +kernel
theorem u_55_10 {G : aG} {S : Nat → Bool} {f : Nat} {st : List Value} {ls : aL} {h : aH} {k n : Nat} {a : Nat} (hs : S 10 = false) : WP 55 G S (f + 1) 10 ls (.ref a :: st) h k n = (oLen (alen h a) (WP 55 G S f) 11 ls st h k n) := by rw [wp_s dd_55_10 rfl hs]; rfl
theorem dd_55_11 : decode (mB 55) 11 = .ok (.if_icmp .ge 21, 3) := by decide +kernel
theorem u_55_11 {G : aG} {S : Nat → Bool} {f : Nat} {st : List Value} {ls : aL} {h : aH} {k n : Nat} {x y : Int32} (hs : S 11 = false) : WP 55 G S (f + 1) 11 ls (.int y :: .int x :: st) h k n = (if y ≤ x then WP 55 G S f 32 ls st h k n else WP 55 G S f 14 ls st h k n) := by rw [wp_s dd_55_11 rfl hs]; exact br_ite (c := y ≤ x)
theorem dd_55_14 : decode (mB 55) 14 = .ok (.aload_n 0, 1) := by decide +kernel
theorem u_55_14 {G : aG} {S : Nat → Bool} {f : Nat} {st : List Value} {ls : aL} {h : aH} {k n : Nat} (hs : S 14 = false) : WP 55 G S (f + 1) 14 ls st h k n = (oA (lget ls 0) (WP 55 G S f) 15 ls st h k n) := by rw [wp_s dd_55_14 rfl hs]; rfl
theorem dd_55_15 : decode (mB 55) 15 = .ok (.getfield 11, 3) := by decide +kernel
theorem u_55_15 {G : aG} {S : Nat → Bool} {f : Nat} {st : List Value} {ls : aL} {h : aH} {k n : Nat} {a : Nat} (hs : S 15 = false) : WP 55 G S (f + 1) 15 ls (.ref a :: st) h k n = (oV (fget h a 3 0) (WP 55 G S f) 18 ls st h k n) := by rw [wp_s dd_55_15 rfl hs]; rfl
theorem dd_55_18 : decode (mB 55) 18 = .ok (.iload_n 2, 1) := by decide +kernel
theorem u_55_18 {G : aG} {S : Nat → Bool} {f : Nat} {st : List Value} {ls : aL} {h : aH} {k n : Nat} (hs : S 18 = false) : WP 55 G S (f + 1) 18 ls st h k n = (oI (lget ls 2) (WP 55 G S f) 19 ls st h k n) := by rw [wp_s dd_55_18 rfl hs]; rfl
theorem dd_55_19 : decode (mB 55) 19 = .ok (.aaload, 1) := by decide +kernel
theorem u_55_19 {G : aG} {S : Nat → Bool} {f : Nat} {st : List Value} {ls : aL} {h : aH} {k n : Nat} {i : Int32} {a : Nat} (hs : S 19 = false) : WP 55 G S (f + 1) 19 ls (.int i :: .ref a :: st) h k n = (oQld (qget h a) i (WP 55 G S f) 20 ls st h k n) := by rw [wp_s dd_55_19 rfl hs]; rfl
theorem dd_55_20 : decode (mB 55) 20 = .ok (.aload_n 1, 1) := by decide +kernel
theorem u_55_20 {G : aG} {S : Nat → Bool} {f : Nat} {st : List Value} {ls : aL} {h : aH} {k n : Nat} (hs : S 20 = false) : WP 55 G S (f + 1) 20 ls st h k n = (oA (lget ls 1) (WP 55 G S f) 21 ls st h k n) := by rw [wp_s dd_55_20 rfl hs]; rfl
theorem dd_55_21 : decode (mB 55) 21 = .ok (.iload_n 2, 1) := by decide +kernel
theorem u_55_21 {G : aG} {S : Nat → Bool} {f : Nat} {st : List Value} {ls : aL} {h : aH} {k n : Nat} (hs : S 21 = false) : WP 55 G S (f + 1) 21 ls st h k n = (oI (lget ls 2) (WP 55 G S f) 22 ls st h k n) := by rw [wp_s dd_55_21 rfl hs]; rfl
theorem dd_55_22 : decode (mB 55) 22 = .ok (.laload, 1) := by decide +kernel
theorem u_55_22 {G : aG} {S : Nat → Bool} {f : Nat} {st : List Value} {ls : aL} {h : aH} {k n : Nat} {i : Int32} {a : Nat} (hs : S 22 = false) : WP 55 G S (f + 1) 22 ls (.int i :: .ref a :: st) h k n = (oJld (jget h a) i (WP 55 G S f) 23 ls st h k n) := by rw [wp_s dd_55_22 rfl hs]; rfl
theorem dd_55_23 : decode (mB 55) 23 = .ok (.invokevirtual 20, 3) := by decide +kernel
theorem u_55_23 {G : aG} {S : Nat → Bool} {f : Nat} {st : List Value} {ls : aL} {h : aH} {k n : Nat} {v1 : Value} {b : Nat} (hs : S 23 = false) : WP 55 G S (f + 1) 23 ls (v1 :: .ref b :: st) h k n = (rcv (hget h b) 2 ∧ CAL G (WP 55 G S f) 9 [.ref b, v1] 26 ls st h k n) := by rw [wp_s dd_55_23 rfl hs]; rfl
theorem dd_55_26 : decode (mB 55) 26 = .ok (.iinc 2 1, 3) := by decide +kernel
theorem u_55_26 {G : aG} {S : Nat → Bool} {f : Nat} {st : List Value} {ls : aL} {h : aH} {k n : Nat} (hs : S 26 = false) : WP 55 G S (f + 1) 26 ls st h k n = (oInc (lget ls 2) (nI 1) (WP 55 G S f) 2 29 ls st h k n) := by rw [wp_s dd_55_26 rfl hs]; rfl
theorem dd_55_29 : decode (mB 55) 29 = .ok (.goto (-27), 3) := by decide +kernel
theorem u_55_29 {G : aG} {S : Nat → Bool} {f : Nat} {st : List Value} {ls : aL} {h : aH} {k n : Nat} (hs : S 29 = false) : WP 55 G S (f + 1) 29 ls st h k n = (WP 55 G S f 2 ls st h k n) := by rw [wp_s dd_55_29 rfl hs]; rfl
theorem dd_55_32 : decode (mB 55) 32 = .ok (.return_, 1) := by decide +kernel
theorem u_55_32 {G : aG} {S : Nat → Bool} {f : Nat} {ls : aL} {h : aH} {k n : Nat} (hs : S 32 = false) : WP 55 G S (f + 1) 32 ls [] h k n = (RET G none h k n) := by rw [wp_s dd_55_32 rfl hs]; rfl
theorem dd_58_0 : decode (mB 58) 0 = .ok (.aload_n 0, 1) := by decide +kernel
theorem u_58_0 {G : aG} {S : Nat → Bool} {f : Nat} {st : List Value} {ls : aL} {h : aH} {k n : Nat} (hs : S 0 = false) : WP 58 G S (f + 1) 0 ls st h k n = (oA (lget ls 0) (WP 58 G S f) 1 ls st h k n) := by rw [wp_s dd_58_0 rfl hs]; rfl
theorem dd_58_1 : decode (mB 58) 1 = .ok (.getfield 11, 3) := by decide +kernel
theorem u_58_1 {G : aG} {S : Nat → Bool} {f : Nat} {st : List Value} {ls : aL} {h : aH} {k n : Nat} {a : Nat} (hs : S 1 = false) : WP 58 G S (f + 1) 1 ls (.ref a :: st) h k n = (oV (fget h a 3 0) (WP 58 G S f) 4 ls st h k n) := by rw [wp_s dd_58_1 rfl hs]; rfl
theorem dd_58_4 : decode (mB 58) 4 = .ok (.iload_n 1, 1) := by decide +kernel
theorem u_58_4 {G : aG} {S : Nat → Bool} {f : Nat} {st : List Value} {ls : aL} {h : aH} {k n : Nat} (hs : S 4 = false) : WP 58 G S (f + 1) 4 ls st h k n = (oI (lget ls 1) (WP 58 G S f) 5 ls st h k n) := by rw [wp_s dd_58_4 rfl hs]; rfl
theorem dd_58_5 : decode (mB 58) 5 = .ok (.invokestatic 24, 3) := by decide +kernel
theorem u_58_5 {G : aG} {S : Nat → Bool} {f : Nat} {st : List Value} {ls : aL} {h : aH} {k n : Nat} {v1 : Value} (hs : S 5 = false) : WP 58 G S (f + 1) 5 ls (v1 :: st) h k n = (CAL G (WP 58 G S f) 51 [v1] 8 ls st h k n) := by rw [wp_s dd_58_5 rfl hs]; rfl
theorem dd_58_8 : decode (mB 58) 8 = .ok (.ifCond .eq 7, 3) := by decide +kernel
theorem u_58_8 {G : aG} {S : Nat → Bool} {f : Nat} {st : List Value} {ls : aL} {h : aH} {k n : Nat} {x : Int32} (hs : S 8 = false) : WP 58 G S (f + 1) 8 ls (.int x :: st) h k n = (if x = nI 0 then WP 58 G S f 15 ls st h k n else WP 58 G S f 11 ls st h k n) := by rw [wp_s dd_58_8 rfl hs]; exact br_ite (c := x = nI 0)
theorem dd_58_11 : decode (mB 58) 11 = .ok (.iload_n 1, 1) := by decide +kernel
theorem u_58_11 {G : aG} {S : Nat → Bool} {f : Nat} {st : List Value} {ls : aL} {h : aH} {k n : Nat} (hs : S 11 = false) : WP 58 G S (f + 1) 11 ls st h k n = (oI (lget ls 1) (WP 58 G S f) 12 ls st h k n) := by rw [wp_s dd_58_11 rfl hs]; rfl
theorem dd_58_12 : decode (mB 58) 12 = .ok (.goto 5, 3) := by decide +kernel
theorem u_58_12 {G : aG} {S : Nat → Bool} {f : Nat} {st : List Value} {ls : aL} {h : aH} {k n : Nat} (hs : S 12 = false) : WP 58 G S (f + 1) 12 ls st h k n = (WP 58 G S f 17 ls st h k n) := by rw [wp_s dd_58_12 rfl hs]; rfl
theorem dd_58_15 : decode (mB 58) 15 = .ok (.bipush 8, 2) := by decide +kernel
theorem u_58_15 {G : aG} {S : Nat → Bool} {f : Nat} {st : List Value} {ls : aL} {h : aH} {k n : Nat} (hs : S 15 = false) : WP 58 G S (f + 1) 15 ls st h k n = (WP 58 G S f 17 ls (.int (nI 8) :: st) h k n) := by rw [wp_s dd_58_15 rfl hs]; rfl
theorem dd_58_17 : decode (mB 58) 17 = .ok (.aaload, 1) := by decide +kernel
theorem u_58_17 {G : aG} {S : Nat → Bool} {f : Nat} {st : List Value} {ls : aL} {h : aH} {k n : Nat} {i : Int32} {a : Nat} (hs : S 17 = false) : WP 58 G S (f + 1) 17 ls (.int i :: .ref a :: st) h k n = (oQld (qget h a) i (WP 58 G S f) 18 ls st h k n) := by rw [wp_s dd_58_17 rfl hs]; rfl
theorem dd_58_18 : decode (mB 58) 18 = .ok (.areturn, 1) := by decide +kernel
theorem u_58_18 {G : aG} {S : Nat → Bool} {f : Nat} {ls : aL} {h : aH} {k n : Nat} {a : Nat} (hs : S 18 = false) : WP 58 G S (f + 1) 18 ls [.ref a] h k n = (RET G (some (.ref a)) h k n) := by rw [wp_s dd_58_18 rfl hs]; rfl
theorem dd_60_0 : decode (mB 60) 0 = .ok (.aload_n 0, 1) := by decide +kernel
theorem u_60_0 {G : aG} {S : Nat → Bool} {f : Nat} {st : List Value} {ls : aL} {h : aH} {k n : Nat} (hs : S 0 = false) : WP 60 G S (f + 1) 0 ls st h k n = (oA (lget ls 0) (WP 60 G S f) 1 ls st h k n) := by rw [wp_s dd_60_0 rfl hs]; rfl
theorem dd_60_1 : decode (mB 60) 1 = .ok (.iload_n 1, 1) := by decide +kernel
theorem u_60_1 {G : aG} {S : Nat → Bool} {f : Nat} {st : List Value} {ls : aL} {h : aH} {k n : Nat} (hs : S 1 = false) : WP 60 G S (f + 1) 1 ls st h k n = (oI (lget ls 1) (WP 60 G S f) 2 ls st h k n) := by rw [wp_s dd_60_1 rfl hs]; rfl
theorem dd_60_2 : decode (mB 60) 2 = .ok (.invokevirtual 94, 3) := by decide +kernel
theorem u_60_2 {G : aG} {S : Nat → Bool} {f : Nat} {st : List Value} {ls : aL} {h : aH} {k n : Nat} {v1 : Value} {b : Nat} (hs : S 2 = false) : WP 60 G S (f + 1) 2 ls (v1 :: .ref b :: st) h k n = (rcv (hget h b) 2 ∧ CAL G (WP 60 G S f) 61 [.ref b, v1] 5 ls st h k n) := by rw [wp_s dd_60_2 rfl hs]; rfl
theorem dd_60_5 : decode (mB 60) 5 = .ok (.sipush 256, 3) := by decide +kernel
theorem u_60_5 {G : aG} {S : Nat → Bool} {f : Nat} {st : List Value} {ls : aL} {h : aH} {k n : Nat} (hs : S 5 = false) : WP 60 G S (f + 1) 5 ls st h k n = (WP 60 G S f 8 ls (.int (nI 256) :: st) h k n) := by rw [wp_s dd_60_5 rfl hs]; rfl
theorem dd_60_8 : decode (mB 60) 8 = .ok (.iand, 1) := by decide +kernel
theorem u_60_8 {G : aG} {S : Nat → Bool} {f : Nat} {st : List Value} {ls : aL} {h : aH} {k n : Nat} {x y : Int32} (hs : S 8 = false) : WP 60 G S (f + 1) 8 ls (.int y :: .int x :: st) h k n = (WP 60 G S f 9 ls (.int (x &&& y) :: st) h k n) := by rw [wp_s dd_60_8 rfl hs]; rfl
theorem dd_60_9 : decode (mB 60) 9 = .ok (.ifCond .eq 7, 3) := by decide +kernel
theorem u_60_9 {G : aG} {S : Nat → Bool} {f : Nat} {st : List Value} {ls : aL} {h : aH} {k n : Nat} {x : Int32} (hs : S 9 = false) : WP 60 G S (f + 1) 9 ls (.int x :: st) h k n = (if x = nI 0 then WP 60 G S f 16 ls st h k n else WP 60 G S f 12 ls st h k n) := by rw [wp_s dd_60_9 rfl hs]; exact br_ite (c := x = nI 0)
theorem dd_60_12 : decode (mB 60) 12 = .ok (.iconst 1, 1) := by decide +kernel
theorem u_60_12 {G : aG} {S : Nat → Bool} {f : Nat} {st : List Value} {ls : aL} {h : aH} {k n : Nat} (hs : S 12 = false) : WP 60 G S (f + 1) 12 ls st h k n = (WP 60 G S f 13 ls (.int (nI 1) :: st) h k n) := by rw [wp_s dd_60_12 rfl hs]; rfl
theorem dd_60_13 : decode (mB 60) 13 = .ok (.goto 4, 3) := by decide +kernel
theorem u_60_13 {G : aG} {S : Nat → Bool} {f : Nat} {st : List Value} {ls : aL} {h : aH} {k n : Nat} (hs : S 13 = false) : WP 60 G S (f + 1) 13 ls st h k n = (WP 60 G S f 17 ls st h k n) := by rw [wp_s dd_60_13 rfl hs]; rfl
theorem dd_60_16 : decode (mB 60) 16 = .ok (.iconst 0, 1) := by decide +kernel
theorem u_60_16 {G : aG} {S : Nat → Bool} {f : Nat} {st : List Value} {ls : aL} {h : aH} {k n : Nat} (hs : S 16 = false) : WP 60 G S (f + 1) 16 ls st h k n = (WP 60 G S f 17 ls (.int (nI 0) :: st) h k n) := by rw [wp_s dd_60_16 rfl hs]; rfl
theorem dd_60_17 : decode (mB 60) 17 = .ok (.ireturn, 1) := by decide +kernel
theorem u_60_17 {G : aG} {S : Nat → Bool} {f : Nat} {ls : aL} {h : aH} {k n : Nat} {x : Int32} (hs : S 17 = false) : WP 60 G S (f + 1) 17 ls [.int x] h k n = (cond (x == nI 0 || x == nI 1) (RET G (some (.int x)) h k n) False) := by rw [wp_s dd_60_17 rfl hs]; rfl
theorem dd_61_0 : decode (mB 61) 0 = .ok (.iload_n 1, 1) := by decide +kernel
theorem u_61_0 {G : aG} {S : Nat → Bool} {f : Nat} {st : List Value} {ls : aL} {h : aH} {k n : Nat} (hs : S 0 = false) : WP 61 G S (f + 1) 0 ls st h k n = (oI (lget ls 1) (WP 61 G S f) 1 ls st h k n) := by rw [wp_s dd_61_0 rfl hs]; rfl
theorem dd_61_1 : decode (mB 61) 1 = .ok (.ifCond .lt 20, 3) := by decide +kernel
theorem u_61_1 {G : aG} {S : Nat → Bool} {f : Nat} {st : List Value} {ls : aL} {h : aH} {k n : Nat} {x : Int32} (hs : S 1 = false) : WP 61 G S (f + 1) 1 ls (.int x :: st) h k n = (if x < nI 0 then WP 61 G S f 21 ls st h k n else WP 61 G S f 4 ls st h k n) := by rw [wp_s dd_61_1 rfl hs]; exact br_ite (c := x < nI 0)
theorem dd_61_4 : decode (mB 61) 4 = .ok (.iload_n 1, 1) := by decide +kernel
theorem u_61_4 {G : aG} {S : Nat → Bool} {f : Nat} {st : List Value} {ls : aL} {h : aH} {k n : Nat} (hs : S 4 = false) : WP 61 G S (f + 1) 4 ls st h k n = (oI (lget ls 1) (WP 61 G S f) 5 ls st h k n) := by rw [wp_s dd_61_4 rfl hs]; rfl
theorem dd_61_5 : decode (mB 61) 5 = .ok (.aload_n 0, 1) := by decide +kernel
theorem u_61_5 {G : aG} {S : Nat → Bool} {f : Nat} {st : List Value} {ls : aL} {h : aH} {k n : Nat} (hs : S 5 = false) : WP 61 G S (f + 1) 5 ls st h k n = (oA (lget ls 0) (WP 61 G S f) 6 ls st h k n) := by rw [wp_s dd_61_5 rfl hs]; rfl
theorem dd_61_6 : decode (mB 61) 6 = .ok (.getfield 71, 3) := by decide +kernel
theorem u_61_6 {G : aG} {S : Nat → Bool} {f : Nat} {st : List Value} {ls : aL} {h : aH} {k n : Nat} {a : Nat} (hs : S 6 = false) : WP 61 G S (f + 1) 6 ls (.ref a :: st) h k n = (oV (fget h a 2 3) (WP 61 G S f) 9 ls st h k n) := by rw [wp_s dd_61_6 rfl hs]; rfl
theorem dd_61_9 : decode (mB 61) 9 = .ok (.if_icmp .ge 12, 3) := by decide +kernel
theorem u_61_9 {G : aG} {S : Nat → Bool} {f : Nat} {st : List Value} {ls : aL} {h : aH} {k n : Nat} {x y : Int32} (hs : S 9 = false) : WP 61 G S (f + 1) 9 ls (.int y :: .int x :: st) h k n = (if y ≤ x then WP 61 G S f 21 ls st h k n else WP 61 G S f 12 ls st h k n) := by rw [wp_s dd_61_9 rfl hs]; exact br_ite (c := y ≤ x)
theorem dd_61_12 : decode (mB 61) 12 = .ok (.aload_n 0, 1) := by decide +kernel
theorem u_61_12 {G : aG} {S : Nat → Bool} {f : Nat} {st : List Value} {ls : aL} {h : aH} {k n : Nat} (hs : S 12 = false) : WP 61 G S (f + 1) 12 ls st h k n = (oA (lget ls 0) (WP 61 G S f) 13 ls st h k n) := by rw [wp_s dd_61_12 rfl hs]; rfl
theorem dd_61_13 : decode (mB 61) 13 = .ok (.getfield 26, 3) := by decide +kernel
theorem u_61_13 {G : aG} {S : Nat → Bool} {f : Nat} {st : List Value} {ls : aL} {h : aH} {k n : Nat} {a : Nat} (hs : S 13 = false) : WP 61 G S (f + 1) 13 ls (.ref a :: st) h k n = (oV (fget h a 2 6) (WP 61 G S f) 16 ls st h k n) := by rw [wp_s dd_61_13 rfl hs]; rfl
theorem dd_61_16 : decode (mB 61) 16 = .ok (.iload_n 1, 1) := by decide +kernel
theorem u_61_16 {G : aG} {S : Nat → Bool} {f : Nat} {st : List Value} {ls : aL} {h : aH} {k n : Nat} (hs : S 16 = false) : WP 61 G S (f + 1) 16 ls st h k n = (oI (lget ls 1) (WP 61 G S f) 17 ls st h k n) := by rw [wp_s dd_61_16 rfl hs]; rfl
theorem dd_61_17 : decode (mB 61) 17 = .ok (.iaload, 1) := by decide +kernel
theorem u_61_17 {G : aG} {S : Nat → Bool} {f : Nat} {st : List Value} {ls : aL} {h : aH} {k n : Nat} {i : Int32} {a : Nat} (hs : S 17 = false) : WP 61 G S (f + 1) 17 ls (.int i :: .ref a :: st) h k n = (oIld (iget h a 1) i (WP 61 G S f) 18 ls st h k n) := by rw [wp_s dd_61_17 rfl hs]; rfl
theorem dd_61_18 : decode (mB 61) 18 = .ok (.goto 4, 3) := by decide +kernel
theorem u_61_18 {G : aG} {S : Nat → Bool} {f : Nat} {st : List Value} {ls : aL} {h : aH} {k n : Nat} (hs : S 18 = false) : WP 61 G S (f + 1) 18 ls st h k n = (WP 61 G S f 22 ls st h k n) := by rw [wp_s dd_61_18 rfl hs]; rfl
theorem dd_61_21 : decode (mB 61) 21 = .ok (.iconst 0, 1) := by decide +kernel
theorem u_61_21 {G : aG} {S : Nat → Bool} {f : Nat} {st : List Value} {ls : aL} {h : aH} {k n : Nat} (hs : S 21 = false) : WP 61 G S (f + 1) 21 ls st h k n = (WP 61 G S f 22 ls (.int (nI 0) :: st) h k n) := by rw [wp_s dd_61_21 rfl hs]; rfl
theorem dd_61_22 : decode (mB 61) 22 = .ok (.ireturn, 1) := by decide +kernel
theorem u_61_22 {G : aG} {S : Nat → Bool} {f : Nat} {ls : aL} {h : aH} {k n : Nat} {x : Int32} (hs : S 22 = false) : WP 61 G S (f + 1) 22 ls [.int x] h k n = (RET G (some (.int x)) h k n) := by rw [wp_s dd_61_22 rfl hs]; rfl
theorem dd_62_0 : decode (mB 62) 0 = .ok (.aload_n 0, 1) := by decide +kernel
theorem u_62_0 {G : aG} {S : Nat → Bool} {f : Nat} {st : List Value} {ls : aL} {h : aH} {k n : Nat} (hs : S 0 = false) : WP 62 G S (f + 1) 0 ls st h k n = (oA (lget ls 0) (WP 62 G S f) 1 ls st h k n) := by rw [wp_s dd_62_0 rfl hs]; rfl
theorem dd_62_1 : decode (mB 62) 1 = .ok (.iload_n 1, 1) := by decide +kernel
theorem u_62_1 {G : aG} {S : Nat → Bool} {f : Nat} {st : List Value} {ls : aL} {h : aH} {k n : Nat} (hs : S 1 = false) : WP 62 G S (f + 1) 1 ls st h k n = (oI (lget ls 1) (WP 62 G S f) 2 ls st h k n) := by rw [wp_s dd_62_1 rfl hs]; rfl
theorem dd_62_2 : decode (mB 62) 2 = .ok (.invokevirtual 94, 3) := by decide +kernel
theorem u_62_2 {G : aG} {S : Nat → Bool} {f : Nat} {st : List Value} {ls : aL} {h : aH} {k n : Nat} {v1 : Value} {b : Nat} (hs : S 2 = false) : WP 62 G S (f + 1) 2 ls (v1 :: .ref b :: st) h k n = (rcv (hget h b) 2 ∧ CAL G (WP 62 G S f) 61 [.ref b, v1] 5 ls st h k n) := by rw [wp_s dd_62_2 rfl hs]; rfl
theorem dd_62_5 : decode (mB 62) 5 = .ok (.sipush 255, 3) := by decide +kernel
theorem u_62_5 {G : aG} {S : Nat → Bool} {f : Nat} {st : List Value} {ls : aL} {h : aH} {k n : Nat} (hs : S 5 = false) : WP 62 G S (f + 1) 5 ls st h k n = (WP 62 G S f 8 ls (.int (nI 255) :: st) h k n) := by rw [wp_s dd_62_5 rfl hs]; rfl
theorem dd_62_8 : decode (mB 62) 8 = .ok (.iand, 1) := by decide +kernel
theorem u_62_8 {G : aG} {S : Nat → Bool} {f : Nat} {st : List Value} {ls : aL} {h : aH} {k n : Nat} {x y : Int32} (hs : S 8 = false) : WP 62 G S (f + 1) 8 ls (.int y :: .int x :: st) h k n = (WP 62 G S f 9 ls (.int (x &&& y) :: st) h k n) := by rw [wp_s dd_62_8 rfl hs]; rfl
theorem dd_62_9 : decode (mB 62) 9 = .ok (.ireturn, 1) := by decide +kernel
theorem u_62_9 {G : aG} {S : Nat → Bool} {f : Nat} {ls : aL} {h : aH} {k n : Nat} {x : Int32} (hs : S 9 = false) : WP 62 G S (f + 1) 9 ls [.int x] h k n = (RET G (some (.int x)) h k n) := by rw [wp_s dd_62_9 rfl hs]; rfl
theorem dd_65_0 : decode (mB 65) 0 = .ok (.iload_n 2, 1) := by decide +kernel
theorem u_65_0 {G : aG} {S : Nat → Bool} {f : Nat} {st : List Value} {ls : aL} {h : aH} {k n : Nat} (hs : S 0 = false) : WP 65 G S (f + 1) 0 ls st h k n = (oI (lget ls 2) (WP 65 G S f) 1 ls st h k n) := by rw [wp_s dd_65_0 rfl hs]; rfl
theorem dd_65_1 : decode (mB 65) 1 = .ok (.ifCond .lt 9, 3) := by decide +kernel
theorem u_65_1 {G : aG} {S : Nat → Bool} {f : Nat} {st : List Value} {ls : aL} {h : aH} {k n : Nat} {x : Int32} (hs : S 1 = false) : WP 65 G S (f + 1) 1 ls (.int x :: st) h k n = (if x < nI 0 then WP 65 G S f 10 ls st h k n else WP 65 G S f 4 ls st h k n) := by rw [wp_s dd_65_1 rfl hs]; exact br_ite (c := x < nI 0)
theorem dd_65_4 : decode (mB 65) 4 = .ok (.iload_n 2, 1) := by decide +kernel
theorem u_65_4 {G : aG} {S : Nat → Bool} {f : Nat} {st : List Value} {ls : aL} {h : aH} {k n : Nat} (hs : S 4 = false) : WP 65 G S (f + 1) 4 ls st h k n = (oI (lget ls 2) (WP 65 G S f) 5 ls st h k n) := by rw [wp_s dd_65_4 rfl hs]; rfl
theorem dd_65_5 : decode (mB 65) 5 = .ok (.bipush 6, 2) := by decide +kernel
theorem u_65_5 {G : aG} {S : Nat → Bool} {f : Nat} {st : List Value} {ls : aL} {h : aH} {k n : Nat} (hs : S 5 = false) : WP 65 G S (f + 1) 5 ls st h k n = (WP 65 G S f 7 ls (.int (nI 6) :: st) h k n) := by rw [wp_s dd_65_5 rfl hs]; rfl
theorem dd_65_7 : decode (mB 65) 7 = .ok (.if_icmp .le 5, 3) := by decide +kernel
theorem u_65_7 {G : aG} {S : Nat → Bool} {f : Nat} {st : List Value} {ls : aL} {h : aH} {k n : Nat} {x y : Int32} (hs : S 7 = false) : WP 65 G S (f + 1) 7 ls (.int y :: .int x :: st) h k n = (if x ≤ y then WP 65 G S f 12 ls st h k n else WP 65 G S f 10 ls st h k n) := by rw [wp_s dd_65_7 rfl hs]; exact br_ite (c := x ≤ y)
theorem dd_65_10 : decode (mB 65) 10 = .ok (.iconst 0, 1) := by decide +kernel
theorem u_65_10 {G : aG} {S : Nat → Bool} {f : Nat} {st : List Value} {ls : aL} {h : aH} {k n : Nat} (hs : S 10 = false) : WP 65 G S (f + 1) 10 ls st h k n = (WP 65 G S f 11 ls (.int (nI 0) :: st) h k n) := by rw [wp_s dd_65_10 rfl hs]; rfl
theorem dd_65_11 : decode (mB 65) 11 = .ok (.ireturn, 1) := by decide +kernel
theorem u_65_11 {G : aG} {S : Nat → Bool} {f : Nat} {ls : aL} {h : aH} {k n : Nat} {x : Int32} (hs : S 11 = false) : WP 65 G S (f + 1) 11 ls [.int x] h k n = (RET G (some (.int x)) h k n) := by rw [wp_s dd_65_11 rfl hs]; rfl
theorem dd_65_12 : decode (mB 65) 12 = .ok (.iload_n 2, 1) := by decide +kernel
theorem u_65_12 {G : aG} {S : Nat → Bool} {f : Nat} {st : List Value} {ls : aL} {h : aH} {k n : Nat} (hs : S 12 = false) : WP 65 G S (f + 1) 12 ls st h k n = (oI (lget ls 2) (WP 65 G S f) 13 ls st h k n) := by rw [wp_s dd_65_12 rfl hs]; rfl
theorem dd_65_13 : decode (mB 65) 13 = .ok (.aload_n 1, 1) := by decide +kernel
theorem u_65_13 {G : aG} {S : Nat → Bool} {f : Nat} {st : List Value} {ls : aL} {h : aH} {k n : Nat} (hs : S 13 = false) : WP 65 G S (f + 1) 13 ls st h k n = (oA (lget ls 1) (WP 65 G S f) 14 ls st h k n) := by rw [wp_s dd_65_13 rfl hs]; rfl
theorem dd_65_14 : decode (mB 65) 14 = .ok (.getfield 18, 3) := by decide +kernel
theorem u_65_14 {G : aG} {S : Nat → Bool} {f : Nat} {st : List Value} {ls : aL} {h : aH} {k n : Nat} {a : Nat} (hs : S 14 = false) : WP 65 G S (f + 1) 14 ls (.ref a :: st) h k n = (oV (fget h a 2 12) (WP 65 G S f) 17 ls st h k n) := by rw [wp_s dd_65_14 rfl hs]; rfl
theorem dd_65_17 : decode (mB 65) 17 = .ok (.if_icmp .le 47, 3) := by decide +kernel
theorem u_65_17 {G : aG} {S : Nat → Bool} {f : Nat} {st : List Value} {ls : aL} {h : aH} {k n : Nat} {x y : Int32} (hs : S 17 = false) : WP 65 G S (f + 1) 17 ls (.int y :: .int x :: st) h k n = (if x ≤ y then WP 65 G S f 64 ls st h k n else WP 65 G S f 20 ls st h k n) := by rw [wp_s dd_65_17 rfl hs]; exact br_ite (c := x ≤ y)
theorem dd_65_20 : decode (mB 65) 20 = .ok (.aload_n 0, 1) := by decide +kernel
theorem u_65_20 {G : aG} {S : Nat → Bool} {f : Nat} {st : List Value} {ls : aL} {h : aH} {k n : Nat} (hs : S 20 = false) : WP 65 G S (f + 1) 20 ls st h k n = (oA (lget ls 0) (WP 65 G S f) 21 ls st h k n) := by rw [wp_s dd_65_20 rfl hs]; rfl
theorem dd_65_21 : decode (mB 65) 21 = .ok (.aload_n 1, 1) := by decide +kernel
theorem u_65_21 {G : aG} {S : Nat → Bool} {f : Nat} {st : List Value} {ls : aL} {h : aH} {k n : Nat} (hs : S 21 = false) : WP 65 G S (f + 1) 21 ls st h k n = (oA (lget ls 1) (WP 65 G S f) 22 ls st h k n) := by rw [wp_s dd_65_21 rfl hs]; rfl
theorem dd_65_22 : decode (mB 65) 22 = .ok (.invokevirtual 24, 3) := by decide +kernel
theorem u_65_22 {G : aG} {S : Nat → Bool} {f : Nat} {st : List Value} {ls : aL} {h : aH} {k n : Nat} {v1 : Value} {b : Nat} (hs : S 22 = false) : WP 65 G S (f + 1) 22 ls (v1 :: .ref b :: st) h k n = (rcv (hget h b) 6 ∧ CAL G (WP 65 G S f) 66 [.ref b, v1] 25 ls st h k n) := by rw [wp_s dd_65_22 rfl hs]; rfl
theorem dd_65_25 : decode (mB 65) 25 = .ok (.iconst 1, 1) := by decide +kernel
theorem u_65_25 {G : aG} {S : Nat → Bool} {f : Nat} {st : List Value} {ls : aL} {h : aH} {k n : Nat} (hs : S 25 = false) : WP 65 G S (f + 1) 25 ls st h k n = (WP 65 G S f 26 ls (.int (nI 1) :: st) h k n) := by rw [wp_s dd_65_25 rfl hs]; rfl
theorem dd_65_26 : decode (mB 65) 26 = .ok (.istore_n 3, 1) := by decide +kernel
theorem u_65_26 {G : aG} {S : Nat → Bool} {f : Nat} {st : List Value} {ls : aL} {h : aH} {k n : Nat} {x : Int32} (hs : S 26 = false) : WP 65 G S (f + 1) 26 ls (.int x :: st) h k n = (WP 65 G S f 27 (lput1 ls 3 (.int x)) st h k n) := by rw [wp_s dd_65_26 rfl hs]; rfl
theorem dd_65_27 : decode (mB 65) 27 = .ok (.iload_n 3, 1) := by decide +kernel
theorem u_65_27 {G : aG} {S : Nat → Bool} {f : Nat} {st : List Value} {ls : aL} {h : aH} {k n : Nat} (hs : S 27 = false) : WP 65 G S (f + 1) 27 ls st h k n = (oI (lget ls 3) (WP 65 G S f) 28 ls st h k n) := by rw [wp_s dd_65_27 rfl hs]; rfl
theorem v_65_27 {G : aG} {S : Nat → Bool} {f : Nat} {st : List Value} {ls : aL} {h : aH} {k n : Nat} : WQ 65 G S f 27 ls st h k n = (oI (lget ls 3) (WP 65 G S f) 28 ls st h k n) := by rw [wq_s dd_65_27 rfl]; rfl
theorem dd_65_28 : decode (mB 65) 28 = .ok (.iload_n 2, 1) := by decide +kernel
theorem u_65_28 {G : aG} {S : Nat → Bool} {f : Nat} {st : List Value} {ls : aL} {h : aH} {k n : Nat} (hs : S 28 = false) : WP 65 G S (f + 1) 28 ls st h k n = (oI (lget ls 2) (WP 65 G S f) 29 ls st h k n) := by rw [wp_s dd_65_28 rfl hs]; rfl
theorem dd_65_29 : decode (mB 65) 29 = .ok (.if_icmp .gt 30, 3) := by decide +kernel
theorem u_65_29 {G : aG} {S : Nat → Bool} {f : Nat} {st : List Value} {ls : aL} {h : aH} {k n : Nat} {x y : Int32} (hs : S 29 = false) : WP 65 G S (f + 1) 29 ls (.int y :: .int x :: st) h k n = (if y < x then WP 65 G S f 59 ls st h k n else WP 65 G S f 32 ls st h k n) := by rw [wp_s dd_65_29 rfl hs]; exact br_ite (c := y < x)
theorem dd_65_32 : decode (mB 65) 32 = .ok (.aload_n 1, 1) := by decide +kernel
theorem u_65_32 {G : aG} {S : Nat → Bool} {f : Nat} {st : List Value} {ls : aL} {h : aH} {k n : Nat} (hs : S 32 = false) : WP 65 G S (f + 1) 32 ls st h k n = (oA (lget ls 1) (WP 65 G S f) 33 ls st h k n) := by rw [wp_s dd_65_32 rfl hs]; rfl
theorem dd_65_33 : decode (mB 65) 33 = .ok (.getfield 28, 3) := by decide +kernel
theorem u_65_33 {G : aG} {S : Nat → Bool} {f : Nat} {st : List Value} {ls : aL} {h : aH} {k n : Nat} {a : Nat} (hs : S 33 = false) : WP 65 G S (f + 1) 33 ls (.ref a :: st) h k n = (oV (fget h a 2 11) (WP 65 G S f) 36 ls st h k n) := by rw [wp_s dd_65_33 rfl hs]; rfl
theorem dd_65_36 : decode (mB 65) 36 = .ok (.iload_n 3, 1) := by decide +kernel
theorem u_65_36 {G : aG} {S : Nat → Bool} {f : Nat} {st : List Value} {ls : aL} {h : aH} {k n : Nat} (hs : S 36 = false) : WP 65 G S (f + 1) 36 ls st h k n = (oI (lget ls 3) (WP 65 G S f) 37 ls st h k n) := by rw [wp_s dd_65_36 rfl hs]; rfl
theorem dd_65_37 : decode (mB 65) 37 = .ok (.aload_n 0, 1) := by decide +kernel
theorem u_65_37 {G : aG} {S : Nat → Bool} {f : Nat} {st : List Value} {ls : aL} {h : aH} {k n : Nat} (hs : S 37 = false) : WP 65 G S (f + 1) 37 ls st h k n = (oA (lget ls 0) (WP 65 G S f) 38 ls st h k n) := by rw [wp_s dd_65_37 rfl hs]; rfl
theorem dd_65_38 : decode (mB 65) 38 = .ok (.aload_n 1, 1) := by decide +kernel
theorem u_65_38 {G : aG} {S : Nat → Bool} {f : Nat} {st : List Value} {ls : aL} {h : aH} {k n : Nat} (hs : S 38 = false) : WP 65 G S (f + 1) 38 ls st h k n = (oA (lget ls 1) (WP 65 G S f) 39 ls st h k n) := by rw [wp_s dd_65_38 rfl hs]; rfl
theorem dd_65_39 : decode (mB 65) 39 = .ok (.invokevirtual 31, 3) := by decide +kernel
theorem u_65_39 {G : aG} {S : Nat → Bool} {f : Nat} {st : List Value} {ls : aL} {h : aH} {k n : Nat} {v1 : Value} {b : Nat} (hs : S 39 = false) : WP 65 G S (f + 1) 39 ls (v1 :: .ref b :: st) h k n = (rcv (hget h b) 6 ∧ CAL G (WP 65 G S f) 67 [.ref b, v1] 42 ls st h k n) := by rw [wp_s dd_65_39 rfl hs]; rfl
theorem dd_65_42 : decode (mB 65) 42 = .ok (.iastore, 1) := by decide +kernel
theorem u_65_42 {G : aG} {S : Nat → Bool} {f : Nat} {st : List Value} {ls : aL} {h : aH} {k n : Nat} {i x : Int32} {a : Nat} (hs : S 42 = false) : WP 65 G S (f + 1) 42 ls (.int x :: .int i :: .ref a :: st) h k n = (oIst (iget h a 1) a i x (WP 65 G S f) 43 ls st h k n) := by rw [wp_s dd_65_42 rfl hs]; rfl
theorem dd_65_43 : decode (mB 65) 43 = .ok (.iload_n 3, 1) := by decide +kernel
theorem u_65_43 {G : aG} {S : Nat → Bool} {f : Nat} {st : List Value} {ls : aL} {h : aH} {k n : Nat} (hs : S 43 = false) : WP 65 G S (f + 1) 43 ls st h k n = (oI (lget ls 3) (WP 65 G S f) 44 ls st h k n) := by rw [wp_s dd_65_43 rfl hs]; rfl
theorem dd_65_44 : decode (mB 65) 44 = .ok (.iload_n 2, 1) := by decide +kernel
theorem u_65_44 {G : aG} {S : Nat → Bool} {f : Nat} {st : List Value} {ls : aL} {h : aH} {k n : Nat} (hs : S 44 = false) : WP 65 G S (f + 1) 44 ls st h k n = (oI (lget ls 2) (WP 65 G S f) 45 ls st h k n) := by rw [wp_s dd_65_44 rfl hs]; rfl
theorem dd_65_45 : decode (mB 65) 45 = .ok (.if_icmp .ge 8, 3) := by decide +kernel
theorem u_65_45 {G : aG} {S : Nat → Bool} {f : Nat} {st : List Value} {ls : aL} {h : aH} {k n : Nat} {x y : Int32} (hs : S 45 = false) : WP 65 G S (f + 1) 45 ls (.int y :: .int x :: st) h k n = (if y ≤ x then WP 65 G S f 53 ls st h k n else WP 65 G S f 48 ls st h k n) := by rw [wp_s dd_65_45 rfl hs]; exact br_ite (c := y ≤ x)
theorem dd_65_48 : decode (mB 65) 48 = .ok (.aload_n 0, 1) := by decide +kernel
theorem u_65_48 {G : aG} {S : Nat → Bool} {f : Nat} {st : List Value} {ls : aL} {h : aH} {k n : Nat} (hs : S 48 = false) : WP 65 G S (f + 1) 48 ls st h k n = (oA (lget ls 0) (WP 65 G S f) 49 ls st h k n) := by rw [wp_s dd_65_48 rfl hs]; rfl
theorem dd_65_49 : decode (mB 65) 49 = .ok (.aload_n 1, 1) := by decide +kernel
theorem u_65_49 {G : aG} {S : Nat → Bool} {f : Nat} {st : List Value} {ls : aL} {h : aH} {k n : Nat} (hs : S 49 = false) : WP 65 G S (f + 1) 49 ls st h k n = (oA (lget ls 1) (WP 65 G S f) 50 ls st h k n) := by rw [wp_s dd_65_49 rfl hs]; rfl
theorem dd_65_50 : decode (mB 65) 50 = .ok (.invokevirtual 35, 3) := by decide +kernel
theorem u_65_50 {G : aG} {S : Nat → Bool} {f : Nat} {st : List Value} {ls : aL} {h : aH} {k n : Nat} {v1 : Value} {b : Nat} (hs : S 50 = false) : WP 65 G S (f + 1) 50 ls (v1 :: .ref b :: st) h k n = (rcv (hget h b) 6 ∧ CAL G (WP 65 G S f) 70 [.ref b, v1] 53 ls st h k n) := by rw [wp_s dd_65_50 rfl hs]; rfl
theorem dd_65_53 : decode (mB 65) 53 = .ok (.iinc 3 1, 3) := by decide +kernel
theorem u_65_53 {G : aG} {S : Nat → Bool} {f : Nat} {st : List Value} {ls : aL} {h : aH} {k n : Nat} (hs : S 53 = false) : WP 65 G S (f + 1) 53 ls st h k n = (oInc (lget ls 3) (nI 1) (WP 65 G S f) 3 56 ls st h k n) := by rw [wp_s dd_65_53 rfl hs]; rfl
theorem dd_65_56 : decode (mB 65) 56 = .ok (.goto (-29), 3) := by decide +kernel
theorem u_65_56 {G : aG} {S : Nat → Bool} {f : Nat} {st : List Value} {ls : aL} {h : aH} {k n : Nat} (hs : S 56 = false) : WP 65 G S (f + 1) 56 ls st h k n = (WP 65 G S f 27 ls st h k n) := by rw [wp_s dd_65_56 rfl hs]; rfl
theorem dd_65_59 : decode (mB 65) 59 = .ok (.aload_n 1, 1) := by decide +kernel
theorem u_65_59 {G : aG} {S : Nat → Bool} {f : Nat} {st : List Value} {ls : aL} {h : aH} {k n : Nat} (hs : S 59 = false) : WP 65 G S (f + 1) 59 ls st h k n = (oA (lget ls 1) (WP 65 G S f) 60 ls st h k n) := by rw [wp_s dd_65_59 rfl hs]; rfl
theorem dd_65_60 : decode (mB 65) 60 = .ok (.iload_n 2, 1) := by decide +kernel
theorem u_65_60 {G : aG} {S : Nat → Bool} {f : Nat} {st : List Value} {ls : aL} {h : aH} {k n : Nat} (hs : S 60 = false) : WP 65 G S (f + 1) 60 ls st h k n = (oI (lget ls 2) (WP 65 G S f) 61 ls st h k n) := by rw [wp_s dd_65_60 rfl hs]; rfl
theorem dd_65_61 : decode (mB 65) 61 = .ok (.putfield 18, 3) := by decide +kernel
theorem u_65_61 {G : aG} {S : Nat → Bool} {f : Nat} {st : List Value} {ls : aL} {h : aH} {k n : Nat} {a : Nat} {x : Int32} (hs : S 61 = false) : WP 65 G S (f + 1) 61 ls (.int x :: .ref a :: st) h k n = (oH (fput h a 2 12 (.int x)) (WP 65 G S f) 64 ls st k n) := by rw [wp_s dd_65_61 rfl hs]; rfl
theorem dd_65_64 : decode (mB 65) 64 = .ok (.aload_n 1, 1) := by decide +kernel
theorem u_65_64 {G : aG} {S : Nat → Bool} {f : Nat} {st : List Value} {ls : aL} {h : aH} {k n : Nat} (hs : S 64 = false) : WP 65 G S (f + 1) 64 ls st h k n = (oA (lget ls 1) (WP 65 G S f) 65 ls st h k n) := by rw [wp_s dd_65_64 rfl hs]; rfl
theorem dd_65_65 : decode (mB 65) 65 = .ok (.getfield 28, 3) := by decide +kernel
theorem u_65_65 {G : aG} {S : Nat → Bool} {f : Nat} {st : List Value} {ls : aL} {h : aH} {k n : Nat} {a : Nat} (hs : S 65 = false) : WP 65 G S (f + 1) 65 ls (.ref a :: st) h k n = (oV (fget h a 2 11) (WP 65 G S f) 68 ls st h k n) := by rw [wp_s dd_65_65 rfl hs]; rfl
theorem dd_65_68 : decode (mB 65) 68 = .ok (.iload_n 2, 1) := by decide +kernel
theorem u_65_68 {G : aG} {S : Nat → Bool} {f : Nat} {st : List Value} {ls : aL} {h : aH} {k n : Nat} (hs : S 68 = false) : WP 65 G S (f + 1) 68 ls st h k n = (oI (lget ls 2) (WP 65 G S f) 69 ls st h k n) := by rw [wp_s dd_65_68 rfl hs]; rfl
theorem dd_65_69 : decode (mB 65) 69 = .ok (.iaload, 1) := by decide +kernel
theorem u_65_69 {G : aG} {S : Nat → Bool} {f : Nat} {st : List Value} {ls : aL} {h : aH} {k n : Nat} {i : Int32} {a : Nat} (hs : S 69 = false) : WP 65 G S (f + 1) 69 ls (.int i :: .ref a :: st) h k n = (oIld (iget h a 1) i (WP 65 G S f) 70 ls st h k n) := by rw [wp_s dd_65_69 rfl hs]; rfl
theorem dd_65_70 : decode (mB 65) 70 = .ok (.ireturn, 1) := by decide +kernel
theorem u_65_70 {G : aG} {S : Nat → Bool} {f : Nat} {ls : aL} {h : aH} {k n : Nat} {x : Int32} (hs : S 70 = false) : WP 65 G S (f + 1) 70 ls [.int x] h k n = (RET G (some (.int x)) h k n) := by rw [wp_s dd_65_70 rfl hs]; rfl
theorem dd_66_0 : decode (mB 66) 0 = .ok (.aload_n 0, 1) := by decide +kernel
theorem u_66_0 {G : aG} {S : Nat → Bool} {f : Nat} {st : List Value} {ls : aL} {h : aH} {k n : Nat} (hs : S 0 = false) : WP 66 G S (f + 1) 0 ls st h k n = (oA (lget ls 0) (WP 66 G S f) 1 ls st h k n) := by rw [wp_s dd_66_0 rfl hs]; rfl
theorem dd_66_1 : decode (mB 66) 1 = .ok (.getfield 11, 3) := by decide +kernel
theorem u_66_1 {G : aG} {S : Nat → Bool} {f : Nat} {st : List Value} {ls : aL} {h : aH} {k n : Nat} {a : Nat} (hs : S 1 = false) : WP 66 G S (f + 1) 1 ls (.ref a :: st) h k n = (oV (fget h a 6 0) (WP 66 G S f) 4 ls st h k n) := by rw [wp_s dd_66_1 rfl hs]; rfl
theorem dd_66_4 : decode (mB 66) 4 = .ok (.iconst 0, 1) := by decide +kernel
theorem u_66_4 {G : aG} {S : Nat → Bool} {f : Nat} {st : List Value} {ls : aL} {h : aH} {k n : Nat} (hs : S 4 = false) : WP 66 G S (f + 1) 4 ls st h k n = (WP 66 G S f 5 ls (.int (nI 0) :: st) h k n) := by rw [wp_s dd_66_4 rfl hs]; rfl
theorem dd_66_5 : decode (mB 66) 5 = .ok (.invokestatic 38, 3) := by decide +kernel
theorem u_66_5 {G : aG} {S : Nat → Bool} {f : Nat} {st : List Value} {ls : aL} {h : aH} {k n : Nat} {v1 v2 : Value} (hs : S 5 = false) : WP 66 G S (f + 1) 5 ls (v2 :: v1 :: st) h k n = (CAL G (WP 66 G S f) 23 [v1, v2] 8 ls st h k n) := by rw [wp_s dd_66_5 rfl hs]; rfl
theorem dd_66_8 : decode (mB 66) 8 = .ok (.aload_n 0, 1) := by decide +kernel
theorem u_66_8 {G : aG} {S : Nat → Bool} {f : Nat} {st : List Value} {ls : aL} {h : aH} {k n : Nat} (hs : S 8 = false) : WP 66 G S (f + 1) 8 ls st h k n = (oA (lget ls 0) (WP 66 G S f) 9 ls st h k n) := by rw [wp_s dd_66_8 rfl hs]; rfl
theorem dd_66_9 : decode (mB 66) 9 = .ok (.getfield 11, 3) := by decide +kernel
theorem u_66_9 {G : aG} {S : Nat → Bool} {f : Nat} {st : List Value} {ls : aL} {h : aH} {k n : Nat} {a : Nat} (hs : S 9 = false) : WP 66 G S (f + 1) 9 ls (.ref a :: st) h k n = (oV (fget h a 6 0) (WP 66 G S f) 12 ls st h k n) := by rw [wp_s dd_66_9 rfl hs]; rfl
theorem dd_66_12 : decode (mB 66) 12 = .ok (.iconst 0, 1) := by decide +kernel
theorem u_66_12 {G : aG} {S : Nat → Bool} {f : Nat} {st : List Value} {ls : aL} {h : aH} {k n : Nat} (hs : S 12 = false) : WP 66 G S (f + 1) 12 ls st h k n = (WP 66 G S f 13 ls (.int (nI 0) :: st) h k n) := by rw [wp_s dd_66_12 rfl hs]; rfl
theorem dd_66_13 : decode (mB 66) 13 = .ok (.iconst 1, 1) := by decide +kernel
theorem u_66_13 {G : aG} {S : Nat → Bool} {f : Nat} {st : List Value} {ls : aL} {h : aH} {k n : Nat} (hs : S 13 = false) : WP 66 G S (f + 1) 13 ls st h k n = (WP 66 G S f 14 ls (.int (nI 1) :: st) h k n) := by rw [wp_s dd_66_13 rfl hs]; rfl
theorem dd_66_14 : decode (mB 66) 14 = .ok (.iastore, 1) := by decide +kernel
theorem u_66_14 {G : aG} {S : Nat → Bool} {f : Nat} {st : List Value} {ls : aL} {h : aH} {k n : Nat} {i x : Int32} {a : Nat} (hs : S 14 = false) : WP 66 G S (f + 1) 14 ls (.int x :: .int i :: .ref a :: st) h k n = (oIst (iget h a 1) a i x (WP 66 G S f) 15 ls st h k n) := by rw [wp_s dd_66_14 rfl hs]; rfl
theorem dd_66_15 : decode (mB 66) 15 = .ok (.aload_n 1, 1) := by decide +kernel
theorem u_66_15 {G : aG} {S : Nat → Bool} {f : Nat} {st : List Value} {ls : aL} {h : aH} {k n : Nat} (hs : S 15 = false) : WP 66 G S (f + 1) 15 ls st h k n = (oA (lget ls 1) (WP 66 G S f) 16 ls st h k n) := by rw [wp_s dd_66_15 rfl hs]; rfl
theorem dd_66_16 : decode (mB 66) 16 = .ok (.getfield 28, 3) := by decide +kernel
theorem u_66_16 {G : aG} {S : Nat → Bool} {f : Nat} {st : List Value} {ls : aL} {h : aH} {k n : Nat} {a : Nat} (hs : S 16 = false) : WP 66 G S (f + 1) 16 ls (.ref a :: st) h k n = (oV (fget h a 2 11) (WP 66 G S f) 19 ls st h k n) := by rw [wp_s dd_66_16 rfl hs]; rfl
theorem dd_66_19 : decode (mB 66) 19 = .ok (.iconst 0, 1) := by decide +kernel
theorem u_66_19 {G : aG} {S : Nat → Bool} {f : Nat} {st : List Value} {ls : aL} {h : aH} {k n : Nat} (hs : S 19 = false) : WP 66 G S (f + 1) 19 ls st h k n = (WP 66 G S f 20 ls (.int (nI 0) :: st) h k n) := by rw [wp_s dd_66_19 rfl hs]; rfl
theorem dd_66_20 : decode (mB 66) 20 = .ok (.aload_n 1, 1) := by decide +kernel
theorem u_66_20 {G : aG} {S : Nat → Bool} {f : Nat} {st : List Value} {ls : aL} {h : aH} {k n : Nat} (hs : S 20 = false) : WP 66 G S (f + 1) 20 ls st h k n = (oA (lget ls 1) (WP 66 G S f) 21 ls st h k n) := by rw [wp_s dd_66_20 rfl hs]; rfl
theorem dd_66_21 : decode (mB 66) 21 = .ok (.iconst 0, 1) := by decide +kernel
theorem u_66_21 {G : aG} {S : Nat → Bool} {f : Nat} {st : List Value} {ls : aL} {h : aH} {k n : Nat} (hs : S 21 = false) : WP 66 G S (f + 1) 21 ls st h k n = (WP 66 G S f 22 ls (.int (nI 0) :: st) h k n) := by rw [wp_s dd_66_21 rfl hs]; rfl
theorem dd_66_22 : decode (mB 66) 22 = .ok (.invokevirtual 44, 3) := by decide +kernel
theorem u_66_22 {G : aG} {S : Nat → Bool} {f : Nat} {st : List Value} {ls : aL} {h : aH} {k n : Nat} {v1 : Value} {b : Nat} (hs : S 22 = false) : WP 66 G S (f + 1) 22 ls (v1 :: .ref b :: st) h k n = (rcv (hget h b) 2 ∧ CAL G (WP 66 G S f) 60 [.ref b, v1] 25 ls st h k n) := by rw [wp_s dd_66_22 rfl hs]; rfl
theorem dd_66_25 : decode (mB 66) 25 = .ok (.ifCond .eq 7, 3) := by decide +kernel
theorem u_66_25 {G : aG} {S : Nat → Bool} {f : Nat} {st : List Value} {ls : aL} {h : aH} {k n : Nat} {x : Int32} (hs : S 25 = false) : WP 66 G S (f + 1) 25 ls (.int x :: st) h k n = (if x = nI 0 then WP 66 G S f 32 ls st h k n else WP 66 G S f 28 ls st h k n) := by rw [wp_s dd_66_25 rfl hs]; exact br_ite (c := x = nI 0)
theorem dd_66_28 : decode (mB 66) 28 = .ok (.iconst 1, 1) := by decide +kernel
theorem u_66_28 {G : aG} {S : Nat → Bool} {f : Nat} {st : List Value} {ls : aL} {h : aH} {k n : Nat} (hs : S 28 = false) : WP 66 G S (f + 1) 28 ls st h k n = (WP 66 G S f 29 ls (.int (nI 1) :: st) h k n) := by rw [wp_s dd_66_28 rfl hs]; rfl
theorem dd_66_29 : decode (mB 66) 29 = .ok (.goto 4, 3) := by decide +kernel
theorem u_66_29 {G : aG} {S : Nat → Bool} {f : Nat} {st : List Value} {ls : aL} {h : aH} {k n : Nat} (hs : S 29 = false) : WP 66 G S (f + 1) 29 ls st h k n = (WP 66 G S f 33 ls st h k n) := by rw [wp_s dd_66_29 rfl hs]; rfl
theorem dd_66_32 : decode (mB 66) 32 = .ok (.iconst 0, 1) := by decide +kernel
theorem u_66_32 {G : aG} {S : Nat → Bool} {f : Nat} {st : List Value} {ls : aL} {h : aH} {k n : Nat} (hs : S 32 = false) : WP 66 G S (f + 1) 32 ls st h k n = (WP 66 G S f 33 ls (.int (nI 0) :: st) h k n) := by rw [wp_s dd_66_32 rfl hs]; rfl
theorem dd_66_33 : decode (mB 66) 33 = .ok (.iastore, 1) := by decide +kernel
theorem u_66_33 {G : aG} {S : Nat → Bool} {f : Nat} {st : List Value} {ls : aL} {h : aH} {k n : Nat} {i x : Int32} {a : Nat} (hs : S 33 = false) : WP 66 G S (f + 1) 33 ls (.int x :: .int i :: .ref a :: st) h k n = (oIst (iget h a 1) a i x (WP 66 G S f) 34 ls st h k n) := by rw [wp_s dd_66_33 rfl hs]; rfl
theorem dd_66_34 : decode (mB 66) 34 = .ok (.return_, 1) := by decide +kernel
theorem u_66_34 {G : aG} {S : Nat → Bool} {f : Nat} {ls : aL} {h : aH} {k n : Nat} (hs : S 34 = false) : WP 66 G S (f + 1) 34 ls [] h k n = (RET G none h k n) := by rw [wp_s dd_66_34 rfl hs]; rfl
theorem dd_67_0 : decode (mB 67) 0 = .ok (.iconst 0, 1) := by decide +kernel
theorem u_67_0 {G : aG} {S : Nat → Bool} {f : Nat} {st : List Value} {ls : aL} {h : aH} {k n : Nat} (hs : S 0 = false) : WP 67 G S (f + 1) 0 ls st h k n = (WP 67 G S f 1 ls (.int (nI 0) :: st) h k n) := by rw [wp_s dd_67_0 rfl hs]; rfl
theorem dd_67_1 : decode (mB 67) 1 = .ok (.istore_n 2, 1) := by decide +kernel
theorem u_67_1 {G : aG} {S : Nat → Bool} {f : Nat} {st : List Value} {ls : aL} {h : aH} {k n : Nat} {x : Int32} (hs : S 1 = false) : WP 67 G S (f + 1) 1 ls (.int x :: st) h k n = (WP 67 G S f 2 (lput1 ls 2 (.int x)) st h k n) := by rw [wp_s dd_67_1 rfl hs]; rfl
theorem dd_67_2 : decode (mB 67) 2 = .ok (.iconst 0, 1) := by decide +kernel
theorem u_67_2 {G : aG} {S : Nat → Bool} {f : Nat} {st : List Value} {ls : aL} {h : aH} {k n : Nat} (hs : S 2 = false) : WP 67 G S (f + 1) 2 ls st h k n = (WP 67 G S f 3 ls (.int (nI 0) :: st) h k n) := by rw [wp_s dd_67_2 rfl hs]; rfl
theorem dd_67_3 : decode (mB 67) 3 = .ok (.istore_n 3, 1) := by decide +kernel
theorem u_67_3 {G : aG} {S : Nat → Bool} {f : Nat} {st : List Value} {ls : aL} {h : aH} {k n : Nat} {x : Int32} (hs : S 3 = false) : WP 67 G S (f + 1) 3 ls (.int x :: st) h k n = (WP 67 G S f 4 (lput1 ls 3 (.int x)) st h k n) := by rw [wp_s dd_67_3 rfl hs]; rfl
theorem dd_67_4 : decode (mB 67) 4 = .ok (.iload_n 3, 1) := by decide +kernel
theorem u_67_4 {G : aG} {S : Nat → Bool} {f : Nat} {st : List Value} {ls : aL} {h : aH} {k n : Nat} (hs : S 4 = false) : WP 67 G S (f + 1) 4 ls st h k n = (oI (lget ls 3) (WP 67 G S f) 5 ls st h k n) := by rw [wp_s dd_67_4 rfl hs]; rfl
theorem v_67_4 {G : aG} {S : Nat → Bool} {f : Nat} {st : List Value} {ls : aL} {h : aH} {k n : Nat} : WQ 67 G S f 4 ls st h k n = (oI (lget ls 3) (WP 67 G S f) 5 ls st h k n) := by rw [wq_s dd_67_4 rfl]; rfl
theorem dd_67_5 : decode (mB 67) 5 = .ok (.aload_n 1, 1) := by decide +kernel
theorem u_67_5 {G : aG} {S : Nat → Bool} {f : Nat} {st : List Value} {ls : aL} {h : aH} {k n : Nat} (hs : S 5 = false) : WP 67 G S (f + 1) 5 ls st h k n = (oA (lget ls 1) (WP 67 G S f) 6 ls st h k n) := by rw [wp_s dd_67_5 rfl hs]; rfl
theorem dd_67_6 : decode (mB 67) 6 = .ok (.getfield 48, 3) := by decide +kernel
theorem u_67_6 {G : aG} {S : Nat → Bool} {f : Nat} {st : List Value} {ls : aL} {h : aH} {k n : Nat} {a : Nat} (hs : S 6 = false) : WP 67 G S (f + 1) 6 ls (.ref a :: st) h k n = (oV (fget h a 2 3) (WP 67 G S f) 9 ls st h k n) := by rw [wp_s dd_67_6 rfl hs]; rfl
theorem dd_67_9 : decode (mB 67) 9 = .ok (.if_icmp .ge 42, 3) := by decide +kernel
theorem u_67_9 {G : aG} {S : Nat → Bool} {f : Nat} {st : List Value} {ls : aL} {h : aH} {k n : Nat} {x y : Int32} (hs : S 9 = false) : WP 67 G S (f + 1) 9 ls (.int y :: .int x :: st) h k n = (if y ≤ x then WP 67 G S f 51 ls st h k n else WP 67 G S f 12 ls st h k n) := by rw [wp_s dd_67_9 rfl hs]; exact br_ite (c := y ≤ x)
theorem dd_67_12 : decode (mB 67) 12 = .ok (.iload_n 3, 1) := by decide +kernel
theorem u_67_12 {G : aG} {S : Nat → Bool} {f : Nat} {st : List Value} {ls : aL} {h : aH} {k n : Nat} (hs : S 12 = false) : WP 67 G S (f + 1) 12 ls st h k n = (oI (lget ls 3) (WP 67 G S f) 13 ls st h k n) := by rw [wp_s dd_67_12 rfl hs]; rfl
theorem dd_67_13 : decode (mB 67) 13 = .ok (.aload_n 0, 1) := by decide +kernel
theorem u_67_13 {G : aG} {S : Nat → Bool} {f : Nat} {st : List Value} {ls : aL} {h : aH} {k n : Nat} (hs : S 13 = false) : WP 67 G S (f + 1) 13 ls st h k n = (oA (lget ls 0) (WP 67 G S f) 14 ls st h k n) := by rw [wp_s dd_67_13 rfl hs]; rfl
theorem dd_67_14 : decode (mB 67) 14 = .ok (.getfield 11, 3) := by decide +kernel
theorem u_67_14 {G : aG} {S : Nat → Bool} {f : Nat} {st : List Value} {ls : aL} {h : aH} {k n : Nat} {a : Nat} (hs : S 14 = false) : WP 67 G S (f + 1) 14 ls (.ref a :: st) h k n = (oV (fget h a 6 0) (WP 67 G S f) 17 ls st h k n) := by rw [wp_s dd_67_14 rfl hs]; rfl
theorem dd_67_17 : decode (mB 67) 17 = .ok (.arraylength, 1) := by decide +kernel
theorem u_67_17 {G : aG} {S : Nat → Bool} {f : Nat} {st : List Value} {ls : aL} {h : aH} {k n : Nat} {a : Nat} (hs : S 17 = false) : WP 67 G S (f + 1) 17 ls (.ref a :: st) h k n = (oLen (alen h a) (WP 67 G S f) 18 ls st h k n) := by rw [wp_s dd_67_17 rfl hs]; rfl
theorem dd_67_18 : decode (mB 67) 18 = .ok (.if_icmp .ge 33, 3) := by decide +kernel
theorem u_67_18 {G : aG} {S : Nat → Bool} {f : Nat} {st : List Value} {ls : aL} {h : aH} {k n : Nat} {x y : Int32} (hs : S 18 = false) : WP 67 G S (f + 1) 18 ls (.int y :: .int x :: st) h k n = (if y ≤ x then WP 67 G S f 51 ls st h k n else WP 67 G S f 21 ls st h k n) := by rw [wp_s dd_67_18 rfl hs]; exact br_ite (c := y ≤ x)
theorem dd_67_21 : decode (mB 67) 21 = .ok (.aload_n 0, 1) := by decide +kernel
theorem u_67_21 {G : aG} {S : Nat → Bool} {f : Nat} {st : List Value} {ls : aL} {h : aH} {k n : Nat} (hs : S 21 = false) : WP 67 G S (f + 1) 21 ls st h k n = (oA (lget ls 0) (WP 67 G S f) 22 ls st h k n) := by rw [wp_s dd_67_21 rfl hs]; rfl
theorem dd_67_22 : decode (mB 67) 22 = .ok (.getfield 11, 3) := by decide +kernel
theorem u_67_22 {G : aG} {S : Nat → Bool} {f : Nat} {st : List Value} {ls : aL} {h : aH} {k n : Nat} {a : Nat} (hs : S 22 = false) : WP 67 G S (f + 1) 22 ls (.ref a :: st) h k n = (oV (fget h a 6 0) (WP 67 G S f) 25 ls st h k n) := by rw [wp_s dd_67_22 rfl hs]; rfl
theorem dd_67_25 : decode (mB 67) 25 = .ok (.iload_n 3, 1) := by decide +kernel
theorem u_67_25 {G : aG} {S : Nat → Bool} {f : Nat} {st : List Value} {ls : aL} {h : aH} {k n : Nat} (hs : S 25 = false) : WP 67 G S (f + 1) 25 ls st h k n = (oI (lget ls 3) (WP 67 G S f) 26 ls st h k n) := by rw [wp_s dd_67_25 rfl hs]; rfl
theorem dd_67_26 : decode (mB 67) 26 = .ok (.iaload, 1) := by decide +kernel
theorem u_67_26 {G : aG} {S : Nat → Bool} {f : Nat} {st : List Value} {ls : aL} {h : aH} {k n : Nat} {i : Int32} {a : Nat} (hs : S 26 = false) : WP 67 G S (f + 1) 26 ls (.int i :: .ref a :: st) h k n = (oIld (iget h a 1) i (WP 67 G S f) 27 ls st h k n) := by rw [wp_s dd_67_26 rfl hs]; rfl
theorem dd_67_27 : decode (mB 67) 27 = .ok (.ifCond .eq 18, 3) := by decide +kernel
theorem u_67_27 {G : aG} {S : Nat → Bool} {f : Nat} {st : List Value} {ls : aL} {h : aH} {k n : Nat} {x : Int32} (hs : S 27 = false) : WP 67 G S (f + 1) 27 ls (.int x :: st) h k n = (if x = nI 0 then WP 67 G S f 45 ls st h k n else WP 67 G S f 30 ls st h k n) := by rw [wp_s dd_67_27 rfl hs]; exact br_ite (c := x = nI 0)
theorem dd_67_30 : decode (mB 67) 30 = .ok (.iload_n 2, 1) := by decide +kernel
theorem u_67_30 {G : aG} {S : Nat → Bool} {f : Nat} {st : List Value} {ls : aL} {h : aH} {k n : Nat} (hs : S 30 = false) : WP 67 G S (f + 1) 30 ls st h k n = (oI (lget ls 2) (WP 67 G S f) 31 ls st h k n) := by rw [wp_s dd_67_30 rfl hs]; rfl
theorem dd_67_31 : decode (mB 67) 31 = .ok (.aload_n 0, 1) := by decide +kernel
theorem u_67_31 {G : aG} {S : Nat → Bool} {f : Nat} {st : List Value} {ls : aL} {h : aH} {k n : Nat} (hs : S 31 = false) : WP 67 G S (f + 1) 31 ls st h k n = (oA (lget ls 0) (WP 67 G S f) 32 ls st h k n) := by rw [wp_s dd_67_31 rfl hs]; rfl
theorem dd_67_32 : decode (mB 67) 32 = .ok (.getfield 11, 3) := by decide +kernel
theorem u_67_32 {G : aG} {S : Nat → Bool} {f : Nat} {st : List Value} {ls : aL} {h : aH} {k n : Nat} {a : Nat} (hs : S 32 = false) : WP 67 G S (f + 1) 32 ls (.ref a :: st) h k n = (oV (fget h a 6 0) (WP 67 G S f) 35 ls st h k n) := by rw [wp_s dd_67_32 rfl hs]; rfl
theorem dd_67_35 : decode (mB 67) 35 = .ok (.iload_n 3, 1) := by decide +kernel
theorem u_67_35 {G : aG} {S : Nat → Bool} {f : Nat} {st : List Value} {ls : aL} {h : aH} {k n : Nat} (hs : S 35 = false) : WP 67 G S (f + 1) 35 ls st h k n = (oI (lget ls 3) (WP 67 G S f) 36 ls st h k n) := by rw [wp_s dd_67_35 rfl hs]; rfl
theorem dd_67_36 : decode (mB 67) 36 = .ok (.iaload, 1) := by decide +kernel
theorem u_67_36 {G : aG} {S : Nat → Bool} {f : Nat} {st : List Value} {ls : aL} {h : aH} {k n : Nat} {i : Int32} {a : Nat} (hs : S 36 = false) : WP 67 G S (f + 1) 36 ls (.int i :: .ref a :: st) h k n = (oIld (iget h a 1) i (WP 67 G S f) 37 ls st h k n) := by rw [wp_s dd_67_36 rfl hs]; rfl
theorem dd_67_37 : decode (mB 67) 37 = .ok (.aload_n 1, 1) := by decide +kernel
theorem u_67_37 {G : aG} {S : Nat → Bool} {f : Nat} {st : List Value} {ls : aL} {h : aH} {k n : Nat} (hs : S 37 = false) : WP 67 G S (f + 1) 37 ls st h k n = (oA (lget ls 1) (WP 67 G S f) 38 ls st h k n) := by rw [wp_s dd_67_37 rfl hs]; rfl
theorem dd_67_38 : decode (mB 67) 38 = .ok (.iload_n 3, 1) := by decide +kernel
theorem u_67_38 {G : aG} {S : Nat → Bool} {f : Nat} {st : List Value} {ls : aL} {h : aH} {k n : Nat} (hs : S 38 = false) : WP 67 G S (f + 1) 38 ls st h k n = (oI (lget ls 3) (WP 67 G S f) 39 ls st h k n) := by rw [wp_s dd_67_38 rfl hs]; rfl
theorem dd_67_39 : decode (mB 67) 39 = .ok (.invokevirtual 51, 3) := by decide +kernel
theorem u_67_39 {G : aG} {S : Nat → Bool} {f : Nat} {st : List Value} {ls : aL} {h : aH} {k n : Nat} {v1 : Value} {b : Nat} (hs : S 39 = false) : WP 67 G S (f + 1) 39 ls (v1 :: .ref b :: st) h k n = (rcv (hget h b) 2 ∧ CAL G (WP 67 G S f) 68 [.ref b, v1] 42 ls st h k n) := by rw [wp_s dd_67_39 rfl hs]; rfl
theorem dd_67_42 : decode (mB 67) 42 = .ok (.imul, 1) := by decide +kernel
theorem u_67_42 {G : aG} {S : Nat → Bool} {f : Nat} {st : List Value} {ls : aL} {h : aH} {k n : Nat} {x y : Int32} (hs : S 42 = false) : WP 67 G S (f + 1) 42 ls (.int y :: .int x :: st) h k n = (WP 67 G S f 43 ls (.int (x * y) :: st) h k n) := by rw [wp_s dd_67_42 rfl hs]; rfl
theorem dd_67_43 : decode (mB 67) 43 = .ok (.iadd, 1) := by decide +kernel
theorem u_67_43 {G : aG} {S : Nat → Bool} {f : Nat} {st : List Value} {ls : aL} {h : aH} {k n : Nat} {x y : Int32} (hs : S 43 = false) : WP 67 G S (f + 1) 43 ls (.int y :: .int x :: st) h k n = (WP 67 G S f 44 ls (.int (x + y) :: st) h k n) := by rw [wp_s dd_67_43 rfl hs]; rfl
theorem dd_67_44 : decode (mB 67) 44 = .ok (.istore_n 2, 1) := by decide +kernel
theorem u_67_44 {G : aG} {S : Nat → Bool} {f : Nat} {st : List Value} {ls : aL} {h : aH} {k n : Nat} {x : Int32} (hs : S 44 = false) : WP 67 G S (f + 1) 44 ls (.int x :: st) h k n = (WP 67 G S f 45 (lput1 ls 2 (.int x)) st h k n) := by rw [wp_s dd_67_44 rfl hs]; rfl
theorem dd_67_45 : decode (mB 67) 45 = .ok (.iinc 3 1, 3) := by decide +kernel
theorem u_67_45 {G : aG} {S : Nat → Bool} {f : Nat} {st : List Value} {ls : aL} {h : aH} {k n : Nat} (hs : S 45 = false) : WP 67 G S (f + 1) 45 ls st h k n = (oInc (lget ls 3) (nI 1) (WP 67 G S f) 3 48 ls st h k n) := by rw [wp_s dd_67_45 rfl hs]; rfl
theorem dd_67_48 : decode (mB 67) 48 = .ok (.goto (-44), 3) := by decide +kernel
theorem u_67_48 {G : aG} {S : Nat → Bool} {f : Nat} {st : List Value} {ls : aL} {h : aH} {k n : Nat} (hs : S 48 = false) : WP 67 G S (f + 1) 48 ls st h k n = (WP 67 G S f 4 ls st h k n) := by rw [wp_s dd_67_48 rfl hs]; rfl
theorem dd_67_51 : decode (mB 67) 51 = .ok (.iload_n 2, 1) := by decide +kernel
theorem u_67_51 {G : aG} {S : Nat → Bool} {f : Nat} {st : List Value} {ls : aL} {h : aH} {k n : Nat} (hs : S 51 = false) : WP 67 G S (f + 1) 51 ls st h k n = (oI (lget ls 2) (WP 67 G S f) 52 ls st h k n) := by rw [wp_s dd_67_51 rfl hs]; rfl
theorem dd_67_52 : decode (mB 67) 52 = .ok (.ireturn, 1) := by decide +kernel
theorem u_67_52 {G : aG} {S : Nat → Bool} {f : Nat} {ls : aL} {h : aH} {k n : Nat} {x : Int32} (hs : S 52 = false) : WP 67 G S (f + 1) 52 ls [.int x] h k n = (RET G (some (.int x)) h k n) := by rw [wp_s dd_67_52 rfl hs]; rfl
theorem dd_68_0 : decode (mB 68) 0 = .ok (.aload_n 0, 1) := by decide +kernel
theorem u_68_0 {G : aG} {S : Nat → Bool} {f : Nat} {st : List Value} {ls : aL} {h : aH} {k n : Nat} (hs : S 0 = false) : WP 68 G S (f + 1) 0 ls st h k n = (oA (lget ls 0) (WP 68 G S f) 1 ls st h k n) := by rw [wp_s dd_68_0 rfl hs]; rfl
theorem dd_68_1 : decode (mB 68) 1 = .ok (.iload_n 1, 1) := by decide +kernel
theorem u_68_1 {G : aG} {S : Nat → Bool} {f : Nat} {st : List Value} {ls : aL} {h : aH} {k n : Nat} (hs : S 1 = false) : WP 68 G S (f + 1) 1 ls st h k n = (oI (lget ls 1) (WP 68 G S f) 2 ls st h k n) := by rw [wp_s dd_68_1 rfl hs]; rfl
theorem dd_68_2 : decode (mB 68) 2 = .ok (.invokevirtual 94, 3) := by decide +kernel
theorem u_68_2 {G : aG} {S : Nat → Bool} {f : Nat} {st : List Value} {ls : aL} {h : aH} {k n : Nat} {v1 : Value} {b : Nat} (hs : S 2 = false) : WP 68 G S (f + 1) 2 ls (v1 :: .ref b :: st) h k n = (rcv (hget h b) 2 ∧ CAL G (WP 68 G S f) 61 [.ref b, v1] 5 ls st h k n) := by rw [wp_s dd_68_2 rfl hs]; rfl
theorem dd_68_5 : decode (mB 68) 5 = .ok (.bipush 9, 2) := by decide +kernel
theorem u_68_5 {G : aG} {S : Nat → Bool} {f : Nat} {st : List Value} {ls : aL} {h : aH} {k n : Nat} (hs : S 5 = false) : WP 68 G S (f + 1) 5 ls st h k n = (WP 68 G S f 7 ls (.int (nI 9) :: st) h k n) := by rw [wp_s dd_68_5 rfl hs]; rfl
theorem dd_68_7 : decode (mB 68) 7 = .ok (.ishr, 1) := by decide +kernel
theorem u_68_7 {G : aG} {S : Nat → Bool} {f : Nat} {st : List Value} {ls : aL} {h : aH} {k n : Nat} {x y : Int32} (hs : S 7 = false) : WP 68 G S (f + 1) 7 ls (.int y :: .int x :: st) h k n = (WP 68 G S f 8 ls (.int (x >>> (y &&& 31)) :: st) h k n) := by rw [wp_s dd_68_7 rfl hs]; rfl
theorem dd_68_8 : decode (mB 68) 8 = .ok (.invokestatic 98, 3) := by decide +kernel
theorem u_68_8 {G : aG} {S : Nat → Bool} {f : Nat} {st : List Value} {ls : aL} {h : aH} {k n : Nat} {v1 : Value} (hs : S 8 = false) : WP 68 G S (f + 1) 8 ls (v1 :: st) h k n = (CAL G (WP 68 G S f) 69 [v1] 11 ls st h k n) := by rw [wp_s dd_68_8 rfl hs]; rfl
theorem dd_68_11 : decode (mB 68) 11 = .ok (.ireturn, 1) := by decide +kernel
theorem u_68_11 {G : aG} {S : Nat → Bool} {f : Nat} {ls : aL} {h : aH} {k n : Nat} {x : Int32} (hs : S 11 = false) : WP 68 G S (f + 1) 11 ls [.int x] h k n = (RET G (some (.int x)) h k n) := by rw [wp_s dd_68_11 rfl hs]; rfl
theorem dd_70_0 : decode (mB 70) 0 = .ok (.aload_n 0, 1) := by decide +kernel
theorem u_70_0 {G : aG} {S : Nat → Bool} {f : Nat} {st : List Value} {ls : aL} {h : aH} {k n : Nat} (hs : S 0 = false) : WP 70 G S (f + 1) 0 ls st h k n = (oA (lget ls 0) (WP 70 G S f) 1 ls st h k n) := by rw [wp_s dd_70_0 rfl hs]; rfl
theorem dd_70_1 : decode (mB 70) 1 = .ok (.getfield 15, 3) := by decide +kernel
theorem u_70_1 {G : aG} {S : Nat → Bool} {f : Nat} {st : List Value} {ls : aL} {h : aH} {k n : Nat} {a : Nat} (hs : S 1 = false) : WP 70 G S (f + 1) 1 ls (.ref a :: st) h k n = (oV (fget h a 6 1) (WP 70 G S f) 4 ls st h k n) := by rw [wp_s dd_70_1 rfl hs]; rfl
theorem dd_70_4 : decode (mB 70) 4 = .ok (.iconst 0, 1) := by decide +kernel
theorem u_70_4 {G : aG} {S : Nat → Bool} {f : Nat} {st : List Value} {ls : aL} {h : aH} {k n : Nat} (hs : S 4 = false) : WP 70 G S (f + 1) 4 ls st h k n = (WP 70 G S f 5 ls (.int (nI 0) :: st) h k n) := by rw [wp_s dd_70_4 rfl hs]; rfl
theorem dd_70_5 : decode (mB 70) 5 = .ok (.invokestatic 38, 3) := by decide +kernel
theorem u_70_5 {G : aG} {S : Nat → Bool} {f : Nat} {st : List Value} {ls : aL} {h : aH} {k n : Nat} {v1 v2 : Value} (hs : S 5 = false) : WP 70 G S (f + 1) 5 ls (v2 :: v1 :: st) h k n = (CAL G (WP 70 G S f) 23 [v1, v2] 8 ls st h k n) := by rw [wp_s dd_70_5 rfl hs]; rfl
theorem dd_70_8 : decode (mB 70) 8 = .ok (.aload_n 1, 1) := by decide +kernel
theorem u_70_8 {G : aG} {S : Nat → Bool} {f : Nat} {st : List Value} {ls : aL} {h : aH} {k n : Nat} (hs : S 8 = false) : WP 70 G S (f + 1) 8 ls st h k n = (oA (lget ls 1) (WP 70 G S f) 9 ls st h k n) := by rw [wp_s dd_70_8 rfl hs]; rfl
theorem dd_70_9 : decode (mB 70) 9 = .ok (.getfield 48, 3) := by decide +kernel
theorem u_70_9 {G : aG} {S : Nat → Bool} {f : Nat} {st : List Value} {ls : aL} {h : aH} {k n : Nat} {a : Nat} (hs : S 9 = false) : WP 70 G S (f + 1) 9 ls (.ref a :: st) h k n = (oV (fget h a 2 3) (WP 70 G S f) 12 ls st h k n) := by rw [wp_s dd_70_9 rfl hs]; rfl
theorem dd_70_12 : decode (mB 70) 12 = .ok (.aload_n 0, 1) := by decide +kernel
theorem u_70_12 {G : aG} {S : Nat → Bool} {f : Nat} {st : List Value} {ls : aL} {h : aH} {k n : Nat} (hs : S 12 = false) : WP 70 G S (f + 1) 12 ls st h k n = (oA (lget ls 0) (WP 70 G S f) 13 ls st h k n) := by rw [wp_s dd_70_12 rfl hs]; rfl
theorem dd_70_13 : decode (mB 70) 13 = .ok (.getfield 11, 3) := by decide +kernel
theorem u_70_13 {G : aG} {S : Nat → Bool} {f : Nat} {st : List Value} {ls : aL} {h : aH} {k n : Nat} {a : Nat} (hs : S 13 = false) : WP 70 G S (f + 1) 13 ls (.ref a :: st) h k n = (oV (fget h a 6 0) (WP 70 G S f) 16 ls st h k n) := by rw [wp_s dd_70_13 rfl hs]; rfl
theorem dd_70_16 : decode (mB 70) 16 = .ok (.arraylength, 1) := by decide +kernel
theorem u_70_16 {G : aG} {S : Nat → Bool} {f : Nat} {st : List Value} {ls : aL} {h : aH} {k n : Nat} {a : Nat} (hs : S 16 = false) : WP 70 G S (f + 1) 16 ls (.ref a :: st) h k n = (oLen (alen h a) (WP 70 G S f) 17 ls st h k n) := by rw [wp_s dd_70_16 rfl hs]; rfl
theorem dd_70_17 : decode (mB 70) 17 = .ok (.invokestatic 54, 3) := by decide +kernel
theorem u_70_17 {G : aG} {S : Nat → Bool} {f : Nat} {st : List Value} {ls : aL} {h : aH} {k n : Nat} {v1 v2 : Value} (hs : S 17 = false) : WP 70 G S (f + 1) 17 ls (v2 :: v1 :: st) h k n = (CAL G (WP 70 G S f) 12 [v1, v2] 20 ls st h k n) := by rw [wp_s dd_70_17 rfl hs]; rfl
theorem dd_70_20 : decode (mB 70) 20 = .ok (.istore_n 2, 1) := by decide +kernel
theorem u_70_20 {G : aG} {S : Nat → Bool} {f : Nat} {st : List Value} {ls : aL} {h : aH} {k n : Nat} {x : Int32} (hs : S 20 = false) : WP 70 G S (f + 1) 20 ls (.int x :: st) h k n = (WP 70 G S f 21 (lput1 ls 2 (.int x)) st h k n) := by rw [wp_s dd_70_20 rfl hs]; rfl
theorem dd_70_21 : decode (mB 70) 21 = .ok (.iconst 0, 1) := by decide +kernel
theorem u_70_21 {G : aG} {S : Nat → Bool} {f : Nat} {st : List Value} {ls : aL} {h : aH} {k n : Nat} (hs : S 21 = false) : WP 70 G S (f + 1) 21 ls st h k n = (WP 70 G S f 22 ls (.int (nI 0) :: st) h k n) := by rw [wp_s dd_70_21 rfl hs]; rfl
theorem dd_70_22 : decode (mB 70) 22 = .ok (.istore_n 3, 1) := by decide +kernel
theorem u_70_22 {G : aG} {S : Nat → Bool} {f : Nat} {st : List Value} {ls : aL} {h : aH} {k n : Nat} {x : Int32} (hs : S 22 = false) : WP 70 G S (f + 1) 22 ls (.int x :: st) h k n = (WP 70 G S f 23 (lput1 ls 3 (.int x)) st h k n) := by rw [wp_s dd_70_22 rfl hs]; rfl
theorem dd_70_23 : decode (mB 70) 23 = .ok (.iload_n 3, 1) := by decide +kernel
theorem u_70_23 {G : aG} {S : Nat → Bool} {f : Nat} {st : List Value} {ls : aL} {h : aH} {k n : Nat} (hs : S 23 = false) : WP 70 G S (f + 1) 23 ls st h k n = (oI (lget ls 3) (WP 70 G S f) 24 ls st h k n) := by rw [wp_s dd_70_23 rfl hs]; rfl
theorem v_70_23 {G : aG} {S : Nat → Bool} {f : Nat} {st : List Value} {ls : aL} {h : aH} {k n : Nat} : WQ 70 G S f 23 ls st h k n = (oI (lget ls 3) (WP 70 G S f) 24 ls st h k n) := by rw [wq_s dd_70_23 rfl]; rfl
theorem dd_70_24 : decode (mB 70) 24 = .ok (.iload_n 2, 1) := by decide +kernel
theorem u_70_24 {G : aG} {S : Nat → Bool} {f : Nat} {st : List Value} {ls : aL} {h : aH} {k n : Nat} (hs : S 24 = false) : WP 70 G S (f + 1) 24 ls st h k n = (oI (lget ls 2) (WP 70 G S f) 25 ls st h k n) := by rw [wp_s dd_70_24 rfl hs]; rfl
theorem dd_70_25 : decode (mB 70) 25 = .ok (.if_icmp .ge 89, 3) := by decide +kernel
theorem u_70_25 {G : aG} {S : Nat → Bool} {f : Nat} {st : List Value} {ls : aL} {h : aH} {k n : Nat} {x y : Int32} (hs : S 25 = false) : WP 70 G S (f + 1) 25 ls (.int y :: .int x :: st) h k n = (if y ≤ x then WP 70 G S f 114 ls st h k n else WP 70 G S f 28 ls st h k n) := by rw [wp_s dd_70_25 rfl hs]; exact br_ite (c := y ≤ x)
theorem dd_70_28 : decode (mB 70) 28 = .ok (.iconst 0, 1) := by decide +kernel
theorem u_70_28 {G : aG} {S : Nat → Bool} {f : Nat} {st : List Value} {ls : aL} {h : aH} {k n : Nat} (hs : S 28 = false) : WP 70 G S (f + 1) 28 ls st h k n = (WP 70 G S f 29 ls (.int (nI 0) :: st) h k n) := by rw [wp_s dd_70_28 rfl hs]; rfl
theorem dd_70_29 : decode (mB 70) 29 = .ok (.istore 4, 2) := by decide +kernel
theorem u_70_29 {G : aG} {S : Nat → Bool} {f : Nat} {st : List Value} {ls : aL} {h : aH} {k n : Nat} {x : Int32} (hs : S 29 = false) : WP 70 G S (f + 1) 29 ls (.int x :: st) h k n = (WP 70 G S f 31 (lput1 ls 4 (.int x)) st h k n) := by rw [wp_s dd_70_29 rfl hs]; rfl
theorem dd_70_31 : decode (mB 70) 31 = .ok (.iload 4, 2) := by decide +kernel
theorem u_70_31 {G : aG} {S : Nat → Bool} {f : Nat} {st : List Value} {ls : aL} {h : aH} {k n : Nat} (hs : S 31 = false) : WP 70 G S (f + 1) 31 ls st h k n = (oI (lget ls 4) (WP 70 G S f) 33 ls st h k n) := by rw [wp_s dd_70_31 rfl hs]; rfl
theorem v_70_31 {G : aG} {S : Nat → Bool} {f : Nat} {st : List Value} {ls : aL} {h : aH} {k n : Nat} : WQ 70 G S f 31 ls st h k n = (oI (lget ls 4) (WP 70 G S f) 33 ls st h k n) := by rw [wq_s dd_70_31 rfl]; rfl
theorem dd_70_33 : decode (mB 70) 33 = .ok (.bipush 8, 2) := by decide +kernel
theorem u_70_33 {G : aG} {S : Nat → Bool} {f : Nat} {st : List Value} {ls : aL} {h : aH} {k n : Nat} (hs : S 33 = false) : WP 70 G S (f + 1) 33 ls st h k n = (WP 70 G S f 35 ls (.int (nI 8) :: st) h k n) := by rw [wp_s dd_70_33 rfl hs]; rfl
theorem dd_70_35 : decode (mB 70) 35 = .ok (.if_icmp .ge 73, 3) := by decide +kernel
theorem u_70_35 {G : aG} {S : Nat → Bool} {f : Nat} {st : List Value} {ls : aL} {h : aH} {k n : Nat} {x y : Int32} (hs : S 35 = false) : WP 70 G S (f + 1) 35 ls (.int y :: .int x :: st) h k n = (if y ≤ x then WP 70 G S f 108 ls st h k n else WP 70 G S f 38 ls st h k n) := by rw [wp_s dd_70_35 rfl hs]; exact br_ite (c := y ≤ x)
theorem dd_70_38 : decode (mB 70) 38 = .ok (.aload_n 0, 1) := by decide +kernel
theorem u_70_38 {G : aG} {S : Nat → Bool} {f : Nat} {st : List Value} {ls : aL} {h : aH} {k n : Nat} (hs : S 38 = false) : WP 70 G S (f + 1) 38 ls st h k n = (oA (lget ls 0) (WP 70 G S f) 39 ls st h k n) := by rw [wp_s dd_70_38 rfl hs]; rfl
theorem dd_70_39 : decode (mB 70) 39 = .ok (.getfield 11, 3) := by decide +kernel
theorem u_70_39 {G : aG} {S : Nat → Bool} {f : Nat} {st : List Value} {ls : aL} {h : aH} {k n : Nat} {a : Nat} (hs : S 39 = false) : WP 70 G S (f + 1) 39 ls (.ref a :: st) h k n = (oV (fget h a 6 0) (WP 70 G S f) 42 ls st h k n) := by rw [wp_s dd_70_39 rfl hs]; rfl
theorem dd_70_42 : decode (mB 70) 42 = .ok (.iload_n 3, 1) := by decide +kernel
theorem u_70_42 {G : aG} {S : Nat → Bool} {f : Nat} {st : List Value} {ls : aL} {h : aH} {k n : Nat} (hs : S 42 = false) : WP 70 G S (f + 1) 42 ls st h k n = (oI (lget ls 3) (WP 70 G S f) 43 ls st h k n) := by rw [wp_s dd_70_42 rfl hs]; rfl
theorem dd_70_43 : decode (mB 70) 43 = .ok (.iaload, 1) := by decide +kernel
theorem u_70_43 {G : aG} {S : Nat → Bool} {f : Nat} {st : List Value} {ls : aL} {h : aH} {k n : Nat} {i : Int32} {a : Nat} (hs : S 43 = false) : WP 70 G S (f + 1) 43 ls (.int i :: .ref a :: st) h k n = (oIld (iget h a 1) i (WP 70 G S f) 44 ls st h k n) := by rw [wp_s dd_70_43 rfl hs]; rfl
theorem dd_70_44 : decode (mB 70) 44 = .ok (.ifCond .eq 64, 3) := by decide +kernel
theorem u_70_44 {G : aG} {S : Nat → Bool} {f : Nat} {st : List Value} {ls : aL} {h : aH} {k n : Nat} {x : Int32} (hs : S 44 = false) : WP 70 G S (f + 1) 44 ls (.int x :: st) h k n = (if x = nI 0 then WP 70 G S f 108 ls st h k n else WP 70 G S f 47 ls st h k n) := by rw [wp_s dd_70_44 rfl hs]; exact br_ite (c := x = nI 0)
theorem dd_70_47 : decode (mB 70) 47 = .ok (.aload_n 1, 1) := by decide +kernel
theorem u_70_47 {G : aG} {S : Nat → Bool} {f : Nat} {st : List Value} {ls : aL} {h : aH} {k n : Nat} (hs : S 47 = false) : WP 70 G S (f + 1) 47 ls st h k n = (oA (lget ls 1) (WP 70 G S f) 48 ls st h k n) := by rw [wp_s dd_70_47 rfl hs]; rfl
theorem dd_70_48 : decode (mB 70) 48 = .ok (.iload_n 3, 1) := by decide +kernel
theorem u_70_48 {G : aG} {S : Nat → Bool} {f : Nat} {st : List Value} {ls : aL} {h : aH} {k n : Nat} (hs : S 48 = false) : WP 70 G S (f + 1) 48 ls st h k n = (oI (lget ls 3) (WP 70 G S f) 49 ls st h k n) := by rw [wp_s dd_70_48 rfl hs]; rfl
theorem dd_70_49 : decode (mB 70) 49 = .ok (.iload 4, 2) := by decide +kernel
theorem u_70_49 {G : aG} {S : Nat → Bool} {f : Nat} {st : List Value} {ls : aL} {h : aH} {k n : Nat} (hs : S 49 = false) : WP 70 G S (f + 1) 49 ls st h k n = (oI (lget ls 4) (WP 70 G S f) 51 ls st h k n) := by rw [wp_s dd_70_49 rfl hs]; rfl
theorem dd_70_51 : decode (mB 70) 51 = .ok (.invokevirtual 60, 3) := by decide +kernel
theorem u_70_51 {G : aG} {S : Nat → Bool} {f : Nat} {st : List Value} {ls : aL} {h : aH} {k n : Nat} {v1 v2 : Value} {b : Nat} (hs : S 51 = false) : WP 70 G S (f + 1) 51 ls (v2 :: v1 :: .ref b :: st) h k n = (rcv (hget h b) 2 ∧ CAL G (WP 70 G S f) 71 [.ref b, v1, v2] 54 ls st h k n) := by rw [wp_s dd_70_51 rfl hs]; rfl
theorem dd_70_54 : decode (mB 70) 54 = .ok (.istore 5, 2) := by decide +kernel
theorem u_70_54 {G : aG} {S : Nat → Bool} {f : Nat} {st : List Value} {ls : aL} {h : aH} {k n : Nat} {x : Int32} (hs : S 54 = false) : WP 70 G S (f + 1) 54 ls (.int x :: st) h k n = (WP 70 G S f 56 (lput1 ls 5 (.int x)) st h k n) := by rw [wp_s dd_70_54 rfl hs]; rfl
theorem dd_70_56 : decode (mB 70) 56 = .ok (.iload 5, 2) := by decide +kernel
theorem u_70_56 {G : aG} {S : Nat → Bool} {f : Nat} {st : List Value} {ls : aL} {h : aH} {k n : Nat} (hs : S 56 = false) : WP 70 G S (f + 1) 56 ls st h k n = (oI (lget ls 5) (WP 70 G S f) 58 ls st h k n) := by rw [wp_s dd_70_56 rfl hs]; rfl
theorem dd_70_58 : decode (mB 70) 58 = .ok (.aload_n 0, 1) := by decide +kernel
theorem u_70_58 {G : aG} {S : Nat → Bool} {f : Nat} {st : List Value} {ls : aL} {h : aH} {k n : Nat} (hs : S 58 = false) : WP 70 G S (f + 1) 58 ls st h k n = (oA (lget ls 0) (WP 70 G S f) 59 ls st h k n) := by rw [wp_s dd_70_58 rfl hs]; rfl
theorem dd_70_59 : decode (mB 70) 59 = .ok (.getfield 15, 3) := by decide +kernel
theorem u_70_59 {G : aG} {S : Nat → Bool} {f : Nat} {st : List Value} {ls : aL} {h : aH} {k n : Nat} {a : Nat} (hs : S 59 = false) : WP 70 G S (f + 1) 59 ls (.ref a :: st) h k n = (oV (fget h a 6 1) (WP 70 G S f) 62 ls st h k n) := by rw [wp_s dd_70_59 rfl hs]; rfl
theorem dd_70_62 : decode (mB 70) 62 = .ok (.arraylength, 1) := by decide +kernel
theorem u_70_62 {G : aG} {S : Nat → Bool} {f : Nat} {st : List Value} {ls : aL} {h : aH} {k n : Nat} {a : Nat} (hs : S 62 = false) : WP 70 G S (f + 1) 62 ls (.ref a :: st) h k n = (oLen (alen h a) (WP 70 G S f) 63 ls st h k n) := by rw [wp_s dd_70_62 rfl hs]; rfl
theorem dd_70_63 : decode (mB 70) 63 = .ok (.if_icmp .lt 18, 3) := by decide +kernel
theorem u_70_63 {G : aG} {S : Nat → Bool} {f : Nat} {st : List Value} {ls : aL} {h : aH} {k n : Nat} {x y : Int32} (hs : S 63 = false) : WP 70 G S (f + 1) 63 ls (.int y :: .int x :: st) h k n = (if x < y then WP 70 G S f 81 ls st h k n else WP 70 G S f 66 ls st h k n) := by rw [wp_s dd_70_63 rfl hs]; exact br_ite (c := x < y)
theorem dd_70_66 : decode (mB 70) 66 = .ok (.aload_n 0, 1) := by decide +kernel
theorem u_70_66 {G : aG} {S : Nat → Bool} {f : Nat} {st : List Value} {ls : aL} {h : aH} {k n : Nat} (hs : S 66 = false) : WP 70 G S (f + 1) 66 ls st h k n = (oA (lget ls 0) (WP 70 G S f) 67 ls st h k n) := by rw [wp_s dd_70_66 rfl hs]; rfl
theorem dd_70_67 : decode (mB 70) 67 = .ok (.aload_n 0, 1) := by decide +kernel
theorem u_70_67 {G : aG} {S : Nat → Bool} {f : Nat} {st : List Value} {ls : aL} {h : aH} {k n : Nat} (hs : S 67 = false) : WP 70 G S (f + 1) 67 ls st h k n = (oA (lget ls 0) (WP 70 G S f) 68 ls st h k n) := by rw [wp_s dd_70_67 rfl hs]; rfl
theorem dd_70_68 : decode (mB 70) 68 = .ok (.getfield 15, 3) := by decide +kernel
theorem u_70_68 {G : aG} {S : Nat → Bool} {f : Nat} {st : List Value} {ls : aL} {h : aH} {k n : Nat} {a : Nat} (hs : S 68 = false) : WP 70 G S (f + 1) 68 ls (.ref a :: st) h k n = (oV (fget h a 6 1) (WP 70 G S f) 71 ls st h k n) := by rw [wp_s dd_70_68 rfl hs]; rfl
theorem dd_70_71 : decode (mB 70) 71 = .ok (.iconst 2, 1) := by decide +kernel
theorem u_70_71 {G : aG} {S : Nat → Bool} {f : Nat} {st : List Value} {ls : aL} {h : aH} {k n : Nat} (hs : S 71 = false) : WP 70 G S (f + 1) 71 ls st h k n = (WP 70 G S f 72 ls (.int (nI 2) :: st) h k n) := by rw [wp_s dd_70_71 rfl hs]; rfl
theorem dd_70_72 : decode (mB 70) 72 = .ok (.iload 5, 2) := by decide +kernel
theorem u_70_72 {G : aG} {S : Nat → Bool} {f : Nat} {st : List Value} {ls : aL} {h : aH} {k n : Nat} (hs : S 72 = false) : WP 70 G S (f + 1) 72 ls st h k n = (oI (lget ls 5) (WP 70 G S f) 74 ls st h k n) := by rw [wp_s dd_70_72 rfl hs]; rfl
theorem dd_70_74 : decode (mB 70) 74 = .ok (.imul, 1) := by decide +kernel
theorem u_70_74 {G : aG} {S : Nat → Bool} {f : Nat} {st : List Value} {ls : aL} {h : aH} {k n : Nat} {x y : Int32} (hs : S 74 = false) : WP 70 G S (f + 1) 74 ls (.int y :: .int x :: st) h k n = (WP 70 G S f 75 ls (.int (x * y) :: st) h k n) := by rw [wp_s dd_70_74 rfl hs]; rfl
theorem dd_70_75 : decode (mB 70) 75 = .ok (.invokestatic 63, 3) := by decide +kernel
theorem u_70_75 {G : aG} {S : Nat → Bool} {f : Nat} {st : List Value} {ls : aL} {h : aH} {k n : Nat} {v1 v2 : Value} (hs : S 75 = false) : WP 70 G S (f + 1) 75 ls (v2 :: v1 :: st) h k n = (CAL G (WP 70 G S f) 18 [v1, v2] 78 ls st h k n) := by rw [wp_s dd_70_75 rfl hs]; rfl
theorem dd_70_78 : decode (mB 70) 78 = .ok (.putfield 15, 3) := by decide +kernel
theorem u_70_78 {G : aG} {S : Nat → Bool} {f : Nat} {st : List Value} {ls : aL} {h : aH} {k n : Nat} {a : Nat} {x : Nat} (hs : S 78 = false) : WP 70 G S (f + 1) 78 ls (.ref x :: .ref a :: st) h k n = (oH (fput h a 6 1 (.ref x)) (WP 70 G S f) 81 ls st k n) := by rw [wp_s dd_70_78 rfl hs]; rfl
theorem dd_70_81 : decode (mB 70) 81 = .ok (.iload 5, 2) := by decide +kernel
theorem u_70_81 {G : aG} {S : Nat → Bool} {f : Nat} {st : List Value} {ls : aL} {h : aH} {k n : Nat} (hs : S 81 = false) : WP 70 G S (f + 1) 81 ls st h k n = (oI (lget ls 5) (WP 70 G S f) 83 ls st h k n) := by rw [wp_s dd_70_81 rfl hs]; rfl
theorem dd_70_83 : decode (mB 70) 83 = .ok (.ifCond .lt 19, 3) := by decide +kernel
theorem u_70_83 {G : aG} {S : Nat → Bool} {f : Nat} {st : List Value} {ls : aL} {h : aH} {k n : Nat} {x : Int32} (hs : S 83 = false) : WP 70 G S (f + 1) 83 ls (.int x :: st) h k n = (if x < nI 0 then WP 70 G S f 102 ls st h k n else WP 70 G S f 86 ls st h k n) := by rw [wp_s dd_70_83 rfl hs]; exact br_ite (c := x < nI 0)
theorem dd_70_86 : decode (mB 70) 86 = .ok (.aload_n 0, 1) := by decide +kernel
theorem u_70_86 {G : aG} {S : Nat → Bool} {f : Nat} {st : List Value} {ls : aL} {h : aH} {k n : Nat} (hs : S 86 = false) : WP 70 G S (f + 1) 86 ls st h k n = (oA (lget ls 0) (WP 70 G S f) 87 ls st h k n) := by rw [wp_s dd_70_86 rfl hs]; rfl
theorem dd_70_87 : decode (mB 70) 87 = .ok (.getfield 15, 3) := by decide +kernel
theorem u_70_87 {G : aG} {S : Nat → Bool} {f : Nat} {st : List Value} {ls : aL} {h : aH} {k n : Nat} {a : Nat} (hs : S 87 = false) : WP 70 G S (f + 1) 87 ls (.ref a :: st) h k n = (oV (fget h a 6 1) (WP 70 G S f) 90 ls st h k n) := by rw [wp_s dd_70_87 rfl hs]; rfl
theorem dd_70_90 : decode (mB 70) 90 = .ok (.iload 5, 2) := by decide +kernel
theorem u_70_90 {G : aG} {S : Nat → Bool} {f : Nat} {st : List Value} {ls : aL} {h : aH} {k n : Nat} (hs : S 90 = false) : WP 70 G S (f + 1) 90 ls st h k n = (oI (lget ls 5) (WP 70 G S f) 92 ls st h k n) := by rw [wp_s dd_70_90 rfl hs]; rfl
theorem dd_70_92 : decode (mB 70) 92 = .ok (.dup2, 1) := by decide +kernel
theorem u_70_92 {G : aG} {S : Nat → Bool} {f : Nat} {st : List Value} {ls : aL} {h : aH} {k n : Nat} {v v2 : Value} (hs : S 92 = false) : WP 70 G S (f + 1) 92 ls (v :: v2 :: st) h k n = (cond (cat1 v && cat1 v2) (WP 70 G S f 93 ls (v :: v2 :: v :: v2 :: st) h k n) False) := by rw [wp_s dd_70_92 rfl hs]; rfl
theorem dd_70_93 : decode (mB 70) 93 = .ok (.iaload, 1) := by decide +kernel
theorem u_70_93 {G : aG} {S : Nat → Bool} {f : Nat} {st : List Value} {ls : aL} {h : aH} {k n : Nat} {i : Int32} {a : Nat} (hs : S 93 = false) : WP 70 G S (f + 1) 93 ls (.int i :: .ref a :: st) h k n = (oIld (iget h a 1) i (WP 70 G S f) 94 ls st h k n) := by rw [wp_s dd_70_93 rfl hs]; rfl
theorem dd_70_94 : decode (mB 70) 94 = .ok (.aload_n 0, 1) := by decide +kernel
theorem u_70_94 {G : aG} {S : Nat → Bool} {f : Nat} {st : List Value} {ls : aL} {h : aH} {k n : Nat} (hs : S 94 = false) : WP 70 G S (f + 1) 94 ls st h k n = (oA (lget ls 0) (WP 70 G S f) 95 ls st h k n) := by rw [wp_s dd_70_94 rfl hs]; rfl
theorem dd_70_95 : decode (mB 70) 95 = .ok (.getfield 11, 3) := by decide +kernel
theorem u_70_95 {G : aG} {S : Nat → Bool} {f : Nat} {st : List Value} {ls : aL} {h : aH} {k n : Nat} {a : Nat} (hs : S 95 = false) : WP 70 G S (f + 1) 95 ls (.ref a :: st) h k n = (oV (fget h a 6 0) (WP 70 G S f) 98 ls st h k n) := by rw [wp_s dd_70_95 rfl hs]; rfl
theorem dd_70_98 : decode (mB 70) 98 = .ok (.iload_n 3, 1) := by decide +kernel
theorem u_70_98 {G : aG} {S : Nat → Bool} {f : Nat} {st : List Value} {ls : aL} {h : aH} {k n : Nat} (hs : S 98 = false) : WP 70 G S (f + 1) 98 ls st h k n = (oI (lget ls 3) (WP 70 G S f) 99 ls st h k n) := by rw [wp_s dd_70_98 rfl hs]; rfl
theorem dd_70_99 : decode (mB 70) 99 = .ok (.iaload, 1) := by decide +kernel
theorem u_70_99 {G : aG} {S : Nat → Bool} {f : Nat} {st : List Value} {ls : aL} {h : aH} {k n : Nat} {i : Int32} {a : Nat} (hs : S 99 = false) : WP 70 G S (f + 1) 99 ls (.int i :: .ref a :: st) h k n = (oIld (iget h a 1) i (WP 70 G S f) 100 ls st h k n) := by rw [wp_s dd_70_99 rfl hs]; rfl
theorem dd_70_100 : decode (mB 70) 100 = .ok (.iadd, 1) := by decide +kernel
theorem u_70_100 {G : aG} {S : Nat → Bool} {f : Nat} {st : List Value} {ls : aL} {h : aH} {k n : Nat} {x y : Int32} (hs : S 100 = false) : WP 70 G S (f + 1) 100 ls (.int y :: .int x :: st) h k n = (WP 70 G S f 101 ls (.int (x + y) :: st) h k n) := by rw [wp_s dd_70_100 rfl hs]; rfl
theorem dd_70_101 : decode (mB 70) 101 = .ok (.iastore, 1) := by decide +kernel
theorem u_70_101 {G : aG} {S : Nat → Bool} {f : Nat} {st : List Value} {ls : aL} {h : aH} {k n : Nat} {i x : Int32} {a : Nat} (hs : S 101 = false) : WP 70 G S (f + 1) 101 ls (.int x :: .int i :: .ref a :: st) h k n = (oIst (iget h a 1) a i x (WP 70 G S f) 102 ls st h k n) := by rw [wp_s dd_70_101 rfl hs]; rfl
theorem dd_70_102 : decode (mB 70) 102 = .ok (.iinc 4 1, 3) := by decide +kernel
theorem u_70_102 {G : aG} {S : Nat → Bool} {f : Nat} {st : List Value} {ls : aL} {h : aH} {k n : Nat} (hs : S 102 = false) : WP 70 G S (f + 1) 102 ls st h k n = (oInc (lget ls 4) (nI 1) (WP 70 G S f) 4 105 ls st h k n) := by rw [wp_s dd_70_102 rfl hs]; rfl
theorem dd_70_105 : decode (mB 70) 105 = .ok (.goto (-74), 3) := by decide +kernel
theorem u_70_105 {G : aG} {S : Nat → Bool} {f : Nat} {st : List Value} {ls : aL} {h : aH} {k n : Nat} (hs : S 105 = false) : WP 70 G S (f + 1) 105 ls st h k n = (WP 70 G S f 31 ls st h k n) := by rw [wp_s dd_70_105 rfl hs]; rfl
theorem dd_70_108 : decode (mB 70) 108 = .ok (.iinc 3 1, 3) := by decide +kernel
theorem u_70_108 {G : aG} {S : Nat → Bool} {f : Nat} {st : List Value} {ls : aL} {h : aH} {k n : Nat} (hs : S 108 = false) : WP 70 G S (f + 1) 108 ls st h k n = (oInc (lget ls 3) (nI 1) (WP 70 G S f) 3 111 ls st h k n) := by rw [wp_s dd_70_108 rfl hs]; rfl
theorem dd_70_111 : decode (mB 70) 111 = .ok (.goto (-88), 3) := by decide +kernel
theorem u_70_111 {G : aG} {S : Nat → Bool} {f : Nat} {st : List Value} {ls : aL} {h : aH} {k n : Nat} (hs : S 111 = false) : WP 70 G S (f + 1) 111 ls st h k n = (WP 70 G S f 23 ls st h k n) := by rw [wp_s dd_70_111 rfl hs]; rfl
theorem dd_70_114 : decode (mB 70) 114 = .ok (.aload_n 0, 1) := by decide +kernel
theorem u_70_114 {G : aG} {S : Nat → Bool} {f : Nat} {st : List Value} {ls : aL} {h : aH} {k n : Nat} (hs : S 114 = false) : WP 70 G S (f + 1) 114 ls st h k n = (oA (lget ls 0) (WP 70 G S f) 115 ls st h k n) := by rw [wp_s dd_70_114 rfl hs]; rfl
theorem dd_70_115 : decode (mB 70) 115 = .ok (.getfield 11, 3) := by decide +kernel
theorem u_70_115 {G : aG} {S : Nat → Bool} {f : Nat} {st : List Value} {ls : aL} {h : aH} {k n : Nat} {a : Nat} (hs : S 115 = false) : WP 70 G S (f + 1) 115 ls (.ref a :: st) h k n = (oV (fget h a 6 0) (WP 70 G S f) 118 ls st h k n) := by rw [wp_s dd_70_115 rfl hs]; rfl
theorem dd_70_118 : decode (mB 70) 118 = .ok (.astore_n 3, 1) := by decide +kernel
theorem u_70_118 {G : aG} {S : Nat → Bool} {f : Nat} {st : List Value} {ls : aL} {h : aH} {k n : Nat} {x : Nat} (hs : S 118 = false) : WP 70 G S (f + 1) 118 ls (.ref x :: st) h k n = (WP 70 G S f 119 (lput1 ls 3 (.ref x)) st h k n) := by rw [wp_s dd_70_118 rfl hs]; rfl
theorem dd_70_119 : decode (mB 70) 119 = .ok (.aload_n 0, 1) := by decide +kernel
theorem u_70_119 {G : aG} {S : Nat → Bool} {f : Nat} {st : List Value} {ls : aL} {h : aH} {k n : Nat} (hs : S 119 = false) : WP 70 G S (f + 1) 119 ls st h k n = (oA (lget ls 0) (WP 70 G S f) 120 ls st h k n) := by rw [wp_s dd_70_119 rfl hs]; rfl
theorem dd_70_120 : decode (mB 70) 120 = .ok (.aload_n 0, 1) := by decide +kernel
theorem u_70_120 {G : aG} {S : Nat → Bool} {f : Nat} {st : List Value} {ls : aL} {h : aH} {k n : Nat} (hs : S 120 = false) : WP 70 G S (f + 1) 120 ls st h k n = (oA (lget ls 0) (WP 70 G S f) 121 ls st h k n) := by rw [wp_s dd_70_120 rfl hs]; rfl
theorem dd_70_121 : decode (mB 70) 121 = .ok (.getfield 15, 3) := by decide +kernel
theorem u_70_121 {G : aG} {S : Nat → Bool} {f : Nat} {st : List Value} {ls : aL} {h : aH} {k n : Nat} {a : Nat} (hs : S 121 = false) : WP 70 G S (f + 1) 121 ls (.ref a :: st) h k n = (oV (fget h a 6 1) (WP 70 G S f) 124 ls st h k n) := by rw [wp_s dd_70_121 rfl hs]; rfl
theorem dd_70_124 : decode (mB 70) 124 = .ok (.putfield 11, 3) := by decide +kernel
theorem u_70_124 {G : aG} {S : Nat → Bool} {f : Nat} {st : List Value} {ls : aL} {h : aH} {k n : Nat} {a : Nat} {x : Nat} (hs : S 124 = false) : WP 70 G S (f + 1) 124 ls (.ref x :: .ref a :: st) h k n = (oH (fput h a 6 0 (.ref x)) (WP 70 G S f) 127 ls st k n) := by rw [wp_s dd_70_124 rfl hs]; rfl
theorem dd_70_127 : decode (mB 70) 127 = .ok (.aload_n 0, 1) := by decide +kernel
theorem u_70_127 {G : aG} {S : Nat → Bool} {f : Nat} {st : List Value} {ls : aL} {h : aH} {k n : Nat} (hs : S 127 = false) : WP 70 G S (f + 1) 127 ls st h k n = (oA (lget ls 0) (WP 70 G S f) 128 ls st h k n) := by rw [wp_s dd_70_127 rfl hs]; rfl
theorem dd_70_128 : decode (mB 70) 128 = .ok (.aload_n 3, 1) := by decide +kernel
theorem u_70_128 {G : aG} {S : Nat → Bool} {f : Nat} {st : List Value} {ls : aL} {h : aH} {k n : Nat} (hs : S 128 = false) : WP 70 G S (f + 1) 128 ls st h k n = (oA (lget ls 3) (WP 70 G S f) 129 ls st h k n) := by rw [wp_s dd_70_128 rfl hs]; rfl
theorem dd_70_129 : decode (mB 70) 129 = .ok (.putfield 15, 3) := by decide +kernel
theorem u_70_129 {G : aG} {S : Nat → Bool} {f : Nat} {st : List Value} {ls : aL} {h : aH} {k n : Nat} {a : Nat} {x : Nat} (hs : S 129 = false) : WP 70 G S (f + 1) 129 ls (.ref x :: .ref a :: st) h k n = (oH (fput h a 6 1 (.ref x)) (WP 70 G S f) 132 ls st k n) := by rw [wp_s dd_70_129 rfl hs]; rfl
theorem dd_70_132 : decode (mB 70) 132 = .ok (.return_, 1) := by decide +kernel
theorem u_70_132 {G : aG} {S : Nat → Bool} {f : Nat} {ls : aL} {h : aH} {k n : Nat} (hs : S 132 = false) : WP 70 G S (f + 1) 132 ls [] h k n = (RET G none h k n) := by rw [wp_s dd_70_132 rfl hs]; rfl
theorem dd_71_0 : decode (mB 71) 0 = .ok (.iload_n 2, 1) := by decide +kernel
theorem u_71_0 {G : aG} {S : Nat → Bool} {f : Nat} {st : List Value} {ls : aL} {h : aH} {k n : Nat} (hs : S 0 = false) : WP 71 G S (f + 1) 0 ls st h k n = (oI (lget ls 2) (WP 71 G S f) 1 ls st h k n) := by rw [wp_s dd_71_0 rfl hs]; rfl
theorem dd_71_1 : decode (mB 71) 1 = .ok (.ifCond .lt 21, 3) := by decide +kernel
theorem u_71_1 {G : aG} {S : Nat → Bool} {f : Nat} {st : List Value} {ls : aL} {h : aH} {k n : Nat} {x : Int32} (hs : S 1 = false) : WP 71 G S (f + 1) 1 ls (.int x :: st) h k n = (if x < nI 0 then WP 71 G S f 22 ls st h k n else WP 71 G S f 4 ls st h k n) := by rw [wp_s dd_71_1 rfl hs]; exact br_ite (c := x < nI 0)
theorem dd_71_4 : decode (mB 71) 4 = .ok (.iload_n 2, 1) := by decide +kernel
theorem u_71_4 {G : aG} {S : Nat → Bool} {f : Nat} {st : List Value} {ls : aL} {h : aH} {k n : Nat} (hs : S 4 = false) : WP 71 G S (f + 1) 4 ls st h k n = (oI (lget ls 2) (WP 71 G S f) 5 ls st h k n) := by rw [wp_s dd_71_4 rfl hs]; rfl
theorem dd_71_5 : decode (mB 71) 5 = .ok (.bipush 8, 2) := by decide +kernel
theorem u_71_5 {G : aG} {S : Nat → Bool} {f : Nat} {st : List Value} {ls : aL} {h : aH} {k n : Nat} (hs : S 5 = false) : WP 71 G S (f + 1) 5 ls st h k n = (WP 71 G S f 7 ls (.int (nI 8) :: st) h k n) := by rw [wp_s dd_71_5 rfl hs]; rfl
theorem dd_71_7 : decode (mB 71) 7 = .ok (.if_icmp .ge 15, 3) := by decide +kernel
theorem u_71_7 {G : aG} {S : Nat → Bool} {f : Nat} {st : List Value} {ls : aL} {h : aH} {k n : Nat} {x y : Int32} (hs : S 7 = false) : WP 71 G S (f + 1) 7 ls (.int y :: .int x :: st) h k n = (if y ≤ x then WP 71 G S f 22 ls st h k n else WP 71 G S f 10 ls st h k n) := by rw [wp_s dd_71_7 rfl hs]; exact br_ite (c := y ≤ x)
theorem dd_71_10 : decode (mB 71) 10 = .ok (.aload_n 0, 1) := by decide +kernel
theorem u_71_10 {G : aG} {S : Nat → Bool} {f : Nat} {st : List Value} {ls : aL} {h : aH} {k n : Nat} (hs : S 10 = false) : WP 71 G S (f + 1) 10 ls st h k n = (oA (lget ls 0) (WP 71 G S f) 11 ls st h k n) := by rw [wp_s dd_71_10 rfl hs]; rfl
theorem dd_71_11 : decode (mB 71) 11 = .ok (.iload_n 1, 1) := by decide +kernel
theorem u_71_11 {G : aG} {S : Nat → Bool} {f : Nat} {st : List Value} {ls : aL} {h : aH} {k n : Nat} (hs : S 11 = false) : WP 71 G S (f + 1) 11 ls st h k n = (oI (lget ls 1) (WP 71 G S f) 12 ls st h k n) := by rw [wp_s dd_71_11 rfl hs]; rfl
theorem dd_71_12 : decode (mB 71) 12 = .ok (.invokevirtual 103, 3) := by decide +kernel
theorem u_71_12 {G : aG} {S : Nat → Bool} {f : Nat} {st : List Value} {ls : aL} {h : aH} {k n : Nat} {v1 : Value} {b : Nat} (hs : S 12 = false) : WP 71 G S (f + 1) 12 ls (v1 :: .ref b :: st) h k n = (rcv (hget h b) 2 ∧ CAL G (WP 71 G S f) 62 [.ref b, v1] 15 ls st h k n) := by rw [wp_s dd_71_12 rfl hs]; rfl
theorem dd_71_15 : decode (mB 71) 15 = .ok (.iconst 1, 1) := by decide +kernel
theorem u_71_15 {G : aG} {S : Nat → Bool} {f : Nat} {st : List Value} {ls : aL} {h : aH} {k n : Nat} (hs : S 15 = false) : WP 71 G S (f + 1) 15 ls st h k n = (WP 71 G S f 16 ls (.int (nI 1) :: st) h k n) := by rw [wp_s dd_71_15 rfl hs]; rfl
theorem dd_71_16 : decode (mB 71) 16 = .ok (.iload_n 2, 1) := by decide +kernel
theorem u_71_16 {G : aG} {S : Nat → Bool} {f : Nat} {st : List Value} {ls : aL} {h : aH} {k n : Nat} (hs : S 16 = false) : WP 71 G S (f + 1) 16 ls st h k n = (oI (lget ls 2) (WP 71 G S f) 17 ls st h k n) := by rw [wp_s dd_71_16 rfl hs]; rfl
theorem dd_71_17 : decode (mB 71) 17 = .ok (.ishl, 1) := by decide +kernel
theorem u_71_17 {G : aG} {S : Nat → Bool} {f : Nat} {st : List Value} {ls : aL} {h : aH} {k n : Nat} {x y : Int32} (hs : S 17 = false) : WP 71 G S (f + 1) 17 ls (.int y :: .int x :: st) h k n = (WP 71 G S f 18 ls (.int (x <<< (y &&& 31)) :: st) h k n) := by rw [wp_s dd_71_17 rfl hs]; rfl
theorem dd_71_18 : decode (mB 71) 18 = .ok (.iand, 1) := by decide +kernel
theorem u_71_18 {G : aG} {S : Nat → Bool} {f : Nat} {st : List Value} {ls : aL} {h : aH} {k n : Nat} {x y : Int32} (hs : S 18 = false) : WP 71 G S (f + 1) 18 ls (.int y :: .int x :: st) h k n = (WP 71 G S f 19 ls (.int (x &&& y) :: st) h k n) := by rw [wp_s dd_71_18 rfl hs]; rfl
theorem dd_71_19 : decode (mB 71) 19 = .ok (.ifCond .ne 5, 3) := by decide +kernel
theorem u_71_19 {G : aG} {S : Nat → Bool} {f : Nat} {st : List Value} {ls : aL} {h : aH} {k n : Nat} {x : Int32} (hs : S 19 = false) : WP 71 G S (f + 1) 19 ls (.int x :: st) h k n = (if x = nI 0 then WP 71 G S f 22 ls st h k n else WP 71 G S f 24 ls st h k n) := by rw [wp_s dd_71_19 rfl hs]; exact br_iten (c := x = nI 0)
theorem dd_71_22 : decode (mB 71) 22 = .ok (.iconst (-1), 1) := by decide +kernel
theorem u_71_22 {G : aG} {S : Nat → Bool} {f : Nat} {st : List Value} {ls : aL} {h : aH} {k n : Nat} (hs : S 22 = false) : WP 71 G S (f + 1) 22 ls st h k n = (WP 71 G S f 23 ls (.int (-1) :: st) h k n) := by rw [wp_s dd_71_22 rfl hs]; rfl
theorem dd_71_23 : decode (mB 71) 23 = .ok (.ireturn, 1) := by decide +kernel
theorem u_71_23 {G : aG} {S : Nat → Bool} {f : Nat} {ls : aL} {h : aH} {k n : Nat} {x : Int32} (hs : S 23 = false) : WP 71 G S (f + 1) 23 ls [.int x] h k n = (RET G (some (.int x)) h k n) := by rw [wp_s dd_71_23 rfl hs]; rfl
theorem dd_71_24 : decode (mB 71) 24 = .ok (.aload_n 0, 1) := by decide +kernel
theorem u_71_24 {G : aG} {S : Nat → Bool} {f : Nat} {st : List Value} {ls : aL} {h : aH} {k n : Nat} (hs : S 24 = false) : WP 71 G S (f + 1) 24 ls st h k n = (oA (lget ls 0) (WP 71 G S f) 25 ls st h k n) := by rw [wp_s dd_71_24 rfl hs]; rfl
theorem dd_71_25 : decode (mB 71) 25 = .ok (.getfield 22, 3) := by decide +kernel
theorem u_71_25 {G : aG} {S : Nat → Bool} {f : Nat} {st : List Value} {ls : aL} {h : aH} {k n : Nat} {a : Nat} (hs : S 25 = false) : WP 71 G S (f + 1) 25 ls (.ref a :: st) h k n = (oV (fget h a 2 5) (WP 71 G S f) 28 ls st h k n) := by rw [wp_s dd_71_25 rfl hs]; rfl
theorem dd_71_28 : decode (mB 71) 28 = .ok (.iload_n 1, 1) := by decide +kernel
theorem u_71_28 {G : aG} {S : Nat → Bool} {f : Nat} {st : List Value} {ls : aL} {h : aH} {k n : Nat} (hs : S 28 = false) : WP 71 G S (f + 1) 28 ls st h k n = (oI (lget ls 1) (WP 71 G S f) 29 ls st h k n) := by rw [wp_s dd_71_28 rfl hs]; rfl
theorem dd_71_29 : decode (mB 71) 29 = .ok (.bipush 8, 2) := by decide +kernel
theorem u_71_29 {G : aG} {S : Nat → Bool} {f : Nat} {st : List Value} {ls : aL} {h : aH} {k n : Nat} (hs : S 29 = false) : WP 71 G S (f + 1) 29 ls st h k n = (WP 71 G S f 31 ls (.int (nI 8) :: st) h k n) := by rw [wp_s dd_71_29 rfl hs]; rfl
theorem dd_71_31 : decode (mB 71) 31 = .ok (.imul, 1) := by decide +kernel
theorem u_71_31 {G : aG} {S : Nat → Bool} {f : Nat} {st : List Value} {ls : aL} {h : aH} {k n : Nat} {x y : Int32} (hs : S 31 = false) : WP 71 G S (f + 1) 31 ls (.int y :: .int x :: st) h k n = (WP 71 G S f 32 ls (.int (x * y) :: st) h k n) := by rw [wp_s dd_71_31 rfl hs]; rfl
theorem dd_71_32 : decode (mB 71) 32 = .ok (.iload_n 2, 1) := by decide +kernel
theorem u_71_32 {G : aG} {S : Nat → Bool} {f : Nat} {st : List Value} {ls : aL} {h : aH} {k n : Nat} (hs : S 32 = false) : WP 71 G S (f + 1) 32 ls st h k n = (oI (lget ls 2) (WP 71 G S f) 33 ls st h k n) := by rw [wp_s dd_71_32 rfl hs]; rfl
theorem dd_71_33 : decode (mB 71) 33 = .ok (.iadd, 1) := by decide +kernel
theorem u_71_33 {G : aG} {S : Nat → Bool} {f : Nat} {st : List Value} {ls : aL} {h : aH} {k n : Nat} {x y : Int32} (hs : S 33 = false) : WP 71 G S (f + 1) 33 ls (.int y :: .int x :: st) h k n = (WP 71 G S f 34 ls (.int (x + y) :: st) h k n) := by rw [wp_s dd_71_33 rfl hs]; rfl
theorem dd_71_34 : decode (mB 71) 34 = .ok (.iaload, 1) := by decide +kernel
theorem u_71_34 {G : aG} {S : Nat → Bool} {f : Nat} {st : List Value} {ls : aL} {h : aH} {k n : Nat} {i : Int32} {a : Nat} (hs : S 34 = false) : WP 71 G S (f + 1) 34 ls (.int i :: .ref a :: st) h k n = (oIld (iget h a 1) i (WP 71 G S f) 35 ls st h k n) := by rw [wp_s dd_71_34 rfl hs]; rfl
theorem dd_71_35 : decode (mB 71) 35 = .ok (.istore_n 3, 1) := by decide +kernel
theorem u_71_35 {G : aG} {S : Nat → Bool} {f : Nat} {st : List Value} {ls : aL} {h : aH} {k n : Nat} {x : Int32} (hs : S 35 = false) : WP 71 G S (f + 1) 35 ls (.int x :: st) h k n = (WP 71 G S f 36 (lput1 ls 3 (.int x)) st h k n) := by rw [wp_s dd_71_35 rfl hs]; rfl
theorem dd_71_36 : decode (mB 71) 36 = .ok (.iload_n 3, 1) := by decide +kernel
theorem u_71_36 {G : aG} {S : Nat → Bool} {f : Nat} {st : List Value} {ls : aL} {h : aH} {k n : Nat} (hs : S 36 = false) : WP 71 G S (f + 1) 36 ls st h k n = (oI (lget ls 3) (WP 71 G S f) 37 ls st h k n) := by rw [wp_s dd_71_36 rfl hs]; rfl
theorem dd_71_37 : decode (mB 71) 37 = .ok (.bipush (-2), 2) := by decide +kernel
theorem u_71_37 {G : aG} {S : Nat → Bool} {f : Nat} {st : List Value} {ls : aL} {h : aH} {k n : Nat} (hs : S 37 = false) : WP 71 G S (f + 1) 37 ls st h k n = (WP 71 G S f 39 ls (.int (-2) :: st) h k n) := by rw [wp_s dd_71_37 rfl hs]; rfl
theorem dd_71_39 : decode (mB 71) 39 = .ok (.if_icmp .ne 26, 3) := by decide +kernel
theorem u_71_39 {G : aG} {S : Nat → Bool} {f : Nat} {st : List Value} {ls : aL} {h : aH} {k n : Nat} {x y : Int32} (hs : S 39 = false) : WP 71 G S (f + 1) 39 ls (.int y :: .int x :: st) h k n = (if x = y then WP 71 G S f 42 ls st h k n else WP 71 G S f 65 ls st h k n) := by rw [wp_s dd_71_39 rfl hs]; exact br_iten (c := x = y)
theorem dd_71_42 : decode (mB 71) 42 = .ok (.aload_n 0, 1) := by decide +kernel
theorem u_71_42 {G : aG} {S : Nat → Bool} {f : Nat} {st : List Value} {ls : aL} {h : aH} {k n : Nat} (hs : S 42 = false) : WP 71 G S (f + 1) 42 ls st h k n = (oA (lget ls 0) (WP 71 G S f) 43 ls st h k n) := by rw [wp_s dd_71_42 rfl hs]; rfl
theorem dd_71_43 : decode (mB 71) 43 = .ok (.iload_n 1, 1) := by decide +kernel
theorem u_71_43 {G : aG} {S : Nat → Bool} {f : Nat} {st : List Value} {ls : aL} {h : aH} {k n : Nat} (hs : S 43 = false) : WP 71 G S (f + 1) 43 ls st h k n = (oI (lget ls 1) (WP 71 G S f) 44 ls st h k n) := by rw [wp_s dd_71_43 rfl hs]; rfl
theorem dd_71_44 : decode (mB 71) 44 = .ok (.iload_n 2, 1) := by decide +kernel
theorem u_71_44 {G : aG} {S : Nat → Bool} {f : Nat} {st : List Value} {ls : aL} {h : aH} {k n : Nat} (hs : S 44 = false) : WP 71 G S (f + 1) 44 ls st h k n = (oI (lget ls 2) (WP 71 G S f) 45 ls st h k n) := by rw [wp_s dd_71_44 rfl hs]; rfl
theorem dd_71_45 : decode (mB 71) 45 = .ok (.invokevirtual 106, 3) := by decide +kernel
theorem u_71_45 {G : aG} {S : Nat → Bool} {f : Nat} {st : List Value} {ls : aL} {h : aH} {k n : Nat} {v1 v2 : Value} {b : Nat} (hs : S 45 = false) : WP 71 G S (f + 1) 45 ls (v2 :: v1 :: .ref b :: st) h k n = (rcv (hget h b) 2 ∧ CAL G (WP 71 G S f) 72 [.ref b, v1, v2] 48 ls st h k n) := by rw [wp_s dd_71_45 rfl hs]; rfl
theorem dd_71_48 : decode (mB 71) 48 = .ok (.aload_n 0, 1) := by decide +kernel
theorem u_71_48 {G : aG} {S : Nat → Bool} {f : Nat} {st : List Value} {ls : aL} {h : aH} {k n : Nat} (hs : S 48 = false) : WP 71 G S (f + 1) 48 ls st h k n = (oA (lget ls 0) (WP 71 G S f) 49 ls st h k n) := by rw [wp_s dd_71_48 rfl hs]; rfl
theorem dd_71_49 : decode (mB 71) 49 = .ok (.invokevirtual 90, 3) := by decide +kernel
theorem u_71_49 {G : aG} {S : Nat → Bool} {f : Nat} {st : List Value} {ls : aL} {h : aH} {k n : Nat} {b : Nat} (hs : S 49 = false) : WP 71 G S (f + 1) 49 ls (.ref b :: st) h k n = (rcv (hget h b) 2 ∧ CAL G (WP 71 G S f) 24 [.ref b] 52 ls st h k n) := by rw [wp_s dd_71_49 rfl hs]; rfl
theorem dd_71_52 : decode (mB 71) 52 = .ok (.istore_n 3, 1) := by decide +kernel
theorem u_71_52 {G : aG} {S : Nat → Bool} {f : Nat} {st : List Value} {ls : aL} {h : aH} {k n : Nat} {x : Int32} (hs : S 52 = false) : WP 71 G S (f + 1) 52 ls (.int x :: st) h k n = (WP 71 G S f 53 (lput1 ls 3 (.int x)) st h k n) := by rw [wp_s dd_71_52 rfl hs]; rfl
theorem dd_71_53 : decode (mB 71) 53 = .ok (.aload_n 0, 1) := by decide +kernel
theorem u_71_53 {G : aG} {S : Nat → Bool} {f : Nat} {st : List Value} {ls : aL} {h : aH} {k n : Nat} (hs : S 53 = false) : WP 71 G S (f + 1) 53 ls st h k n = (oA (lget ls 0) (WP 71 G S f) 54 ls st h k n) := by rw [wp_s dd_71_53 rfl hs]; rfl
theorem dd_71_54 : decode (mB 71) 54 = .ok (.getfield 22, 3) := by decide +kernel
theorem u_71_54 {G : aG} {S : Nat → Bool} {f : Nat} {st : List Value} {ls : aL} {h : aH} {k n : Nat} {a : Nat} (hs : S 54 = false) : WP 71 G S (f + 1) 54 ls (.ref a :: st) h k n = (oV (fget h a 2 5) (WP 71 G S f) 57 ls st h k n) := by rw [wp_s dd_71_54 rfl hs]; rfl
theorem dd_71_57 : decode (mB 71) 57 = .ok (.iload_n 1, 1) := by decide +kernel
theorem u_71_57 {G : aG} {S : Nat → Bool} {f : Nat} {st : List Value} {ls : aL} {h : aH} {k n : Nat} (hs : S 57 = false) : WP 71 G S (f + 1) 57 ls st h k n = (oI (lget ls 1) (WP 71 G S f) 58 ls st h k n) := by rw [wp_s dd_71_57 rfl hs]; rfl
theorem dd_71_58 : decode (mB 71) 58 = .ok (.bipush 8, 2) := by decide +kernel
theorem u_71_58 {G : aG} {S : Nat → Bool} {f : Nat} {st : List Value} {ls : aL} {h : aH} {k n : Nat} (hs : S 58 = false) : WP 71 G S (f + 1) 58 ls st h k n = (WP 71 G S f 60 ls (.int (nI 8) :: st) h k n) := by rw [wp_s dd_71_58 rfl hs]; rfl
theorem dd_71_60 : decode (mB 71) 60 = .ok (.imul, 1) := by decide +kernel
theorem u_71_60 {G : aG} {S : Nat → Bool} {f : Nat} {st : List Value} {ls : aL} {h : aH} {k n : Nat} {x y : Int32} (hs : S 60 = false) : WP 71 G S (f + 1) 60 ls (.int y :: .int x :: st) h k n = (WP 71 G S f 61 ls (.int (x * y) :: st) h k n) := by rw [wp_s dd_71_60 rfl hs]; rfl
theorem dd_71_61 : decode (mB 71) 61 = .ok (.iload_n 2, 1) := by decide +kernel
theorem u_71_61 {G : aG} {S : Nat → Bool} {f : Nat} {st : List Value} {ls : aL} {h : aH} {k n : Nat} (hs : S 61 = false) : WP 71 G S (f + 1) 61 ls st h k n = (oI (lget ls 2) (WP 71 G S f) 62 ls st h k n) := by rw [wp_s dd_71_61 rfl hs]; rfl
theorem dd_71_62 : decode (mB 71) 62 = .ok (.iadd, 1) := by decide +kernel
theorem u_71_62 {G : aG} {S : Nat → Bool} {f : Nat} {st : List Value} {ls : aL} {h : aH} {k n : Nat} {x y : Int32} (hs : S 62 = false) : WP 71 G S (f + 1) 62 ls (.int y :: .int x :: st) h k n = (WP 71 G S f 63 ls (.int (x + y) :: st) h k n) := by rw [wp_s dd_71_62 rfl hs]; rfl
theorem dd_71_63 : decode (mB 71) 63 = .ok (.iload_n 3, 1) := by decide +kernel
theorem u_71_63 {G : aG} {S : Nat → Bool} {f : Nat} {st : List Value} {ls : aL} {h : aH} {k n : Nat} (hs : S 63 = false) : WP 71 G S (f + 1) 63 ls st h k n = (oI (lget ls 3) (WP 71 G S f) 64 ls st h k n) := by rw [wp_s dd_71_63 rfl hs]; rfl
theorem dd_71_64 : decode (mB 71) 64 = .ok (.iastore, 1) := by decide +kernel
theorem u_71_64 {G : aG} {S : Nat → Bool} {f : Nat} {st : List Value} {ls : aL} {h : aH} {k n : Nat} {i x : Int32} {a : Nat} (hs : S 64 = false) : WP 71 G S (f + 1) 64 ls (.int x :: .int i :: .ref a :: st) h k n = (oIst (iget h a 1) a i x (WP 71 G S f) 65 ls st h k n) := by rw [wp_s dd_71_64 rfl hs]; rfl
theorem dd_71_65 : decode (mB 71) 65 = .ok (.iload_n 3, 1) := by decide +kernel
theorem u_71_65 {G : aG} {S : Nat → Bool} {f : Nat} {st : List Value} {ls : aL} {h : aH} {k n : Nat} (hs : S 65 = false) : WP 71 G S (f + 1) 65 ls st h k n = (oI (lget ls 3) (WP 71 G S f) 66 ls st h k n) := by rw [wp_s dd_71_65 rfl hs]; rfl
theorem dd_71_66 : decode (mB 71) 66 = .ok (.ireturn, 1) := by decide +kernel
theorem u_71_66 {G : aG} {S : Nat → Bool} {f : Nat} {ls : aL} {h : aH} {k n : Nat} {x : Int32} (hs : S 66 = false) : WP 71 G S (f + 1) 66 ls [.int x] h k n = (RET G (some (.int x)) h k n) := by rw [wp_s dd_71_66 rfl hs]; rfl
theorem dd_72_0 : decode (mB 72) 0 = .ok (.aload_n 0, 1) := by decide +kernel
theorem u_72_0 {G : aG} {S : Nat → Bool} {f : Nat} {st : List Value} {ls : aL} {h : aH} {k n : Nat} (hs : S 0 = false) : WP 72 G S (f + 1) 0 ls st h k n = (oA (lget ls 0) (WP 72 G S f) 1 ls st h k n) := by rw [wp_s dd_72_0 rfl hs]; rfl
theorem dd_72_1 : decode (mB 72) 1 = .ok (.getfield 35, 3) := by decide +kernel
theorem u_72_1 {G : aG} {S : Nat → Bool} {f : Nat} {st : List Value} {ls : aL} {h : aH} {k n : Nat} {a : Nat} (hs : S 1 = false) : WP 72 G S (f + 1) 1 ls (.ref a :: st) h k n = (oV (fget h a 2 9) (WP 72 G S f) 4 ls st h k n) := by rw [wp_s dd_72_1 rfl hs]; rfl
theorem dd_72_4 : decode (mB 72) 4 = .ok (.lconst 0, 1) := by decide +kernel
theorem u_72_4 {G : aG} {S : Nat → Bool} {f : Nat} {st : List Value} {ls : aL} {h : aH} {k n : Nat} (hs : S 4 = false) : WP 72 G S (f + 1) 4 ls st h k n = (WP 72 G S f 5 ls (.long (lN 0) :: st) h k n) := by rw [wp_s dd_72_4 rfl hs]; rfl
theorem dd_72_5 : decode (mB 72) 5 = .ok (.invokestatic 83, 3) := by decide +kernel
theorem u_72_5 {G : aG} {S : Nat → Bool} {f : Nat} {st : List Value} {ls : aL} {h : aH} {k n : Nat} {v1 v2 : Value} (hs : S 5 = false) : WP 72 G S (f + 1) 5 ls (v2 :: v1 :: st) h k n = (CAL G (WP 72 G S f) 3 [v1, v2] 8 ls st h k n) := by rw [wp_s dd_72_5 rfl hs]; rfl
theorem dd_72_8 : decode (mB 72) 8 = .ok (.aload_n 0, 1) := by decide +kernel
theorem u_72_8 {G : aG} {S : Nat → Bool} {f : Nat} {st : List Value} {ls : aL} {h : aH} {k n : Nat} (hs : S 8 = false) : WP 72 G S (f + 1) 8 ls st h k n = (oA (lget ls 0) (WP 72 G S f) 9 ls st h k n) := by rw [wp_s dd_72_8 rfl hs]; rfl
theorem dd_72_9 : decode (mB 72) 9 = .ok (.iconst 0, 1) := by decide +kernel
theorem u_72_9 {G : aG} {S : Nat → Bool} {f : Nat} {st : List Value} {ls : aL} {h : aH} {k n : Nat} (hs : S 9 = false) : WP 72 G S (f + 1) 9 ls st h k n = (WP 72 G S f 10 ls (.int (nI 0) :: st) h k n) := by rw [wp_s dd_72_9 rfl hs]; rfl
theorem dd_72_10 : decode (mB 72) 10 = .ok (.putfield 87, 3) := by decide +kernel
theorem u_72_10 {G : aG} {S : Nat → Bool} {f : Nat} {st : List Value} {ls : aL} {h : aH} {k n : Nat} {a : Nat} {x : Int32} (hs : S 10 = false) : WP 72 G S (f + 1) 10 ls (.int x :: .ref a :: st) h k n = (oH (fput h a 2 10 (.int x)) (WP 72 G S f) 13 ls st k n) := by rw [wp_s dd_72_10 rfl hs]; rfl
theorem dd_72_13 : decode (mB 72) 13 = .ok (.iconst 0, 1) := by decide +kernel
theorem u_72_13 {G : aG} {S : Nat → Bool} {f : Nat} {st : List Value} {ls : aL} {h : aH} {k n : Nat} (hs : S 13 = false) : WP 72 G S (f + 1) 13 ls st h k n = (WP 72 G S f 14 ls (.int (nI 0) :: st) h k n) := by rw [wp_s dd_72_13 rfl hs]; rfl
theorem dd_72_14 : decode (mB 72) 14 = .ok (.istore_n 3, 1) := by decide +kernel
theorem u_72_14 {G : aG} {S : Nat → Bool} {f : Nat} {st : List Value} {ls : aL} {h : aH} {k n : Nat} {x : Int32} (hs : S 14 = false) : WP 72 G S (f + 1) 14 ls (.int x :: st) h k n = (WP 72 G S f 15 (lput1 ls 3 (.int x)) st h k n) := by rw [wp_s dd_72_14 rfl hs]; rfl
theorem dd_72_15 : decode (mB 72) 15 = .ok (.iload_n 3, 1) := by decide +kernel
theorem u_72_15 {G : aG} {S : Nat → Bool} {f : Nat} {st : List Value} {ls : aL} {h : aH} {k n : Nat} (hs : S 15 = false) : WP 72 G S (f + 1) 15 ls st h k n = (oI (lget ls 3) (WP 72 G S f) 16 ls st h k n) := by rw [wp_s dd_72_15 rfl hs]; rfl
theorem v_72_15 {G : aG} {S : Nat → Bool} {f : Nat} {st : List Value} {ls : aL} {h : aH} {k n : Nat} : WQ 72 G S f 15 ls st h k n = (oI (lget ls 3) (WP 72 G S f) 16 ls st h k n) := by rw [wq_s dd_72_15 rfl]; rfl
theorem dd_72_16 : decode (mB 72) 16 = .ok (.aload_n 0, 1) := by decide +kernel
theorem u_72_16 {G : aG} {S : Nat → Bool} {f : Nat} {st : List Value} {ls : aL} {h : aH} {k n : Nat} (hs : S 16 = false) : WP 72 G S (f + 1) 16 ls st h k n = (oA (lget ls 0) (WP 72 G S f) 17 ls st h k n) := by rw [wp_s dd_72_16 rfl hs]; rfl
theorem dd_72_17 : decode (mB 72) 17 = .ok (.getfield 68, 3) := by decide +kernel
theorem u_72_17 {G : aG} {S : Nat → Bool} {f : Nat} {st : List Value} {ls : aL} {h : aH} {k n : Nat} {a : Nat} (hs : S 17 = false) : WP 72 G S (f + 1) 17 ls (.ref a :: st) h k n = (oV (fget h a 2 2) (WP 72 G S f) 20 ls st h k n) := by rw [wp_s dd_72_17 rfl hs]; rfl
theorem dd_72_20 : decode (mB 72) 20 = .ok (.if_icmp .ge 92, 3) := by decide +kernel
theorem u_72_20 {G : aG} {S : Nat → Bool} {f : Nat} {st : List Value} {ls : aL} {h : aH} {k n : Nat} {x y : Int32} (hs : S 20 = false) : WP 72 G S (f + 1) 20 ls (.int y :: .int x :: st) h k n = (if y ≤ x then WP 72 G S f 112 ls st h k n else WP 72 G S f 23 ls st h k n) := by rw [wp_s dd_72_20 rfl hs]; exact br_ite (c := y ≤ x)
theorem dd_72_23 : decode (mB 72) 23 = .ok (.aload_n 0, 1) := by decide +kernel
theorem u_72_23 {G : aG} {S : Nat → Bool} {f : Nat} {st : List Value} {ls : aL} {h : aH} {k n : Nat} (hs : S 23 = false) : WP 72 G S (f + 1) 23 ls st h k n = (oA (lget ls 0) (WP 72 G S f) 24 ls st h k n) := by rw [wp_s dd_72_23 rfl hs]; rfl
theorem dd_72_24 : decode (mB 72) 24 = .ok (.getfield 18, 3) := by decide +kernel
theorem u_72_24 {G : aG} {S : Nat → Bool} {f : Nat} {st : List Value} {ls : aL} {h : aH} {k n : Nat} {a : Nat} (hs : S 24 = false) : WP 72 G S (f + 1) 24 ls (.ref a :: st) h k n = (oV (fget h a 2 4) (WP 72 G S f) 27 ls st h k n) := by rw [wp_s dd_72_24 rfl hs]; rfl
theorem dd_72_27 : decode (mB 72) 27 = .ok (.iload_n 1, 1) := by decide +kernel
theorem u_72_27 {G : aG} {S : Nat → Bool} {f : Nat} {st : List Value} {ls : aL} {h : aH} {k n : Nat} (hs : S 27 = false) : WP 72 G S (f + 1) 27 ls st h k n = (oI (lget ls 1) (WP 72 G S f) 28 ls st h k n) := by rw [wp_s dd_72_27 rfl hs]; rfl
theorem dd_72_28 : decode (mB 72) 28 = .ok (.aload_n 0, 1) := by decide +kernel
theorem u_72_28 {G : aG} {S : Nat → Bool} {f : Nat} {st : List Value} {ls : aL} {h : aH} {k n : Nat} (hs : S 28 = false) : WP 72 G S (f + 1) 28 ls st h k n = (oA (lget ls 0) (WP 72 G S f) 29 ls st h k n) := by rw [wp_s dd_72_28 rfl hs]; rfl
theorem dd_72_29 : decode (mB 72) 29 = .ok (.getfield 68, 3) := by decide +kernel
theorem u_72_29 {G : aG} {S : Nat → Bool} {f : Nat} {st : List Value} {ls : aL} {h : aH} {k n : Nat} {a : Nat} (hs : S 29 = false) : WP 72 G S (f + 1) 29 ls (.ref a :: st) h k n = (oV (fget h a 2 2) (WP 72 G S f) 32 ls st h k n) := by rw [wp_s dd_72_29 rfl hs]; rfl
theorem dd_72_32 : decode (mB 72) 32 = .ok (.imul, 1) := by decide +kernel
theorem u_72_32 {G : aG} {S : Nat → Bool} {f : Nat} {st : List Value} {ls : aL} {h : aH} {k n : Nat} {x y : Int32} (hs : S 32 = false) : WP 72 G S (f + 1) 32 ls (.int y :: .int x :: st) h k n = (WP 72 G S f 33 ls (.int (x * y) :: st) h k n) := by rw [wp_s dd_72_32 rfl hs]; rfl
theorem dd_72_33 : decode (mB 72) 33 = .ok (.iload_n 3, 1) := by decide +kernel
theorem u_72_33 {G : aG} {S : Nat → Bool} {f : Nat} {st : List Value} {ls : aL} {h : aH} {k n : Nat} (hs : S 33 = false) : WP 72 G S (f + 1) 33 ls st h k n = (oI (lget ls 3) (WP 72 G S f) 34 ls st h k n) := by rw [wp_s dd_72_33 rfl hs]; rfl
theorem dd_72_34 : decode (mB 72) 34 = .ok (.iadd, 1) := by decide +kernel
theorem u_72_34 {G : aG} {S : Nat → Bool} {f : Nat} {st : List Value} {ls : aL} {h : aH} {k n : Nat} {x y : Int32} (hs : S 34 = false) : WP 72 G S (f + 1) 34 ls (.int y :: .int x :: st) h k n = (WP 72 G S f 35 ls (.int (x + y) :: st) h k n) := by rw [wp_s dd_72_34 rfl hs]; rfl
theorem dd_72_35 : decode (mB 72) 35 = .ok (.laload, 1) := by decide +kernel
theorem u_72_35 {G : aG} {S : Nat → Bool} {f : Nat} {st : List Value} {ls : aL} {h : aH} {k n : Nat} {i : Int32} {a : Nat} (hs : S 35 = false) : WP 72 G S (f + 1) 35 ls (.int i :: .ref a :: st) h k n = (oJld (jget h a) i (WP 72 G S f) 36 ls st h k n) := by rw [wp_s dd_72_35 rfl hs]; rfl
theorem dd_72_36 : decode (mB 72) 36 = .ok (.lstore 4, 2) := by decide +kernel
theorem u_72_36 {G : aG} {S : Nat → Bool} {f : Nat} {st : List Value} {ls : aL} {h : aH} {k n : Nat} {x : Int64} (hs : S 36 = false) : WP 72 G S (f + 1) 36 ls (.long x :: st) h k n = (WP 72 G S f 38 (lput2 ls 4 (.long x)) st h k n) := by rw [wp_s dd_72_36 rfl hs]; rfl
theorem dd_72_38 : decode (mB 72) 38 = .ok (.lload 4, 2) := by decide +kernel
theorem u_72_38 {G : aG} {S : Nat → Bool} {f : Nat} {st : List Value} {ls : aL} {h : aH} {k n : Nat} (hs : S 38 = false) : WP 72 G S (f + 1) 38 ls st h k n = (oJ (lget ls 4) (WP 72 G S f) 40 ls st h k n) := by rw [wp_s dd_72_38 rfl hs]; rfl
theorem dd_72_40 : decode (mB 72) 40 = .ok (.invokestatic 110, 3) := by decide +kernel
theorem u_72_40 {G : aG} {S : Nat → Bool} {f : Nat} {st : List Value} {ls : aL} {h : aH} {k n : Nat} {v1 : Value} (hs : S 40 = false) : WP 72 G S (f + 1) 40 ls (v1 :: st) h k n = (CAL G (WP 72 G S f) 73 [v1] 43 ls st h k n) := by rw [wp_s dd_72_40 rfl hs]; rfl
theorem dd_72_43 : decode (mB 72) 43 = .ok (.istore 6, 2) := by decide +kernel
theorem u_72_43 {G : aG} {S : Nat → Bool} {f : Nat} {st : List Value} {ls : aL} {h : aH} {k n : Nat} {x : Int32} (hs : S 43 = false) : WP 72 G S (f + 1) 43 ls (.int x :: st) h k n = (WP 72 G S f 45 (lput1 ls 6 (.int x)) st h k n) := by rw [wp_s dd_72_43 rfl hs]; rfl
theorem dd_72_45 : decode (mB 72) 45 = .ok (.iload 6, 2) := by decide +kernel
theorem u_72_45 {G : aG} {S : Nat → Bool} {f : Nat} {st : List Value} {ls : aL} {h : aH} {k n : Nat} (hs : S 45 = false) : WP 72 G S (f + 1) 45 ls st h k n = (oI (lget ls 6) (WP 72 G S f) 47 ls st h k n) := by rw [wp_s dd_72_45 rfl hs]; rfl
theorem v_72_45 {G : aG} {S : Nat → Bool} {f : Nat} {st : List Value} {ls : aL} {h : aH} {k n : Nat} : WQ 72 G S f 45 ls st h k n = (oI (lget ls 6) (WP 72 G S f) 47 ls st h k n) := by rw [wq_s dd_72_45 rfl]; rfl
theorem dd_72_47 : decode (mB 72) 47 = .ok (.ifCond .le 59, 3) := by decide +kernel
theorem u_72_47 {G : aG} {S : Nat → Bool} {f : Nat} {st : List Value} {ls : aL} {h : aH} {k n : Nat} {x : Int32} (hs : S 47 = false) : WP 72 G S (f + 1) 47 ls (.int x :: st) h k n = (if x ≤ nI 0 then WP 72 G S f 106 ls st h k n else WP 72 G S f 50 ls st h k n) := by rw [wp_s dd_72_47 rfl hs]; exact br_ite (c := x ≤ nI 0)
theorem dd_72_50 : decode (mB 72) 50 = .ok (.lload 4, 2) := by decide +kernel
theorem u_72_50 {G : aG} {S : Nat → Bool} {f : Nat} {st : List Value} {ls : aL} {h : aH} {k n : Nat} (hs : S 50 = false) : WP 72 G S (f + 1) 50 ls st h k n = (oJ (lget ls 4) (WP 72 G S f) 52 ls st h k n) := by rw [wp_s dd_72_50 rfl hs]; rfl
theorem dd_72_52 : decode (mB 72) 52 = .ok (.lload 4, 2) := by decide +kernel
theorem u_72_52 {G : aG} {S : Nat → Bool} {f : Nat} {st : List Value} {ls : aL} {h : aH} {k n : Nat} (hs : S 52 = false) : WP 72 G S (f + 1) 52 ls st h k n = (oJ (lget ls 4) (WP 72 G S f) 54 ls st h k n) := by rw [wp_s dd_72_52 rfl hs]; rfl
theorem dd_72_54 : decode (mB 72) 54 = .ok (.lneg, 1) := by decide +kernel
theorem u_72_54 {G : aG} {S : Nat → Bool} {f : Nat} {st : List Value} {ls : aL} {h : aH} {k n : Nat} {x : Int64} (hs : S 54 = false) : WP 72 G S (f + 1) 54 ls (.long x :: st) h k n = (WP 72 G S f 55 ls (.long (-x) :: st) h k n) := by rw [wp_s dd_72_54 rfl hs]; rfl
theorem dd_72_55 : decode (mB 72) 55 = .ok (.land, 1) := by decide +kernel
theorem u_72_55 {G : aG} {S : Nat → Bool} {f : Nat} {st : List Value} {ls : aL} {h : aH} {k n : Nat} {x y : Int64} (hs : S 55 = false) : WP 72 G S (f + 1) 55 ls (.long y :: .long x :: st) h k n = (WP 72 G S f 56 ls (.long (x &&& y) :: st) h k n) := by rw [wp_s dd_72_55 rfl hs]; rfl
theorem dd_72_56 : decode (mB 72) 56 = .ok (.lconst 1, 1) := by decide +kernel
theorem u_72_56 {G : aG} {S : Nat → Bool} {f : Nat} {st : List Value} {ls : aL} {h : aH} {k n : Nat} (hs : S 56 = false) : WP 72 G S (f + 1) 56 ls st h k n = (WP 72 G S f 57 ls (.long (lN 1) :: st) h k n) := by rw [wp_s dd_72_56 rfl hs]; rfl
theorem dd_72_57 : decode (mB 72) 57 = .ok (.lsub, 1) := by decide +kernel
theorem u_72_57 {G : aG} {S : Nat → Bool} {f : Nat} {st : List Value} {ls : aL} {h : aH} {k n : Nat} {x y : Int64} (hs : S 57 = false) : WP 72 G S (f + 1) 57 ls (.long y :: .long x :: st) h k n = (WP 72 G S f 58 ls (.long (x - y) :: st) h k n) := by rw [wp_s dd_72_57 rfl hs]; rfl
theorem dd_72_58 : decode (mB 72) 58 = .ok (.invokestatic 110, 3) := by decide +kernel
theorem u_72_58 {G : aG} {S : Nat → Bool} {f : Nat} {st : List Value} {ls : aL} {h : aH} {k n : Nat} {v1 : Value} (hs : S 58 = false) : WP 72 G S (f + 1) 58 ls (v1 :: st) h k n = (CAL G (WP 72 G S f) 73 [v1] 61 ls st h k n) := by rw [wp_s dd_72_58 rfl hs]; rfl
theorem dd_72_61 : decode (mB 72) 61 = .ok (.istore 7, 2) := by decide +kernel
theorem u_72_61 {G : aG} {S : Nat → Bool} {f : Nat} {st : List Value} {ls : aL} {h : aH} {k n : Nat} {x : Int32} (hs : S 61 = false) : WP 72 G S (f + 1) 61 ls (.int x :: st) h k n = (WP 72 G S f 63 (lput1 ls 7 (.int x)) st h k n) := by rw [wp_s dd_72_61 rfl hs]; rfl
theorem dd_72_63 : decode (mB 72) 63 = .ok (.aload_n 0, 1) := by decide +kernel
theorem u_72_63 {G : aG} {S : Nat → Bool} {f : Nat} {st : List Value} {ls : aL} {h : aH} {k n : Nat} (hs : S 63 = false) : WP 72 G S (f + 1) 63 ls st h k n = (oA (lget ls 0) (WP 72 G S f) 64 ls st h k n) := by rw [wp_s dd_72_63 rfl hs]; rfl
theorem dd_72_64 : decode (mB 72) 64 = .ok (.dup, 1) := by decide +kernel
theorem u_72_64 {G : aG} {S : Nat → Bool} {f : Nat} {st : List Value} {ls : aL} {h : aH} {k n : Nat} {v : Value} (hs : S 64 = false) : WP 72 G S (f + 1) 64 ls (v :: st) h k n = (cond (cat1 v) (WP 72 G S f 65 ls (v :: v :: st) h k n) False) := by rw [wp_s dd_72_64 rfl hs]; rfl
theorem dd_72_65 : decode (mB 72) 65 = .ok (.getfield 87, 3) := by decide +kernel
theorem u_72_65 {G : aG} {S : Nat → Bool} {f : Nat} {st : List Value} {ls : aL} {h : aH} {k n : Nat} {a : Nat} (hs : S 65 = false) : WP 72 G S (f + 1) 65 ls (.ref a :: st) h k n = (oV (fget h a 2 10) (WP 72 G S f) 68 ls st h k n) := by rw [wp_s dd_72_65 rfl hs]; rfl
theorem dd_72_68 : decode (mB 72) 68 = .ok (.aload_n 0, 1) := by decide +kernel
theorem u_72_68 {G : aG} {S : Nat → Bool} {f : Nat} {st : List Value} {ls : aL} {h : aH} {k n : Nat} (hs : S 68 = false) : WP 72 G S (f + 1) 68 ls st h k n = (oA (lget ls 0) (WP 72 G S f) 69 ls st h k n) := by rw [wp_s dd_72_68 rfl hs]; rfl
theorem dd_72_69 : decode (mB 72) 69 = .ok (.getfield 12, 3) := by decide +kernel
theorem u_72_69 {G : aG} {S : Nat → Bool} {f : Nat} {st : List Value} {ls : aL} {h : aH} {k n : Nat} {a : Nat} (hs : S 69 = false) : WP 72 G S (f + 1) 69 ls (.ref a :: st) h k n = (oV (fget h a 2 0) (WP 72 G S f) 72 ls st h k n) := by rw [wp_s dd_72_69 rfl hs]; rfl
theorem dd_72_72 : decode (mB 72) 72 = .ok (.iload_n 3, 1) := by decide +kernel
theorem u_72_72 {G : aG} {S : Nat → Bool} {f : Nat} {st : List Value} {ls : aL} {h : aH} {k n : Nat} (hs : S 72 = false) : WP 72 G S (f + 1) 72 ls st h k n = (oI (lget ls 3) (WP 72 G S f) 73 ls st h k n) := by rw [wp_s dd_72_72 rfl hs]; rfl
theorem dd_72_73 : decode (mB 72) 73 = .ok (.bipush 64, 2) := by decide +kernel
theorem u_72_73 {G : aG} {S : Nat → Bool} {f : Nat} {st : List Value} {ls : aL} {h : aH} {k n : Nat} (hs : S 73 = false) : WP 72 G S (f + 1) 73 ls st h k n = (WP 72 G S f 75 ls (.int (nI 64) :: st) h k n) := by rw [wp_s dd_72_73 rfl hs]; rfl
theorem dd_72_75 : decode (mB 72) 75 = .ok (.imul, 1) := by decide +kernel
theorem u_72_75 {G : aG} {S : Nat → Bool} {f : Nat} {st : List Value} {ls : aL} {h : aH} {k n : Nat} {x y : Int32} (hs : S 75 = false) : WP 72 G S (f + 1) 75 ls (.int y :: .int x :: st) h k n = (WP 72 G S f 76 ls (.int (x * y) :: st) h k n) := by rw [wp_s dd_72_75 rfl hs]; rfl
theorem dd_72_76 : decode (mB 72) 76 = .ok (.iload 7, 2) := by decide +kernel
theorem u_72_76 {G : aG} {S : Nat → Bool} {f : Nat} {st : List Value} {ls : aL} {h : aH} {k n : Nat} (hs : S 76 = false) : WP 72 G S (f + 1) 76 ls st h k n = (oI (lget ls 7) (WP 72 G S f) 78 ls st h k n) := by rw [wp_s dd_72_76 rfl hs]; rfl
theorem dd_72_78 : decode (mB 72) 78 = .ok (.iadd, 1) := by decide +kernel
theorem u_72_78 {G : aG} {S : Nat → Bool} {f : Nat} {st : List Value} {ls : aL} {h : aH} {k n : Nat} {x y : Int32} (hs : S 78 = false) : WP 72 G S (f + 1) 78 ls (.int y :: .int x :: st) h k n = (WP 72 G S f 79 ls (.int (x + y) :: st) h k n) := by rw [wp_s dd_72_78 rfl hs]; rfl
theorem dd_72_79 : decode (mB 72) 79 = .ok (.iload_n 2, 1) := by decide +kernel
theorem u_72_79 {G : aG} {S : Nat → Bool} {f : Nat} {st : List Value} {ls : aL} {h : aH} {k n : Nat} (hs : S 79 = false) : WP 72 G S (f + 1) 79 ls st h k n = (oI (lget ls 2) (WP 72 G S f) 80 ls st h k n) := by rw [wp_s dd_72_79 rfl hs]; rfl
theorem dd_72_80 : decode (mB 72) 80 = .ok (.aload_n 0, 1) := by decide +kernel
theorem u_72_80 {G : aG} {S : Nat → Bool} {f : Nat} {st : List Value} {ls : aL} {h : aH} {k n : Nat} (hs : S 80 = false) : WP 72 G S (f + 1) 80 ls st h k n = (oA (lget ls 0) (WP 72 G S f) 81 ls st h k n) := by rw [wp_s dd_72_80 rfl hs]; rfl
theorem dd_72_81 : decode (mB 72) 81 = .ok (.getfield 35, 3) := by decide +kernel
theorem u_72_81 {G : aG} {S : Nat → Bool} {f : Nat} {st : List Value} {ls : aL} {h : aH} {k n : Nat} {a : Nat} (hs : S 81 = false) : WP 72 G S (f + 1) 81 ls (.ref a :: st) h k n = (oV (fget h a 2 9) (WP 72 G S f) 84 ls st h k n) := by rw [wp_s dd_72_81 rfl hs]; rfl
theorem dd_72_84 : decode (mB 72) 84 = .ok (.invokevirtual 115, 3) := by decide +kernel
theorem u_72_84 {G : aG} {S : Nat → Bool} {f : Nat} {st : List Value} {ls : aL} {h : aH} {k n : Nat} {v1 v2 v3 : Value} {b : Nat} (hs : S 84 = false) : WP 72 G S (f + 1) 84 ls (v3 :: v2 :: v1 :: .ref b :: st) h k n = (rcv (hget h b) 5 ∧ CAL G (WP 72 G S f) 74 [.ref b, v1, v2, v3] 87 ls st h k n) := by rw [wp_s dd_72_84 rfl hs]; rfl
theorem dd_72_87 : decode (mB 72) 87 = .ok (.ior, 1) := by decide +kernel
theorem u_72_87 {G : aG} {S : Nat → Bool} {f : Nat} {st : List Value} {ls : aL} {h : aH} {k n : Nat} {x y : Int32} (hs : S 87 = false) : WP 72 G S (f + 1) 87 ls (.int y :: .int x :: st) h k n = (WP 72 G S f 88 ls (.int (x ||| y) :: st) h k n) := by rw [wp_s dd_72_87 rfl hs]; rfl
theorem dd_72_88 : decode (mB 72) 88 = .ok (.putfield 87, 3) := by decide +kernel
theorem u_72_88 {G : aG} {S : Nat → Bool} {f : Nat} {st : List Value} {ls : aL} {h : aH} {k n : Nat} {a : Nat} {x : Int32} (hs : S 88 = false) : WP 72 G S (f + 1) 88 ls (.int x :: .ref a :: st) h k n = (oH (fput h a 2 10 (.int x)) (WP 72 G S f) 91 ls st k n) := by rw [wp_s dd_72_88 rfl hs]; rfl
theorem dd_72_91 : decode (mB 72) 91 = .ok (.lload 4, 2) := by decide +kernel
theorem u_72_91 {G : aG} {S : Nat → Bool} {f : Nat} {st : List Value} {ls : aL} {h : aH} {k n : Nat} (hs : S 91 = false) : WP 72 G S (f + 1) 91 ls st h k n = (oJ (lget ls 4) (WP 72 G S f) 93 ls st h k n) := by rw [wp_s dd_72_91 rfl hs]; rfl
theorem dd_72_93 : decode (mB 72) 93 = .ok (.lload 4, 2) := by decide +kernel
theorem u_72_93 {G : aG} {S : Nat → Bool} {f : Nat} {st : List Value} {ls : aL} {h : aH} {k n : Nat} (hs : S 93 = false) : WP 72 G S (f + 1) 93 ls st h k n = (oJ (lget ls 4) (WP 72 G S f) 95 ls st h k n) := by rw [wp_s dd_72_93 rfl hs]; rfl
theorem dd_72_95 : decode (mB 72) 95 = .ok (.lconst 1, 1) := by decide +kernel
theorem u_72_95 {G : aG} {S : Nat → Bool} {f : Nat} {st : List Value} {ls : aL} {h : aH} {k n : Nat} (hs : S 95 = false) : WP 72 G S (f + 1) 95 ls st h k n = (WP 72 G S f 96 ls (.long (lN 1) :: st) h k n) := by rw [wp_s dd_72_95 rfl hs]; rfl
theorem dd_72_96 : decode (mB 72) 96 = .ok (.lsub, 1) := by decide +kernel
theorem u_72_96 {G : aG} {S : Nat → Bool} {f : Nat} {st : List Value} {ls : aL} {h : aH} {k n : Nat} {x y : Int64} (hs : S 96 = false) : WP 72 G S (f + 1) 96 ls (.long y :: .long x :: st) h k n = (WP 72 G S f 97 ls (.long (x - y) :: st) h k n) := by rw [wp_s dd_72_96 rfl hs]; rfl
theorem dd_72_97 : decode (mB 72) 97 = .ok (.land, 1) := by decide +kernel
theorem u_72_97 {G : aG} {S : Nat → Bool} {f : Nat} {st : List Value} {ls : aL} {h : aH} {k n : Nat} {x y : Int64} (hs : S 97 = false) : WP 72 G S (f + 1) 97 ls (.long y :: .long x :: st) h k n = (WP 72 G S f 98 ls (.long (x &&& y) :: st) h k n) := by rw [wp_s dd_72_97 rfl hs]; rfl
theorem dd_72_98 : decode (mB 72) 98 = .ok (.lstore 4, 2) := by decide +kernel
theorem u_72_98 {G : aG} {S : Nat → Bool} {f : Nat} {st : List Value} {ls : aL} {h : aH} {k n : Nat} {x : Int64} (hs : S 98 = false) : WP 72 G S (f + 1) 98 ls (.long x :: st) h k n = (WP 72 G S f 100 (lput2 ls 4 (.long x)) st h k n) := by rw [wp_s dd_72_98 rfl hs]; rfl
theorem dd_72_100 : decode (mB 72) 100 = .ok (.iinc 6 (-1), 3) := by decide +kernel
theorem u_72_100 {G : aG} {S : Nat → Bool} {f : Nat} {st : List Value} {ls : aL} {h : aH} {k n : Nat} (hs : S 100 = false) : WP 72 G S (f + 1) 100 ls st h k n = (oInc (lget ls 6) (-1) (WP 72 G S f) 6 103 ls st h k n) := by rw [wp_s dd_72_100 rfl hs]; rfl
theorem dd_72_103 : decode (mB 72) 103 = .ok (.goto (-58), 3) := by decide +kernel
theorem u_72_103 {G : aG} {S : Nat → Bool} {f : Nat} {st : List Value} {ls : aL} {h : aH} {k n : Nat} (hs : S 103 = false) : WP 72 G S (f + 1) 103 ls st h k n = (WP 72 G S f 45 ls st h k n) := by rw [wp_s dd_72_103 rfl hs]; rfl
theorem dd_72_106 : decode (mB 72) 106 = .ok (.iinc 3 1, 3) := by decide +kernel
theorem u_72_106 {G : aG} {S : Nat → Bool} {f : Nat} {st : List Value} {ls : aL} {h : aH} {k n : Nat} (hs : S 106 = false) : WP 72 G S (f + 1) 106 ls st h k n = (oInc (lget ls 3) (nI 1) (WP 72 G S f) 3 109 ls st h k n) := by rw [wp_s dd_72_106 rfl hs]; rfl
theorem dd_72_109 : decode (mB 72) 109 = .ok (.goto (-94), 3) := by decide +kernel
theorem u_72_109 {G : aG} {S : Nat → Bool} {f : Nat} {st : List Value} {ls : aL} {h : aH} {k n : Nat} (hs : S 109 = false) : WP 72 G S (f + 1) 109 ls st h k n = (WP 72 G S f 15 ls st h k n) := by rw [wp_s dd_72_109 rfl hs]; rfl
theorem dd_72_112 : decode (mB 72) 112 = .ok (.return_, 1) := by decide +kernel
theorem u_72_112 {G : aG} {S : Nat → Bool} {f : Nat} {ls : aL} {h : aH} {k n : Nat} (hs : S 112 = false) : WP 72 G S (f + 1) 112 ls [] h k n = (RET G none h k n) := by rw [wp_s dd_72_112 rfl hs]; rfl
