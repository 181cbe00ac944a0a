/-! rows of 6 Machines.init, 7 Machine.init, 9 Counter.init, 11 Machines.follow, 12 Machine.load, 27 Machine.foundStand, 28 Machine.chainOfFound, 29 Machine.isFound, 30 Machine.newStand, 31 Machine.makeRoom, 58 Machines.at, 60 Machine.isEnding, 61 Machine.traitsOf, 62 Machine.due, 65 Counter.count, 66 Counter.begin, 67 Counter.lastSteps, 68 Machine.lastSteps, 70 Counter.stepOn, 71 Machine.step, 72 Machine.findTargets -/
theorem dd_6_0 : decode (mB 6) 0 = .ok (.aload_n 0, 1) := by decide +kernel
theorem u_6_0 {G : aG} {S : Nat → Bool} {f : Nat} {st : List Value} {ls : aL} {h : aH} {k n : Nat} (hs : S 0 = false) : WP 6 G S (f + 1) 0 ls st h k n = (oA (lget ls 0) (WP 6 G S f) 1 ls st h k n) := by rw [wp_s dd_6_0 rfl hs]; rfl
theorem dd_6_1 : decode (mB 6) 1 = .ok (.invokespecial 3, 3) := by decide +kernel
theorem u_6_1 {G : aG} {S : Nat → Bool} {f : Nat} {st : List Value} {ls : aL} {h : aH} {k n : Nat} {a : Nat} (hs : S 1 = false) : WP 6 G S (f + 1) 1 ls (.ref a :: st) h k n = ((st.map fun v => v.category).sum ≤ 8 ∧ 1 ≤ gD G ∧ WP 6 G S f 4 ls st h k n) := by rw [wp_s dd_6_1 rfl hs]; rfl
theorem dd_6_4 : decode (mB 6) 4 = .ok (.aload_n 0, 1) := by decide +kernel
theorem u_6_4 {G : aG} {S : Nat → Bool} {f : Nat} {st : List Value} {ls : aL} {h : aH} {k n : Nat} (hs : S 4 = false) : WP 6 G S (f + 1) 4 ls st h k n = (oA (lget ls 0) (WP 6 G S f) 5 ls st h k n) := by rw [wp_s dd_6_4 rfl hs]; rfl
theorem dd_6_5 : decode (mB 6) 5 = .ok (.bipush 9, 2) := by decide +kernel
theorem u_6_5 {G : aG} {S : Nat → Bool} {f : Nat} {st : List Value} {ls : aL} {h : aH} {k n : Nat} (hs : S 5 = false) : WP 6 G S (f + 1) 5 ls st h k n = (WP 6 G S f 7 ls (.int (nI 9) :: st) h k n) := by rw [wp_s dd_6_5 rfl hs]; rfl
theorem dd_6_7 : decode (mB 6) 7 = .ok (.anewarray 9, 3) := by decide +kernel
theorem u_6_7 {G : aG} {S : Nat → Bool} {f : Nat} {st : List Value} {ls : aL} {h : aH} {k n : Nat} {x : Int32} (hs : S 7 = false) : WP 6 G S (f + 1) 7 ls (.int x :: st) h k n = (¬ x < 0 ∧ x.toNatClampNeg * 4 ≤ 536870912 ∧ oNew G (cQ 3 x.toNatClampNeg) x.toNatClampNeg (WP 6 G S f) 10 ls st h k n) := by rw [wp_s dd_6_7 rfl hs]; rfl
theorem dd_6_10 : decode (mB 6) 10 = .ok (.putfield 11, 3) := by decide +kernel
theorem u_6_10 {G : aG} {S : Nat → Bool} {f : Nat} {st : List Value} {ls : aL} {h : aH} {k n : Nat} {a : Nat} {x : Nat} (hs : S 10 = false) : WP 6 G S (f + 1) 10 ls (.ref x :: .ref a :: st) h k n = (oH (fput h a 3 0 (.ref x)) (WP 6 G S f) 13 ls st k n) := by rw [wp_s dd_6_10 rfl hs]; rfl
theorem dd_6_13 : decode (mB 6) 13 = .ok (.iconst 0, 1) := by decide +kernel
theorem u_6_13 {G : aG} {S : Nat → Bool} {f : Nat} {st : List Value} {ls : aL} {h : aH} {k n : Nat} (hs : S 13 = false) : WP 6 G S (f + 1) 13 ls st h k n = (WP 6 G S f 14 ls (.int (nI 0) :: st) h k n) := by rw [wp_s dd_6_13 rfl hs]; rfl
theorem dd_6_14 : decode (mB 6) 14 = .ok (.istore_n 1, 1) := by decide +kernel
theorem u_6_14 {G : aG} {S : Nat → Bool} {f : Nat} {st : List Value} {ls : aL} {h : aH} {k n : Nat} {x : Int32} (hs : S 14 = false) : WP 6 G S (f + 1) 14 ls (.int x :: st) h k n = (WP 6 G S f 15 (lput1 ls 1 (.int x)) st h k n) := by rw [wp_s dd_6_14 rfl hs]; rfl
theorem dd_6_15 : decode (mB 6) 15 = .ok (.iload_n 1, 1) := by decide +kernel
theorem u_6_15 {G : aG} {S : Nat → Bool} {f : Nat} {st : List Value} {ls : aL} {h : aH} {k n : Nat} (hs : S 15 = false) : WP 6 G S (f + 1) 15 ls st h k n = (oI (lget ls 1) (WP 6 G S f) 16 ls st h k n) := by rw [wp_s dd_6_15 rfl hs]; rfl
theorem v_6_15 {G : aG} {S : Nat → Bool} {f : Nat} {st : List Value} {ls : aL} {h : aH} {k n : Nat} : WQ 6 G S f 15 ls st h k n = (oI (lget ls 1) (WP 6 G S f) 16 ls st h k n) := by rw [wq_s dd_6_15 rfl]; rfl
theorem dd_6_16 : decode (mB 6) 16 = .ok (.bipush 9, 2) := by decide +kernel
theorem u_6_16 {G : aG} {S : Nat → Bool} {f : Nat} {st : List Value} {ls : aL} {h : aH} {k n : Nat} (hs : S 16 = false) : WP 6 G S (f + 1) 16 ls st h k n = (WP 6 G S f 18 ls (.int (nI 9) :: st) h k n) := by rw [wp_s dd_6_16 rfl hs]; rfl
theorem dd_6_18 : decode (mB 6) 18 = .ok (.if_icmp .ge 22, 3) := by decide +kernel
theorem u_6_18 {G : aG} {S : Nat → Bool} {f : Nat} {st : List Value} {ls : aL} {h : aH} {k n : Nat} {x y : Int32} (hs : S 18 = false) : WP 6 G S (f + 1) 18 ls (.int y :: .int x :: st) h k n = (if y ≤ x then WP 6 G S f 40 ls st h k n else WP 6 G S f 21 ls st h k n) := by rw [wp_s dd_6_18 rfl hs]; exact br_ite (c := y ≤ x)
theorem dd_6_21 : decode (mB 6) 21 = .ok (.aload_n 0, 1) := by decide +kernel
theorem u_6_21 {G : aG} {S : Nat → Bool} {f : Nat} {st : List Value} {ls : aL} {h : aH} {k n : Nat} (hs : S 21 = false) : WP 6 G S (f + 1) 21 ls st h k n = (oA (lget ls 0) (WP 6 G S f) 22 ls st h k n) := by rw [wp_s dd_6_21 rfl hs]; rfl
theorem dd_6_22 : decode (mB 6) 22 = .ok (.getfield 11, 3) := by decide +kernel
theorem u_6_22 {G : aG} {S : Nat → Bool} {f : Nat} {st : List Value} {ls : aL} {h : aH} {k n : Nat} {a : Nat} (hs : S 22 = false) : WP 6 G S (f + 1) 22 ls (.ref a :: st) h k n = (oV (fget h a 3 0) (WP 6 G S f) 25 ls st h k n) := by rw [wp_s dd_6_22 rfl hs]; rfl
theorem dd_6_25 : decode (mB 6) 25 = .ok (.iload_n 1, 1) := by decide +kernel
theorem u_6_25 {G : aG} {S : Nat → Bool} {f : Nat} {st : List Value} {ls : aL} {h : aH} {k n : Nat} (hs : S 25 = false) : WP 6 G S (f + 1) 25 ls st h k n = (oI (lget ls 1) (WP 6 G S f) 26 ls st h k n) := by rw [wp_s dd_6_25 rfl hs]; rfl
theorem dd_6_26 : decode (mB 6) 26 = .ok (.new 9, 3) := by decide +kernel
theorem u_6_26 {G : aG} {S : Nat → Bool} {f : Nat} {st : List Value} {ls : aL} {h : aH} {k n : Nat} (hs : S 26 = false) : WP 6 G S (f + 1) 26 ls st h k n = (oNew G (.inr (2, dfl 2)) (clT 2).2.2 (WP 6 G S f) 29 ls st h k n) := by rw [wp_s dd_6_26 rfl hs]; rfl
theorem dd_6_29 : decode (mB 6) 29 = .ok (.dup, 1) := by decide +kernel
theorem u_6_29 {G : aG} {S : Nat → Bool} {f : Nat} {st : List Value} {ls : aL} {h : aH} {k n : Nat} {v : Value} (hs : S 29 = false) : WP 6 G S (f + 1) 29 ls (v :: st) h k n = (cond (cat1 v) (WP 6 G S f 30 ls (v :: v :: st) h k n) False) := by rw [wp_s dd_6_29 rfl hs]; rfl
theorem dd_6_30 : decode (mB 6) 30 = .ok (.invokespecial 17, 3) := by decide +kernel
theorem u_6_30 {G : aG} {S : Nat → Bool} {f : Nat} {st : List Value} {ls : aL} {h : aH} {k n : Nat} {b : Nat} (hs : S 30 = false) : WP 6 G S (f + 1) 30 ls (.ref b :: st) h k n = (CAL G (WP 6 G S f) 7 [.ref b] 33 ls st h k n) := by rw [wp_s dd_6_30 rfl hs]; rfl
theorem dd_6_33 : decode (mB 6) 33 = .ok (.aastore, 1) := by decide +kernel
theorem u_6_33 {G : aG} {S : Nat → Bool} {f : Nat} {st : List Value} {ls : aL} {h : aH} {k n : Nat} {i : Int32} {a b : Nat} (hs : S 33 = false) : WP 6 G S (f + 1) 33 ls (.ref b :: .int i :: .ref a :: st) h k n = (oQst (qget h a) a i b (WP 6 G S f) 34 ls st h k n) := by rw [wp_s dd_6_33 rfl hs]; rfl
theorem dd_6_34 : decode (mB 6) 34 = .ok (.iinc 1 1, 3) := by decide +kernel
theorem u_6_34 {G : aG} {S : Nat → Bool} {f : Nat} {st : List Value} {ls : aL} {h : aH} {k n : Nat} (hs : S 34 = false) : WP 6 G S (f + 1) 34 ls st h k n = (oInc (lget ls 1) (nI 1) (WP 6 G S f) 1 37 ls st h k n) := by rw [wp_s dd_6_34 rfl hs]; rfl
theorem dd_6_37 : decode (mB 6) 37 = .ok (.goto (-22), 3) := by decide +kernel
theorem u_6_37 {G : aG} {S : Nat → Bool} {f : Nat} {st : List Value} {ls : aL} {h : aH} {k n : Nat} (hs : S 37 = false) : WP 6 G S (f + 1) 37 ls st h k n = (WP 6 G S f 15 ls st h k n) := by rw [wp_s dd_6_37 rfl hs]; rfl
theorem dd_6_40 : decode (mB 6) 40 = .ok (.return_, 1) := by decide +kernel
theorem u_6_40 {G : aG} {S : Nat → Bool} {f : Nat} {ls : aL} {h : aH} {k n : Nat} (hs : S 40 = false) : WP 6 G S (f + 1) 40 ls [] h k n = (RET G none h k n) := by rw [wp_s dd_6_40 rfl hs]; rfl
theorem dd_7_0 : decode (mB 7) 0 = .ok (.aload_n 0, 1) := by decide +kernel
theorem u_7_0 {G : aG} {S : Nat → Bool} {f : Nat} {st : List Value} {ls : aL} {h : aH} {k n : Nat} (hs : S 0 = false) : WP 7 G S (f + 1) 0 ls st h k n = (oA (lget ls 0) (WP 7 G S f) 1 ls st h k n) := by rw [wp_s dd_7_0 rfl hs]; rfl
theorem dd_7_1 : decode (mB 7) 1 = .ok (.invokespecial 3, 3) := by decide +kernel
theorem u_7_1 {G : aG} {S : Nat → Bool} {f : Nat} {st : List Value} {ls : aL} {h : aH} {k n : Nat} {a : Nat} (hs : S 1 = false) : WP 7 G S (f + 1) 1 ls (.ref a :: st) h k n = ((st.map fun v => v.category).sum ≤ 8 ∧ 1 ≤ gD G ∧ WP 7 G S f 4 ls st h k n) := by rw [wp_s dd_7_1 rfl hs]; rfl
theorem dd_7_4 : decode (mB 7) 4 = .ok (.aload_n 0, 1) := by decide +kernel
theorem u_7_4 {G : aG} {S : Nat → Bool} {f : Nat} {st : List Value} {ls : aL} {h : aH} {k n : Nat} (hs : S 4 = false) : WP 7 G S (f + 1) 4 ls st h k n = (oA (lget ls 0) (WP 7 G S f) 5 ls st h k n) := by rw [wp_s dd_7_4 rfl hs]; rfl
theorem dd_7_5 : decode (mB 7) 5 = .ok (.new 9, 3) := by decide +kernel
theorem u_7_5 {G : aG} {S : Nat → Bool} {f : Nat} {st : List Value} {ls : aL} {h : aH} {k n : Nat} (hs : S 5 = false) : WP 7 G S (f + 1) 5 ls st h k n = (oNew G (.inr (5, dfl 5)) (clT 5).2.2 (WP 7 G S f) 8 ls st h k n) := by rw [wp_s dd_7_5 rfl hs]; rfl
theorem dd_7_8 : decode (mB 7) 8 = .ok (.dup, 1) := by decide +kernel
theorem u_7_8 {G : aG} {S : Nat → Bool} {f : Nat} {st : List Value} {ls : aL} {h : aH} {k n : Nat} {v : Value} (hs : S 8 = false) : WP 7 G S (f + 1) 8 ls (v :: st) h k n = (cond (cat1 v) (WP 7 G S f 9 ls (v :: v :: st) h k n) False) := by rw [wp_s dd_7_8 rfl hs]; rfl
theorem dd_7_9 : decode (mB 7) 9 = .ok (.invokespecial 11, 3) := by decide +kernel
theorem u_7_9 {G : aG} {S : Nat → Bool} {f : Nat} {st : List Value} {ls : aL} {h : aH} {k n : Nat} {b : Nat} (hs : S 9 = false) : WP 7 G S (f + 1) 9 ls (.ref b :: st) h k n = (CAL G (WP 7 G S f) 8 [.ref b] 12 ls st h k n) := by rw [wp_s dd_7_9 rfl hs]; rfl
theorem dd_7_12 : decode (mB 7) 12 = .ok (.putfield 12, 3) := by decide +kernel
theorem u_7_12 {G : aG} {S : Nat → Bool} {f : Nat} {st : List Value} {ls : aL} {h : aH} {k n : Nat} {a : Nat} {x : Nat} (hs : S 12 = false) : WP 7 G S (f + 1) 12 ls (.ref x :: .ref a :: st) h k n = (oH (fput h a 2 0 (.ref x)) (WP 7 G S f) 15 ls st k n) := by rw [wp_s dd_7_12 rfl hs]; rfl
theorem dd_7_15 : decode (mB 7) 15 = .ok (.aload_n 0, 1) := by decide +kernel
theorem u_7_15 {G : aG} {S : Nat → Bool} {f : Nat} {st : List Value} {ls : aL} {h : aH} {k n : Nat} (hs : S 15 = false) : WP 7 G S (f + 1) 15 ls st h k n = (oA (lget ls 0) (WP 7 G S f) 16 ls st h k n) := by rw [wp_s dd_7_15 rfl hs]; rfl
theorem dd_7_16 : decode (mB 7) 16 = .ok (.bipush 8, 2) := by decide +kernel
theorem u_7_16 {G : aG} {S : Nat → Bool} {f : Nat} {st : List Value} {ls : aL} {h : aH} {k n : Nat} (hs : S 16 = false) : WP 7 G S (f + 1) 16 ls st h k n = (WP 7 G S f 18 ls (.int (nI 8) :: st) h k n) := by rw [wp_s dd_7_16 rfl hs]; rfl
theorem dd_7_18 : decode (mB 7) 18 = .ok (.newarray .long, 2) := by decide +kernel
theorem u_7_18 {G : aG} {S : Nat → Bool} {f : Nat} {st : List Value} {ls : aL} {h : aH} {k n : Nat} {x : Int32} (hs : S 18 = false) : WP 7 G S (f + 1) 18 ls (.int x :: st) h k n = (¬ x < 0 ∧ x.toNatClampNeg * 8 ≤ 536870912 ∧ oNew G (cJ x.toNatClampNeg) x.toNatClampNeg (WP 7 G S f) 20 ls st h k n) := by rw [wp_s dd_7_18 rfl hs]; rfl
theorem dd_7_20 : decode (mB 7) 20 = .ok (.putfield 18, 3) := by decide +kernel
theorem u_7_20 {G : aG} {S : Nat → Bool} {f : Nat} {st : List Value} {ls : aL} {h : aH} {k n : Nat} {a : Nat} {x : Nat} (hs : S 20 = false) : WP 7 G S (f + 1) 20 ls (.ref x :: .ref a :: st) h k n = (oH (fput h a 2 4 (.ref x)) (WP 7 G S f) 23 ls st k n) := by rw [wp_s dd_7_20 rfl hs]; rfl
theorem dd_7_23 : decode (mB 7) 23 = .ok (.aload_n 0, 1) := by decide +kernel
theorem u_7_23 {G : aG} {S : Nat → Bool} {f : Nat} {st : List Value} {ls : aL} {h : aH} {k n : Nat} (hs : S 23 = false) : WP 7 G S (f + 1) 23 ls st h k n = (oA (lget ls 0) (WP 7 G S f) 24 ls st h k n) := by rw [wp_s dd_7_23 rfl hs]; rfl
theorem dd_7_24 : decode (mB 7) 24 = .ok (.bipush 64, 2) := by decide +kernel
theorem u_7_24 {G : aG} {S : Nat → Bool} {f : Nat} {st : List Value} {ls : aL} {h : aH} {k n : Nat} (hs : S 24 = false) : WP 7 G S (f + 1) 24 ls st h k n = (WP 7 G S f 26 ls (.int (nI 64) :: st) h k n) := by rw [wp_s dd_7_24 rfl hs]; rfl
theorem dd_7_26 : decode (mB 7) 26 = .ok (.newarray .int, 2) := by decide +kernel
theorem u_7_26 {G : aG} {S : Nat → Bool} {f : Nat} {st : List Value} {ls : aL} {h : aH} {k n : Nat} {x : Int32} (hs : S 26 = false) : WP 7 G S (f + 1) 26 ls (.int x :: st) h k n = (¬ x < 0 ∧ x.toNatClampNeg * 4 ≤ 536870912 ∧ oNew G (cI x.toNatClampNeg) x.toNatClampNeg (WP 7 G S f) 28 ls st h k n) := by rw [wp_s dd_7_26 rfl hs]; rfl
theorem dd_7_28 : decode (mB 7) 28 = .ok (.putfield 22, 3) := by decide +kernel
theorem u_7_28 {G : aG} {S : Nat → Bool} {f : Nat} {st : List Value} {ls : aL} {h : aH} {k n : Nat} {a : Nat} {x : Nat} (hs : S 28 = false) : WP 7 G S (f + 1) 28 ls (.ref x :: .ref a :: st) h k n = (oH (fput h a 2 5 (.ref x)) (WP 7 G S f) 31 ls st k n) := by rw [wp_s dd_7_28 rfl hs]; rfl
theorem dd_7_31 : decode (mB 7) 31 = .ok (.aload_n 0, 1) := by decide +kernel
theorem u_7_31 {G : aG} {S : Nat → Bool} {f : Nat} {st : List Value} {ls : aL} {h : aH} {k n : Nat} (hs : S 31 = false) : WP 7 G S (f + 1) 31 ls st h k n = (oA (lget ls 0) (WP 7 G S f) 32 ls st h k n) := by rw [wp_s dd_7_31 rfl hs]; rfl
theorem dd_7_32 : decode (mB 7) 32 = .ok (.bipush 8, 2) := by decide +kernel
theorem u_7_32 {G : aG} {S : Nat → Bool} {f : Nat} {st : List Value} {ls : aL} {h : aH} {k n : Nat} (hs : S 32 = false) : WP 7 G S (f + 1) 32 ls st h k n = (WP 7 G S f 34 ls (.int (nI 8) :: st) h k n) := by rw [wp_s dd_7_32 rfl hs]; rfl
theorem dd_7_34 : decode (mB 7) 34 = .ok (.newarray .int, 2) := by decide +kernel
theorem u_7_34 {G : aG} {S : Nat → Bool} {f : Nat} {st : List Value} {ls : aL} {h : aH} {k n : Nat} {x : Int32} (hs : S 34 = false) : WP 7 G S (f + 1) 34 ls (.int x :: st) h k n = (¬ x < 0 ∧ x.toNatClampNeg * 4 ≤ 536870912 ∧ oNew G (cI x.toNatClampNeg) x.toNatClampNeg (WP 7 G S f) 36 ls st h k n) := by rw [wp_s dd_7_34 rfl hs]; rfl
theorem dd_7_36 : decode (mB 7) 36 = .ok (.putfield 26, 3) := by decide +kernel
theorem u_7_36 {G : aG} {S : Nat → Bool} {f : Nat} {st : List Value} {ls : aL} {h : aH} {k n : Nat} {a : Nat} {x : Nat} (hs : S 36 = false) : WP 7 G S (f + 1) 36 ls (.ref x :: .ref a :: st) h k n = (oH (fput h a 2 6 (.ref x)) (WP 7 G S f) 39 ls st k n) := by rw [wp_s dd_7_36 rfl hs]; rfl
theorem dd_7_39 : decode (mB 7) 39 = .ok (.aload_n 0, 1) := by decide +kernel
theorem u_7_39 {G : aG} {S : Nat → Bool} {f : Nat} {st : List Value} {ls : aL} {h : aH} {k n : Nat} (hs : S 39 = false) : WP 7 G S (f + 1) 39 ls st h k n = (oA (lget ls 0) (WP 7 G S f) 40 ls st h k n) := by rw [wp_s dd_7_39 rfl hs]; rfl
theorem dd_7_40 : decode (mB 7) 40 = .ok (.bipush 8, 2) := by decide +kernel
theorem u_7_40 {G : aG} {S : Nat → Bool} {f : Nat} {st : List Value} {ls : aL} {h : aH} {k n : Nat} (hs : S 40 = false) : WP 7 G S (f + 1) 40 ls st h k n = (WP 7 G S f 42 ls (.int (nI 8) :: st) h k n) := by rw [wp_s dd_7_40 rfl hs]; rfl
theorem dd_7_42 : decode (mB 7) 42 = .ok (.newarray .int, 2) := by decide +kernel
theorem u_7_42 {G : aG} {S : Nat → Bool} {f : Nat} {st : List Value} {ls : aL} {h : aH} {k n : Nat} {x : Int32} (hs : S 42 = false) : WP 7 G S (f + 1) 42 ls (.int x :: st) h k n = (¬ x < 0 ∧ x.toNatClampNeg * 4 ≤ 536870912 ∧ oNew G (cI x.toNatClampNeg) x.toNatClampNeg (WP 7 G S f) 44 ls st h k n) := by rw [wp_s dd_7_42 rfl hs]; rfl
theorem dd_7_44 : decode (mB 7) 44 = .ok (.putfield 29, 3) := by decide +kernel
theorem u_7_44 {G : aG} {S : Nat → Bool} {f : Nat} {st : List Value} {ls : aL} {h : aH} {k n : Nat} {a : Nat} {x : Nat} (hs : S 44 = false) : WP 7 G S (f + 1) 44 ls (.ref x :: .ref a :: st) h k n = (oH (fput h a 2 7 (.ref x)) (WP 7 G S f) 47 ls st k n) := by rw [wp_s dd_7_44 rfl hs]; rfl
theorem dd_7_47 : decode (mB 7) 47 = .ok (.aload_n 0, 1) := by decide +kernel
theorem u_7_47 {G : aG} {S : Nat → Bool} {f : Nat} {st : List Value} {ls : aL} {h : aH} {k n : Nat} (hs : S 47 = false) : WP 7 G S (f + 1) 47 ls st h k n = (oA (lget ls 0) (WP 7 G S f) 48 ls st h k n) := by rw [wp_s dd_7_47 rfl hs]; rfl
theorem dd_7_48 : decode (mB 7) 48 = .ok (.bipush 64, 2) := by decide +kernel
theorem u_7_48 {G : aG} {S : Nat → Bool} {f : Nat} {st : List Value} {ls : aL} {h : aH} {k n : Nat} (hs : S 48 = false) : WP 7 G S (f + 1) 48 ls st h k n = (WP 7 G S f 50 ls (.int (nI 64) :: st) h k n) := by rw [wp_s dd_7_48 rfl hs]; rfl
theorem dd_7_50 : decode (mB 7) 50 = .ok (.newarray .int, 2) := by decide +kernel
theorem u_7_50 {G : aG} {S : Nat → Bool} {f : Nat} {st : List Value} {ls : aL} {h : aH} {k n : Nat} {x : Int32} (hs : S 50 = false) : WP 7 G S (f + 1) 50 ls (.int x :: st) h k n = (¬ x < 0 ∧ x.toNatClampNeg * 4 ≤ 536870912 ∧ oNew G (cI x.toNatClampNeg) x.toNatClampNeg (WP 7 G S f) 52 ls st h k n) := by rw [wp_s dd_7_50 rfl hs]; rfl
theorem dd_7_52 : decode (mB 7) 52 = .ok (.putfield 32, 3) := by decide +kernel
theorem u_7_52 {G : aG} {S : Nat → Bool} {f : Nat} {st : List Value} {ls : aL} {h : aH} {k n : Nat} {a : Nat} {x : Nat} (hs : S 52 = false) : WP 7 G S (f + 1) 52 ls (.ref x :: .ref a :: st) h k n = (oH (fput h a 2 8 (.ref x)) (WP 7 G S f) 55 ls st k n) := by rw [wp_s dd_7_52 rfl hs]; rfl
theorem dd_7_55 : decode (mB 7) 55 = .ok (.aload_n 0, 1) := by decide +kernel
theorem u_7_55 {G : aG} {S : Nat → Bool} {f : Nat} {st : List Value} {ls : aL} {h : aH} {k n : Nat} (hs : S 55 = false) : WP 7 G S (f + 1) 55 ls st h k n = (oA (lget ls 0) (WP 7 G S f) 56 ls st h k n) := by rw [wp_s dd_7_55 rfl hs]; rfl
theorem dd_7_56 : decode (mB 7) 56 = .ok (.iconst 4, 1) := by decide +kernel
theorem u_7_56 {G : aG} {S : Nat → Bool} {f : Nat} {st : List Value} {ls : aL} {h : aH} {k n : Nat} (hs : S 56 = false) : WP 7 G S (f + 1) 56 ls st h k n = (WP 7 G S f 57 ls (.int (nI 4) :: st) h k n) := by rw [wp_s dd_7_56 rfl hs]; rfl
theorem dd_7_57 : decode (mB 7) 57 = .ok (.newarray .long, 2) := by decide +kernel
theorem u_7_57 {G : aG} {S : Nat → Bool} {f : Nat} {st : List Value} {ls : aL} {h : aH} {k n : Nat} {x : Int32} (hs : S 57 = false) : WP 7 G S (f + 1) 57 ls (.int x :: st) h k n = (¬ x < 0 ∧ x.toNatClampNeg * 8 ≤ 536870912 ∧ oNew G (cJ x.toNatClampNeg) x.toNatClampNeg (WP 7 G S f) 59 ls st h k n) := by rw [wp_s dd_7_57 rfl hs]; rfl
theorem dd_7_59 : decode (mB 7) 59 = .ok (.putfield 35, 3) := by decide +kernel
theorem u_7_59 {G : aG} {S : Nat → Bool} {f : Nat} {st : List Value} {ls : aL} {h : aH} {k n : Nat} {a : Nat} {x : Nat} (hs : S 59 = false) : WP 7 G S (f + 1) 59 ls (.ref x :: .ref a :: st) h k n = (oH (fput h a 2 9 (.ref x)) (WP 7 G S f) 62 ls st k n) := by rw [wp_s dd_7_59 rfl hs]; rfl
theorem dd_7_62 : decode (mB 7) 62 = .ok (.aload_n 0, 1) := by decide +kernel
theorem u_7_62 {G : aG} {S : Nat → Bool} {f : Nat} {st : List Value} {ls : aL} {h : aH} {k n : Nat} (hs : S 62 = false) : WP 7 G S (f + 1) 62 ls st h k n = (oA (lget ls 0) (WP 7 G S f) 63 ls st h k n) := by rw [wp_s dd_7_62 rfl hs]; rfl
theorem dd_7_63 : decode (mB 7) 63 = .ok (.bipush 7, 2) := by decide +kernel
theorem u_7_63 {G : aG} {S : Nat → Bool} {f : Nat} {st : List Value} {ls : aL} {h : aH} {k n : Nat} (hs : S 63 = false) : WP 7 G S (f + 1) 63 ls st h k n = (WP 7 G S f 65 ls (.int (nI 7) :: st) h k n) := by rw [wp_s dd_7_63 rfl hs]; rfl
theorem dd_7_65 : decode (mB 7) 65 = .ok (.newarray .int, 2) := by decide +kernel
theorem u_7_65 {G : aG} {S : Nat → Bool} {f : Nat} {st : List Value} {ls : aL} {h : aH} {k n : Nat} {x : Int32} (hs : S 65 = false) : WP 7 G S (f + 1) 65 ls (.int x :: st) h k n = (¬ x < 0 ∧ x.toNatClampNeg * 4 ≤ 536870912 ∧ oNew G (cI x.toNatClampNeg) x.toNatClampNeg (WP 7 G S f) 67 ls st h k n) := by rw [wp_s dd_7_65 rfl hs]; rfl
theorem dd_7_67 : decode (mB 7) 67 = .ok (.putfield 38, 3) := by decide +kernel
theorem u_7_67 {G : aG} {S : Nat → Bool} {f : Nat} {st : List Value} {ls : aL} {h : aH} {k n : Nat} {a : Nat} {x : Nat} (hs : S 67 = false) : WP 7 G S (f + 1) 67 ls (.ref x :: .ref a :: st) h k n = (oH (fput h a 2 11 (.ref x)) (WP 7 G S f) 70 ls st k n) := by rw [wp_s dd_7_67 rfl hs]; rfl
theorem dd_7_70 : decode (mB 7) 70 = .ok (.return_, 1) := by decide +kernel
theorem u_7_70 {G : aG} {S : Nat → Bool} {f : Nat} {ls : aL} {h : aH} {k n : Nat} (hs : S 70 = false) : WP 7 G S (f + 1) 70 ls [] h k n = (RET G none h k n) := by rw [wp_s dd_7_70 rfl hs]; rfl
theorem dd_9_0 : decode (mB 9) 0 = .ok (.aload_n 0, 1) := by decide +kernel
theorem u_9_0 {G : aG} {S : Nat → Bool} {f : Nat} {st : List Value} {ls : aL} {h : aH} {k n : Nat} (hs : S 0 = false) : WP 9 G S (f + 1) 0 ls st h k n = (oA (lget ls 0) (WP 9 G S f) 1 ls st h k n) := by rw [wp_s dd_9_0 rfl hs]; rfl
theorem dd_9_1 : decode (mB 9) 1 = .ok (.invokespecial 3, 3) := by decide +kernel
theorem u_9_1 {G : aG} {S : Nat → Bool} {f : Nat} {st : List Value} {ls : aL} {h : aH} {k n : Nat} {a : Nat} (hs : S 1 = false) : WP 9 G S (f + 1) 1 ls (.ref a :: st) h k n = ((st.map fun v => v.category).sum ≤ 8 ∧ 1 ≤ gD G ∧ WP 9 G S f 4 ls st h k n) := by rw [wp_s dd_9_1 rfl hs]; rfl
theorem dd_9_4 : decode (mB 9) 4 = .ok (.aload_n 0, 1) := by decide +kernel
theorem u_9_4 {G : aG} {S : Nat → Bool} {f : Nat} {st : List Value} {ls : aL} {h : aH} {k n : Nat} (hs : S 4 = false) : WP 9 G S (f + 1) 4 ls st h k n = (oA (lget ls 0) (WP 9 G S f) 5 ls st h k n) := by rw [wp_s dd_9_4 rfl hs]; rfl
theorem dd_9_5 : decode (mB 9) 5 = .ok (.bipush 16, 2) := by decide +kernel
theorem u_9_5 {G : aG} {S : Nat → Bool} {f : Nat} {st : List Value} {ls : aL} {h : aH} {k n : Nat} (hs : S 5 = false) : WP 9 G S (f + 1) 5 ls st h k n = (WP 9 G S f 7 ls (.int (nI 16) :: st) h k n) := by rw [wp_s dd_9_5 rfl hs]; rfl
theorem dd_9_7 : decode (mB 9) 7 = .ok (.newarray .int, 2) := by decide +kernel
theorem u_9_7 {G : aG} {S : Nat → Bool} {f : Nat} {st : List Value} {ls : aL} {h : aH} {k n : Nat} {x : Int32} (hs : S 7 = false) : WP 9 G S (f + 1) 7 ls (.int x :: st) h k n = (¬ x < 0 ∧ x.toNatClampNeg * 4 ≤ 536870912 ∧ oNew G (cI x.toNatClampNeg) x.toNatClampNeg (WP 9 G S f) 9 ls st h k n) := by rw [wp_s dd_9_7 rfl hs]; rfl
theorem dd_9_9 : decode (mB 9) 9 = .ok (.putfield 11, 3) := by decide +kernel
theorem u_9_9 {G : aG} {S : Nat → Bool} {f : Nat} {st : List Value} {ls : aL} {h : aH} {k n : Nat} {a : Nat} {x : Nat} (hs : S 9 = false) : WP 9 G S (f + 1) 9 ls (.ref x :: .ref a :: st) h k n = (oH (fput h a 6 0 (.ref x)) (WP 9 G S f) 12 ls st k n) := by rw [wp_s dd_9_9 rfl hs]; rfl
theorem dd_9_12 : decode (mB 9) 12 = .ok (.aload_n 0, 1) := by decide +kernel
theorem u_9_12 {G : aG} {S : Nat → Bool} {f : Nat} {st : List Value} {ls : aL} {h : aH} {k n : Nat} (hs : S 12 = false) : WP 9 G S (f + 1) 12 ls st h k n = (oA (lget ls 0) (WP 9 G S f) 13 ls st h k n) := by rw [wp_s dd_9_12 rfl hs]; rfl
theorem dd_9_13 : decode (mB 9) 13 = .ok (.bipush 16, 2) := by decide +kernel
theorem u_9_13 {G : aG} {S : Nat → Bool} {f : Nat} {st : List Value} {ls : aL} {h : aH} {k n : Nat} (hs : S 13 = false) : WP 9 G S (f + 1) 13 ls st h k n = (WP 9 G S f 15 ls (.int (nI 16) :: st) h k n) := by rw [wp_s dd_9_13 rfl hs]; rfl
theorem dd_9_15 : decode (mB 9) 15 = .ok (.newarray .int, 2) := by decide +kernel
theorem u_9_15 {G : aG} {S : Nat → Bool} {f : Nat} {st : List Value} {ls : aL} {h : aH} {k n : Nat} {x : Int32} (hs : S 15 = false) : WP 9 G S (f + 1) 15 ls (.int x :: st) h k n = (¬ x < 0 ∧ x.toNatClampNeg * 4 ≤ 536870912 ∧ oNew G (cI x.toNatClampNeg) x.toNatClampNeg (WP 9 G S f) 17 ls st h k n) := by rw [wp_s dd_9_15 rfl hs]; rfl
theorem dd_9_17 : decode (mB 9) 17 = .ok (.putfield 15, 3) := by decide +kernel
theorem u_9_17 {G : aG} {S : Nat → Bool} {f : Nat} {st : List Value} {ls : aL} {h : aH} {k n : Nat} {a : Nat} {x : Nat} (hs : S 17 = false) : WP 9 G S (f + 1) 17 ls (.ref x :: .ref a :: st) h k n = (oH (fput h a 6 1 (.ref x)) (WP 9 G S f) 20 ls st k n) := by rw [wp_s dd_9_17 rfl hs]; rfl
theorem dd_9_20 : decode (mB 9) 20 = .ok (.return_, 1) := by decide +kernel
theorem u_9_20 {G : aG} {S : Nat → Bool} {f : Nat} {ls : aL} {h : aH} {k n : Nat} (hs : S 20 = false) : WP 9 G S (f + 1) 20 ls [] h k n = (RET G none h k n) := by rw [wp_s dd_9_20 rfl hs]; rfl
theorem dd_11_0 : decode (mB 11) 0 = .ok (.iconst 0, 1) := by decide +kernel
theorem u_11_0 {G : aG} {S : Nat → Bool} {f : Nat} {st : List Value} {ls : aL} {h : aH} {k n : Nat} (hs : S 0 = false) : WP 11 G S (f + 1) 0 ls st h k n = (WP 11 G S f 1 ls (.int (nI 0) :: st) h k n) := by rw [wp_s dd_11_0 rfl hs]; rfl
theorem dd_11_1 : decode (mB 11) 1 = .ok (.istore_n 2, 1) := by decide +kernel
theorem u_11_1 {G : aG} {S : Nat → Bool} {f : Nat} {st : List Value} {ls : aL} {h : aH} {k n : Nat} {x : Int32} (hs : S 1 = false) : WP 11 G S (f + 1) 1 ls (.int x :: st) h k n = (WP 11 G S f 2 (lput1 ls 2 (.int x)) st h k n) := by rw [wp_s dd_11_1 rfl hs]; rfl
theorem dd_11_2 : decode (mB 11) 2 = .ok (.iload_n 2, 1) := by decide +kernel
theorem u_11_2 {G : aG} {S : Nat → Bool} {f : Nat} {st : List Value} {ls : aL} {h : aH} {k n : Nat} (hs : S 2 = false) : WP 11 G S (f + 1) 2 ls st h k n = (oI (lget ls 2) (WP 11 G S f) 3 ls st h k n) := by rw [wp_s dd_11_2 rfl hs]; rfl
theorem v_11_2 {G : aG} {S : Nat → Bool} {f : Nat} {st : List Value} {ls : aL} {h : aH} {k n : Nat} : WQ 11 G S f 2 ls st h k n = (oI (lget ls 2) (WP 11 G S f) 3 ls st h k n) := by rw [wq_s dd_11_2 rfl]; rfl
theorem dd_11_3 : decode (mB 11) 3 = .ok (.bipush 9, 2) := by decide +kernel
theorem u_11_3 {G : aG} {S : Nat → Bool} {f : Nat} {st : List Value} {ls : aL} {h : aH} {k n : Nat} (hs : S 3 = false) : WP 11 G S (f + 1) 3 ls st h k n = (WP 11 G S f 5 ls (.int (nI 9) :: st) h k n) := by rw [wp_s dd_11_3 rfl hs]; rfl
theorem dd_11_5 : decode (mB 11) 5 = .ok (.if_icmp .ge 27, 3) := by decide +kernel
theorem u_11_5 {G : aG} {S : Nat → Bool} {f : Nat} {st : List Value} {ls : aL} {h : aH} {k n : Nat} {x y : Int32} (hs : S 5 = false) : WP 11 G S (f + 1) 5 ls (.int y :: .int x :: st) h k n = (if y ≤ x then WP 11 G S f 32 ls st h k n else WP 11 G S f 8 ls st h k n) := by rw [wp_s dd_11_5 rfl hs]; exact br_ite (c := y ≤ x)
theorem dd_11_8 : decode (mB 11) 8 = .ok (.iload_n 2, 1) := by decide +kernel
theorem u_11_8 {G : aG} {S : Nat → Bool} {f : Nat} {st : List Value} {ls : aL} {h : aH} {k n : Nat} (hs : S 8 = false) : WP 11 G S (f + 1) 8 ls st h k n = (oI (lget ls 2) (WP 11 G S f) 9 ls st h k n) := by rw [wp_s dd_11_8 rfl hs]; rfl
theorem dd_11_9 : decode (mB 11) 9 = .ok (.aload_n 1, 1) := by decide +kernel
theorem u_11_9 {G : aG} {S : Nat → Bool} {f : Nat} {st : List Value} {ls : aL} {h : aH} {k n : Nat} (hs : S 9 = false) : WP 11 G S (f + 1) 9 ls st h k n = (oA (lget ls 1) (WP 11 G S f) 10 ls st h k n) := by rw [wp_s dd_11_9 rfl hs]; rfl
theorem dd_11_10 : decode (mB 11) 10 = .ok (.arraylength, 1) := by decide +kernel
theorem u_11_10 {G : aG} {S : Nat → Bool} {f : Nat} {st : List Value} {ls : aL} {h : aH} {k n : Nat} {a : Nat} (hs : S 10 = false) : WP 11 G S (f + 1) 10 ls (.ref a :: st) h k n = (oLen (alen h a) (WP 11 G S f) 11 ls st h k n) := by rw [wp_s dd_11_10 rfl hs]; rfl
theorem dd_11_11 : decode (mB 11) 11 = .ok (.if_icmp .ge 21, 3) := by decide +kernel
theorem u_11_11 {G : aG} {S : Nat → Bool} {f : Nat} {st : List Value} {ls : aL} {h : aH} {k n : Nat} {x y : Int32} (hs : S 11 = false) : WP 11 G S (f + 1) 11 ls (.int y :: .int x :: st) h k n = (if y ≤ x then WP 11 G S f 32 ls st h k n else WP 11 G S f 14 ls st h k n) := by rw [wp_s dd_11_11 rfl hs]; exact br_ite (c := y ≤ x)
theorem dd_11_14 : decode (mB 11) 14 = .ok (.aload_n 0, 1) := by decide +kernel
theorem u_11_14 {G : aG} {S : Nat → Bool} {f : Nat} {st : List Value} {ls : aL} {h : aH} {k n : Nat} (hs : S 14 = false) : WP 11 G S (f + 1) 14 ls st h k n = (oA (lget ls 0) (WP 11 G S f) 15 ls st h k n) := by rw [wp_s dd_11_14 rfl hs]; rfl
theorem dd_11_15 : decode (mB 11) 15 = .ok (.getfield 11, 3) := by decide +kernel
theorem u_11_15 {G : aG} {S : Nat → Bool} {f : Nat} {st : List Value} {ls : aL} {h : aH} {k n : Nat} {a : Nat} (hs : S 15 = false) : WP 11 G S (f + 1) 15 ls (.ref a :: st) h k n = (oV (fget h a 3 0) (WP 11 G S f) 18 ls st h k n) := by rw [wp_s dd_11_15 rfl hs]; rfl
theorem dd_11_18 : decode (mB 11) 18 = .ok (.iload_n 2, 1) := by decide +kernel
theorem u_11_18 {G : aG} {S : Nat → Bool} {f : Nat} {st : List Value} {ls : aL} {h : aH} {k n : Nat} (hs : S 18 = false) : WP 11 G S (f + 1) 18 ls st h k n = (oI (lget ls 2) (WP 11 G S f) 19 ls st h k n) := by rw [wp_s dd_11_18 rfl hs]; rfl
theorem dd_11_19 : decode (mB 11) 19 = .ok (.aaload, 1) := by decide +kernel
theorem u_11_19 {G : aG} {S : Nat → Bool} {f : Nat} {st : List Value} {ls : aL} {h : aH} {k n : Nat} {i : Int32} {a : Nat} (hs : S 19 = false) : WP 11 G S (f + 1) 19 ls (.int i :: .ref a :: st) h k n = (oQld (qget h a) i (WP 11 G S f) 20 ls st h k n) := by rw [wp_s dd_11_19 rfl hs]; rfl
theorem dd_11_20 : decode (mB 11) 20 = .ok (.aload_n 1, 1) := by decide +kernel
theorem u_11_20 {G : aG} {S : Nat → Bool} {f : Nat} {st : List Value} {ls : aL} {h : aH} {k n : Nat} (hs : S 20 = false) : WP 11 G S (f + 1) 20 ls st h k n = (oA (lget ls 1) (WP 11 G S f) 21 ls st h k n) := by rw [wp_s dd_11_20 rfl hs]; rfl
theorem dd_11_21 : decode (mB 11) 21 = .ok (.iload_n 2, 1) := by decide +kernel
theorem u_11_21 {G : aG} {S : Nat → Bool} {f : Nat} {st : List Value} {ls : aL} {h : aH} {k n : Nat} (hs : S 21 = false) : WP 11 G S (f + 1) 21 ls st h k n = (oI (lget ls 2) (WP 11 G S f) 22 ls st h k n) := by rw [wp_s dd_11_21 rfl hs]; rfl
theorem dd_11_22 : decode (mB 11) 22 = .ok (.laload, 1) := by decide +kernel
theorem u_11_22 {G : aG} {S : Nat → Bool} {f : Nat} {st : List Value} {ls : aL} {h : aH} {k n : Nat} {i : Int32} {a : Nat} (hs : S 22 = false) : WP 11 G S (f + 1) 22 ls (.int i :: .ref a :: st) h k n = (oJld (jget h a) i (WP 11 G S f) 23 ls st h k n) := by rw [wp_s dd_11_22 rfl hs]; rfl
theorem dd_11_23 : decode (mB 11) 23 = .ok (.invokevirtual 18, 3) := by decide +kernel
theorem u_11_23 {G : aG} {S : Nat → Bool} {f : Nat} {st : List Value} {ls : aL} {h : aH} {k n : Nat} {v1 : Value} {b : Nat} (hs : S 23 = false) : WP 11 G S (f + 1) 23 ls (v1 :: .ref b :: st) h k n = (rcv (hget h b) 2 ∧ CAL G (WP 11 G S f) 12 [.ref b, v1] 26 ls st h k n) := by rw [wp_s dd_11_23 rfl hs]; rfl
theorem dd_11_26 : decode (mB 11) 26 = .ok (.iinc 2 1, 3) := by decide +kernel
theorem u_11_26 {G : aG} {S : Nat → Bool} {f : Nat} {st : List Value} {ls : aL} {h : aH} {k n : Nat} (hs : S 26 = false) : WP 11 G S (f + 1) 26 ls st h k n = (oInc (lget ls 2) (nI 1) (WP 11 G S f) 2 29 ls st h k n) := by rw [wp_s dd_11_26 rfl hs]; rfl
theorem dd_11_29 : decode (mB 11) 29 = .ok (.goto (-27), 3) := by decide +kernel
theorem u_11_29 {G : aG} {S : Nat → Bool} {f : Nat} {st : List Value} {ls : aL} {h : aH} {k n : Nat} (hs : S 29 = false) : WP 11 G S (f + 1) 29 ls st h k n = (WP 11 G S f 2 ls st h k n) := by rw [wp_s dd_11_29 rfl hs]; rfl
theorem dd_11_32 : decode (mB 11) 32 = .ok (.return_, 1) := by decide +kernel
theorem u_11_32 {G : aG} {S : Nat → Bool} {f : Nat} {ls : aL} {h : aH} {k n : Nat} (hs : S 32 = false) : WP 11 G S (f + 1) 32 ls [] h k n = (RET G none h k n) := by rw [wp_s dd_11_32 rfl hs]; rfl
theorem dd_12_0 : decode (mB 12) 0 = .ok (.aload_n 0, 1) := by decide +kernel
theorem u_12_0 {G : aG} {S : Nat → Bool} {f : Nat} {st : List Value} {ls : aL} {h : aH} {k n : Nat} (hs : S 0 = false) : WP 12 G S (f + 1) 0 ls st h k n = (oA (lget ls 0) (WP 12 G S f) 1 ls st h k n) := by rw [wp_s dd_12_0 rfl hs]; rfl
theorem dd_12_1 : decode (mB 12) 1 = .ok (.getfield 41, 3) := by decide +kernel
theorem u_12_1 {G : aG} {S : Nat → Bool} {f : Nat} {st : List Value} {ls : aL} {h : aH} {k n : Nat} {a : Nat} (hs : S 1 = false) : WP 12 G S (f + 1) 1 ls (.ref a :: st) h k n = (oV (fget h a 2 1) (WP 12 G S f) 4 ls st h k n) := by rw [wp_s dd_12_1 rfl hs]; rfl
theorem dd_12_4 : decode (mB 12) 4 = .ok (.lload_n 1, 1) := by decide +kernel
theorem u_12_4 {G : aG} {S : Nat → Bool} {f : Nat} {st : List Value} {ls : aL} {h : aH} {k n : Nat} (hs : S 4 = false) : WP 12 G S (f + 1) 4 ls st h k n = (oJ (lget ls 1) (WP 12 G S f) 5 ls st h k n) := by rw [wp_s dd_12_4 rfl hs]; rfl
theorem dd_12_5 : decode (mB 12) 5 = .ok (.lcmp, 1) := by decide +kernel
theorem u_12_5 {G : aG} {S : Nat → Bool} {f : Nat} {st : List Value} {ls : aL} {h : aH} {k n : Nat} {x y : Int64} (hs : S 5 = false) : WP 12 G S (f + 1) 5 ls (.long y :: .long x :: st) h k n = (WP 12 G S f 6 ls (.int (lg_cmp x y) :: st) h k n) := by rw [wp_s dd_12_5 rfl hs]; rfl
theorem dd_12_6 : decode (mB 12) 6 = .ok (.ifCond .ne 4, 3) := by decide +kernel
theorem u_12_6 {G : aG} {S : Nat → Bool} {f : Nat} {st : List Value} {ls : aL} {h : aH} {k n : Nat} {x : Int32} (hs : S 6 = false) : WP 12 G S (f + 1) 6 ls (.int x :: st) h k n = (if x = nI 0 then WP 12 G S f 9 ls st h k n else WP 12 G S f 10 ls st h k n) := by rw [wp_s dd_12_6 rfl hs]; exact br_iten (c := x = nI 0)
theorem dd_12_9 : decode (mB 12) 9 = .ok (.return_, 1) := by decide +kernel
theorem u_12_9 {G : aG} {S : Nat → Bool} {f : Nat} {ls : aL} {h : aH} {k n : Nat} (hs : S 9 = false) : WP 12 G S (f + 1) 9 ls [] h k n = (RET G none h k n) := by rw [wp_s dd_12_9 rfl hs]; rfl
theorem dd_12_10 : decode (mB 12) 10 = .ok (.aload_n 0, 1) := by decide +kernel
theorem u_12_10 {G : aG} {S : Nat → Bool} {f : Nat} {st : List Value} {ls : aL} {h : aH} {k n : Nat} (hs : S 10 = false) : WP 12 G S (f + 1) 10 ls st h k n = (oA (lget ls 0) (WP 12 G S f) 11 ls st h k n) := by rw [wp_s dd_12_10 rfl hs]; rfl
theorem dd_12_11 : decode (mB 12) 11 = .ok (.lload_n 1, 1) := by decide +kernel
theorem u_12_11 {G : aG} {S : Nat → Bool} {f : Nat} {st : List Value} {ls : aL} {h : aH} {k n : Nat} (hs : S 11 = false) : WP 12 G S (f + 1) 11 ls st h k n = (oJ (lget ls 1) (WP 12 G S f) 12 ls st h k n) := by rw [wp_s dd_12_11 rfl hs]; rfl
theorem dd_12_12 : decode (mB 12) 12 = .ok (.putfield 41, 3) := by decide +kernel
theorem u_12_12 {G : aG} {S : Nat → Bool} {f : Nat} {st : List Value} {ls : aL} {h : aH} {k n : Nat} {a : Nat} {x : Int64} (hs : S 12 = false) : WP 12 G S (f + 1) 12 ls (.long x :: .ref a :: st) h k n = (oH (fput h a 2 1 (.long x)) (WP 12 G S f) 15 ls st k n) := by rw [wp_s dd_12_12 rfl hs]; rfl
theorem dd_12_15 : decode (mB 12) 15 = .ok (.aload_n 0, 1) := by decide +kernel
theorem u_12_15 {G : aG} {S : Nat → Bool} {f : Nat} {st : List Value} {ls : aL} {h : aH} {k n : Nat} (hs : S 15 = false) : WP 12 G S (f + 1) 15 ls st h k n = (oA (lget ls 0) (WP 12 G S f) 16 ls st h k n) := by rw [wp_s dd_12_15 rfl hs]; rfl
theorem dd_12_16 : decode (mB 12) 16 = .ok (.getfield 12, 3) := by decide +kernel
theorem u_12_16 {G : aG} {S : Nat → Bool} {f : Nat} {st : List Value} {ls : aL} {h : aH} {k n : Nat} {a : Nat} (hs : S 16 = false) : WP 12 G S (f + 1) 16 ls (.ref a :: st) h k n = (oV (fget h a 2 0) (WP 12 G S f) 19 ls st h k n) := by rw [wp_s dd_12_16 rfl hs]; rfl
theorem dd_12_19 : decode (mB 12) 19 = .ok (.lload_n 1, 1) := by decide +kernel
theorem u_12_19 {G : aG} {S : Nat → Bool} {f : Nat} {st : List Value} {ls : aL} {h : aH} {k n : Nat} (hs : S 19 = false) : WP 12 G S (f + 1) 19 ls st h k n = (oJ (lget ls 1) (WP 12 G S f) 20 ls st h k n) := by rw [wp_s dd_12_19 rfl hs]; rfl
theorem dd_12_20 : decode (mB 12) 20 = .ok (.invokevirtual 45, 3) := by decide +kernel
theorem u_12_20 {G : aG} {S : Nat → Bool} {f : Nat} {st : List Value} {ls : aL} {h : aH} {k n : Nat} {v1 : Value} {b : Nat} (hs : S 20 = false) : WP 12 G S (f + 1) 20 ls (v1 :: .ref b :: st) h k n = (rcv (hget h b) 5 ∧ CAL G (WP 12 G S f) 13 [.ref b, v1] 23 ls st h k n) := by rw [wp_s dd_12_20 rfl hs]; rfl
theorem dd_12_23 : decode (mB 12) 23 = .ok (.aload_n 0, 1) := by decide +kernel
theorem u_12_23 {G : aG} {S : Nat → Bool} {f : Nat} {st : List Value} {ls : aL} {h : aH} {k n : Nat} (hs : S 23 = false) : WP 12 G S (f + 1) 23 ls st h k n = (oA (lget ls 0) (WP 12 G S f) 24 ls st h k n) := by rw [wp_s dd_12_23 rfl hs]; rfl
theorem dd_12_24 : decode (mB 12) 24 = .ok (.getfield 12, 3) := by decide +kernel
theorem u_12_24 {G : aG} {S : Nat → Bool} {f : Nat} {st : List Value} {ls : aL} {h : aH} {k n : Nat} {a : Nat} (hs : S 24 = false) : WP 12 G S (f + 1) 24 ls (.ref a :: st) h k n = (oV (fget h a 2 0) (WP 12 G S f) 27 ls st h k n) := by rw [wp_s dd_12_24 rfl hs]; rfl
theorem dd_12_27 : decode (mB 12) 27 = .ok (.invokevirtual 49, 3) := by decide +kernel
theorem u_12_27 {G : aG} {S : Nat → Bool} {f : Nat} {st : List Value} {ls : aL} {h : aH} {k n : Nat} {b : Nat} (hs : S 27 = false) : WP 12 G S (f + 1) 27 ls (.ref b :: st) h k n = (rcv (hget h b) 5 ∧ CAL G (WP 12 G S f) 16 [.ref b] 30 ls st h k n) := by rw [wp_s dd_12_27 rfl hs]; rfl
theorem dd_12_30 : decode (mB 12) 30 = .ok (.aload_n 0, 1) := by decide +kernel
theorem u_12_30 {G : aG} {S : Nat → Bool} {f : Nat} {st : List Value} {ls : aL} {h : aH} {k n : Nat} (hs : S 30 = false) : WP 12 G S (f + 1) 30 ls st h k n = (oA (lget ls 0) (WP 12 G S f) 31 ls st h k n) := by rw [wp_s dd_12_30 rfl hs]; rfl
theorem dd_12_31 : decode (mB 12) 31 = .ok (.getfield 12, 3) := by decide +kernel
theorem u_12_31 {G : aG} {S : Nat → Bool} {f : Nat} {st : List Value} {ls : aL} {h : aH} {k n : Nat} {a : Nat} (hs : S 31 = false) : WP 12 G S (f + 1) 31 ls (.ref a :: st) h k n = (oV (fget h a 2 0) (WP 12 G S f) 34 ls st h k n) := by rw [wp_s dd_12_31 rfl hs]; rfl
theorem dd_12_34 : decode (mB 12) 34 = .ok (.invokevirtual 52, 3) := by decide +kernel
theorem u_12_34 {G : aG} {S : Nat → Bool} {f : Nat} {st : List Value} {ls : aL} {h : aH} {k n : Nat} {b : Nat} (hs : S 34 = false) : WP 12 G S (f + 1) 34 ls (.ref b :: st) h k n = (rcv (hget h b) 5 ∧ CAL G (WP 12 G S f) 18 [.ref b] 37 ls st h k n) := by rw [wp_s dd_12_34 rfl hs]; rfl
theorem dd_12_37 : decode (mB 12) 37 = .ok (.aload_n 0, 1) := by decide +kernel
theorem u_12_37 {G : aG} {S : Nat → Bool} {f : Nat} {st : List Value} {ls : aL} {h : aH} {k n : Nat} (hs : S 37 = false) : WP 12 G S (f + 1) 37 ls st h k n = (oA (lget ls 0) (WP 12 G S f) 38 ls st h k n) := by rw [wp_s dd_12_37 rfl hs]; rfl
theorem dd_12_38 : decode (mB 12) 38 = .ok (.iconst 1, 1) := by decide +kernel
theorem u_12_38 {G : aG} {S : Nat → Bool} {f : Nat} {st : List Value} {ls : aL} {h : aH} {k n : Nat} (hs : S 38 = false) : WP 12 G S (f + 1) 38 ls st h k n = (WP 12 G S f 39 ls (.int (nI 1) :: st) h k n) := by rw [wp_s dd_12_38 rfl hs]; rfl
theorem dd_12_39 : decode (mB 12) 39 = .ok (.iconst 4, 1) := by decide +kernel
theorem u_12_39 {G : aG} {S : Nat → Bool} {f : Nat} {st : List Value} {ls : aL} {h : aH} {k n : Nat} (hs : S 39 = false) : WP 12 G S (f + 1) 39 ls st h k n = (WP 12 G S f 40 ls (.int (nI 4) :: st) h k n) := by rw [wp_s dd_12_39 rfl hs]; rfl
theorem dd_12_40 : decode (mB 12) 40 = .ok (.aload_n 0, 1) := by decide +kernel
theorem u_12_40 {G : aG} {S : Nat → Bool} {f : Nat} {st : List Value} {ls : aL} {h : aH} {k n : Nat} (hs : S 40 = false) : WP 12 G S (f + 1) 40 ls st h k n = (oA (lget ls 0) (WP 12 G S f) 41 ls st h k n) := by rw [wp_s dd_12_40 rfl hs]; rfl
theorem dd_12_41 : decode (mB 12) 41 = .ok (.getfield 12, 3) := by decide +kernel
theorem u_12_41 {G : aG} {S : Nat → Bool} {f : Nat} {st : List Value} {ls : aL} {h : aH} {k n : Nat} {a : Nat} (hs : S 41 = false) : WP 12 G S (f + 1) 41 ls (.ref a :: st) h k n = (oV (fget h a 2 0) (WP 12 G S f) 44 ls st h k n) := by rw [wp_s dd_12_41 rfl hs]; rfl
theorem dd_12_44 : decode (mB 12) 44 = .ok (.getfield 55, 3) := by decide +kernel
theorem u_12_44 {G : aG} {S : Nat → Bool} {f : Nat} {st : List Value} {ls : aL} {h : aH} {k n : Nat} {a : Nat} (hs : S 44 = false) : WP 12 G S (f + 1) 44 ls (.ref a :: st) h k n = (oV (fget h a 5 6) (WP 12 G S f) 47 ls st h k n) := by rw [wp_s dd_12_44 rfl hs]; rfl
theorem dd_12_47 : decode (mB 12) 47 = .ok (.bipush 63, 2) := by decide +kernel
theorem u_12_47 {G : aG} {S : Nat → Bool} {f : Nat} {st : List Value} {ls : aL} {h : aH} {k n : Nat} (hs : S 47 = false) : WP 12 G S (f + 1) 47 ls st h k n = (WP 12 G S f 49 ls (.int (nI 63) :: st) h k n) := by rw [wp_s dd_12_47 rfl hs]; rfl
theorem dd_12_49 : decode (mB 12) 49 = .ok (.iadd, 1) := by decide +kernel
theorem u_12_49 {G : aG} {S : Nat → Bool} {f : Nat} {st : List Value} {ls : aL} {h : aH} {k n : Nat} {x y : Int32} (hs : S 49 = false) : WP 12 G S (f + 1) 49 ls (.int y :: .int x :: st) h k n = (WP 12 G S f 50 ls (.int (x + y) :: st) h k n) := by rw [wp_s dd_12_49 rfl hs]; rfl
theorem dd_12_50 : decode (mB 12) 50 = .ok (.bipush 6, 2) := by decide +kernel
theorem u_12_50 {G : aG} {S : Nat → Bool} {f : Nat} {st : List Value} {ls : aL} {h : aH} {k n : Nat} (hs : S 50 = false) : WP 12 G S (f + 1) 50 ls st h k n = (WP 12 G S f 52 ls (.int (nI 6) :: st) h k n) := by rw [wp_s dd_12_50 rfl hs]; rfl
theorem dd_12_52 : decode (mB 12) 52 = .ok (.ishr, 1) := by decide +kernel
theorem u_12_52 {G : aG} {S : Nat → Bool} {f : Nat} {st : List Value} {ls : aL} {h : aH} {k n : Nat} {x y : Int32} (hs : S 52 = false) : WP 12 G S (f + 1) 52 ls (.int y :: .int x :: st) h k n = (WP 12 G S f 53 ls (.int (x >>> (y &&& 31)) :: st) h k n) := by rw [wp_s dd_12_52 rfl hs]; rfl
theorem dd_12_53 : decode (mB 12) 53 = .ok (.invokestatic 59, 3) := by decide +kernel
theorem u_12_53 {G : aG} {S : Nat → Bool} {f : Nat} {st : List Value} {ls : aL} {h : aH} {k n : Nat} {v1 v2 : Value} (hs : S 53 = false) : WP 12 G S (f + 1) 53 ls (v2 :: v1 :: st) h k n = (CAL G (WP 12 G S f) 15 [v1, v2] 56 ls st h k n) := by rw [wp_s dd_12_53 rfl hs]; rfl
theorem dd_12_56 : decode (mB 12) 56 = .ok (.invokestatic 65, 3) := by decide +kernel
theorem u_12_56 {G : aG} {S : Nat → Bool} {f : Nat} {st : List Value} {ls : aL} {h : aH} {k n : Nat} {v1 v2 : Value} (hs : S 56 = false) : WP 12 G S (f + 1) 56 ls (v2 :: v1 :: st) h k n = (CAL G (WP 12 G S f) 25 [v1, v2] 59 ls st h k n) := by rw [wp_s dd_12_56 rfl hs]; rfl
theorem dd_12_59 : decode (mB 12) 59 = .ok (.putfield 68, 3) := by decide +kernel
theorem u_12_59 {G : aG} {S : Nat → Bool} {f : Nat} {st : List Value} {ls : aL} {h : aH} {k n : Nat} {a : Nat} {x : Int32} (hs : S 59 = false) : WP 12 G S (f + 1) 59 ls (.int x :: .ref a :: st) h k n = (oH (fput h a 2 2 (.int x)) (WP 12 G S f) 62 ls st k n) := by rw [wp_s dd_12_59 rfl hs]; rfl
theorem dd_12_62 : decode (mB 12) 62 = .ok (.aload_n 0, 1) := by decide +kernel
theorem u_12_62 {G : aG} {S : Nat → Bool} {f : Nat} {st : List Value} {ls : aL} {h : aH} {k n : Nat} (hs : S 62 = false) : WP 12 G S (f + 1) 62 ls st h k n = (oA (lget ls 0) (WP 12 G S f) 63 ls st h k n) := by rw [wp_s dd_12_62 rfl hs]; rfl
theorem dd_12_63 : decode (mB 12) 63 = .ok (.iconst 0, 1) := by decide +kernel
theorem u_12_63 {G : aG} {S : Nat → Bool} {f : Nat} {st : List Value} {ls : aL} {h : aH} {k n : Nat} (hs : S 63 = false) : WP 12 G S (f + 1) 63 ls st h k n = (WP 12 G S f 64 ls (.int (nI 0) :: st) h k n) := by rw [wp_s dd_12_63 rfl hs]; rfl
theorem dd_12_64 : decode (mB 12) 64 = .ok (.putfield 71, 3) := by decide +kernel
theorem u_12_64 {G : aG} {S : Nat → Bool} {f : Nat} {st : List Value} {ls : aL} {h : aH} {k n : Nat} {a : Nat} {x : Int32} (hs : S 64 = false) : WP 12 G S (f + 1) 64 ls (.int x :: .ref a :: st) h k n = (oH (fput h a 2 3 (.int x)) (WP 12 G S f) 67 ls st k n) := by rw [wp_s dd_12_64 rfl hs]; rfl
theorem dd_12_67 : decode (mB 12) 67 = .ok (.aload_n 0, 1) := by decide +kernel
theorem u_12_67 {G : aG} {S : Nat → Bool} {f : Nat} {st : List Value} {ls : aL} {h : aH} {k n : Nat} (hs : S 67 = false) : WP 12 G S (f + 1) 67 ls st h k n = (oA (lget ls 0) (WP 12 G S f) 68 ls st h k n) := by rw [wp_s dd_12_67 rfl hs]; rfl
theorem dd_12_68 : decode (mB 12) 68 = .ok (.iconst (-1), 1) := by decide +kernel
theorem u_12_68 {G : aG} {S : Nat → Bool} {f : Nat} {st : List Value} {ls : aL} {h : aH} {k n : Nat} (hs : S 68 = false) : WP 12 G S (f + 1) 68 ls st h k n = (WP 12 G S f 69 ls (.int (-1) :: st) h k n) := by rw [wp_s dd_12_68 rfl hs]; rfl
theorem dd_12_69 : decode (mB 12) 69 = .ok (.putfield 74, 3) := by decide +kernel
theorem u_12_69 {G : aG} {S : Nat → Bool} {f : Nat} {st : List Value} {ls : aL} {h : aH} {k n : Nat} {a : Nat} {x : Int32} (hs : S 69 = false) : WP 12 G S (f + 1) 69 ls (.int x :: .ref a :: st) h k n = (oH (fput h a 2 12 (.int x)) (WP 12 G S f) 72 ls st k n) := by rw [wp_s dd_12_69 rfl hs]; rfl
theorem dd_12_72 : decode (mB 12) 72 = .ok (.aload_n 0, 1) := by decide +kernel
theorem u_12_72 {G : aG} {S : Nat → Bool} {f : Nat} {st : List Value} {ls : aL} {h : aH} {k n : Nat} (hs : S 72 = false) : WP 12 G S (f + 1) 72 ls st h k n = (oA (lget ls 0) (WP 12 G S f) 73 ls st h k n) := by rw [wp_s dd_12_72 rfl hs]; rfl
theorem dd_12_73 : decode (mB 12) 73 = .ok (.getfield 32, 3) := by decide +kernel
theorem u_12_73 {G : aG} {S : Nat → Bool} {f : Nat} {st : List Value} {ls : aL} {h : aH} {k n : Nat} {a : Nat} (hs : S 73 = false) : WP 12 G S (f + 1) 73 ls (.ref a :: st) h k n = (oV (fget h a 2 8) (WP 12 G S f) 76 ls st h k n) := by rw [wp_s dd_12_73 rfl hs]; rfl
theorem dd_12_76 : decode (mB 12) 76 = .ok (.iconst (-1), 1) := by decide +kernel
theorem u_12_76 {G : aG} {S : Nat → Bool} {f : Nat} {st : List Value} {ls : aL} {h : aH} {k n : Nat} (hs : S 76 = false) : WP 12 G S (f + 1) 76 ls st h k n = (WP 12 G S f 77 ls (.int (-1) :: st) h k n) := by rw [wp_s dd_12_76 rfl hs]; rfl
theorem dd_12_77 : decode (mB 12) 77 = .ok (.invokestatic 77, 3) := by decide +kernel
theorem u_12_77 {G : aG} {S : Nat → Bool} {f : Nat} {st : List Value} {ls : aL} {h : aH} {k n : Nat} {v1 v2 : Value} (hs : S 77 = false) : WP 12 G S (f + 1) 77 ls (v2 :: v1 :: st) h k n = (CAL G (WP 12 G S f) 26 [v1, v2] 80 ls st h k n) := by rw [wp_s dd_12_77 rfl hs]; rfl
theorem dd_12_80 : decode (mB 12) 80 = .ok (.aload_n 0, 1) := by decide +kernel
theorem u_12_80 {G : aG} {S : Nat → Bool} {f : Nat} {st : List Value} {ls : aL} {h : aH} {k n : Nat} (hs : S 80 = false) : WP 12 G S (f + 1) 80 ls st h k n = (oA (lget ls 0) (WP 12 G S f) 81 ls st h k n) := by rw [wp_s dd_12_80 rfl hs]; rfl
theorem dd_12_81 : decode (mB 12) 81 = .ok (.getfield 35, 3) := by decide +kernel
theorem u_12_81 {G : aG} {S : Nat → Bool} {f : Nat} {st : List Value} {ls : aL} {h : aH} {k n : Nat} {a : Nat} (hs : S 81 = false) : WP 12 G S (f + 1) 81 ls (.ref a :: st) h k n = (oV (fget h a 2 9) (WP 12 G S f) 84 ls st h k n) := by rw [wp_s dd_12_81 rfl hs]; rfl
theorem dd_12_84 : decode (mB 12) 84 = .ok (.lconst 0, 1) := by decide +kernel
theorem u_12_84 {G : aG} {S : Nat → Bool} {f : Nat} {st : List Value} {ls : aL} {h : aH} {k n : Nat} (hs : S 84 = false) : WP 12 G S (f + 1) 84 ls st h k n = (WP 12 G S f 85 ls (.long (lN 0) :: st) h k n) := by rw [wp_s dd_12_84 rfl hs]; rfl
theorem dd_12_85 : decode (mB 12) 85 = .ok (.invokestatic 83, 3) := by decide +kernel
theorem u_12_85 {G : aG} {S : Nat → Bool} {f : Nat} {st : List Value} {ls : aL} {h : aH} {k n : Nat} {v1 v2 : Value} (hs : S 85 = false) : WP 12 G S (f + 1) 85 ls (v2 :: v1 :: st) h k n = (CAL G (WP 12 G S f) 3 [v1, v2] 88 ls st h k n) := by rw [wp_s dd_12_85 rfl hs]; rfl
theorem dd_12_88 : decode (mB 12) 88 = .ok (.aload_n 0, 1) := by decide +kernel
theorem u_12_88 {G : aG} {S : Nat → Bool} {f : Nat} {st : List Value} {ls : aL} {h : aH} {k n : Nat} (hs : S 88 = false) : WP 12 G S (f + 1) 88 ls st h k n = (oA (lget ls 0) (WP 12 G S f) 89 ls st h k n) := by rw [wp_s dd_12_88 rfl hs]; rfl
theorem dd_12_89 : decode (mB 12) 89 = .ok (.getfield 35, 3) := by decide +kernel
theorem u_12_89 {G : aG} {S : Nat → Bool} {f : Nat} {st : List Value} {ls : aL} {h : aH} {k n : Nat} {a : Nat} (hs : S 89 = false) : WP 12 G S (f + 1) 89 ls (.ref a :: st) h k n = (oV (fget h a 2 9) (WP 12 G S f) 92 ls st h k n) := by rw [wp_s dd_12_89 rfl hs]; rfl
theorem dd_12_92 : decode (mB 12) 92 = .ok (.iconst 0, 1) := by decide +kernel
theorem u_12_92 {G : aG} {S : Nat → Bool} {f : Nat} {st : List Value} {ls : aL} {h : aH} {k n : Nat} (hs : S 92 = false) : WP 12 G S (f + 1) 92 ls st h k n = (WP 12 G S f 93 ls (.int (nI 0) :: st) h k n) := by rw [wp_s dd_12_92 rfl hs]; rfl
theorem dd_12_93 : decode (mB 12) 93 = .ok (.lconst 1, 1) := by decide +kernel
theorem u_12_93 {G : aG} {S : Nat → Bool} {f : Nat} {st : List Value} {ls : aL} {h : aH} {k n : Nat} (hs : S 93 = false) : WP 12 G S (f + 1) 93 ls st h k n = (WP 12 G S f 94 ls (.long (lN 1) :: st) h k n) := by rw [wp_s dd_12_93 rfl hs]; rfl
theorem dd_12_94 : decode (mB 12) 94 = .ok (.lastore, 1) := by decide +kernel
theorem u_12_94 {G : aG} {S : Nat → Bool} {f : Nat} {st : List Value} {ls : aL} {h : aH} {k n : Nat} {i : Int32} {x : Int64} {a : Nat} (hs : S 94 = false) : WP 12 G S (f + 1) 94 ls (.long x :: .int i :: .ref a :: st) h k n = (oJst (jget h a) a i x (WP 12 G S f) 95 ls st h k n) := by rw [wp_s dd_12_94 rfl hs]; rfl
theorem dd_12_95 : decode (mB 12) 95 = .ok (.aload_n 0, 1) := by decide +kernel
theorem u_12_95 {G : aG} {S : Nat → Bool} {f : Nat} {st : List Value} {ls : aL} {h : aH} {k n : Nat} (hs : S 95 = false) : WP 12 G S (f + 1) 95 ls st h k n = (oA (lget ls 0) (WP 12 G S f) 96 ls st h k n) := by rw [wp_s dd_12_95 rfl hs]; rfl
theorem dd_12_96 : decode (mB 12) 96 = .ok (.aload_n 0, 1) := by decide +kernel
theorem u_12_96 {G : aG} {S : Nat → Bool} {f : Nat} {st : List Value} {ls : aL} {h : aH} {k n : Nat} (hs : S 96 = false) : WP 12 G S (f + 1) 96 ls st h k n = (oA (lget ls 0) (WP 12 G S f) 97 ls st h k n) := by rw [wp_s dd_12_96 rfl hs]; rfl
theorem dd_12_97 : decode (mB 12) 97 = .ok (.getfield 12, 3) := by decide +kernel
theorem u_12_97 {G : aG} {S : Nat → Bool} {f : Nat} {st : List Value} {ls : aL} {h : aH} {k n : Nat} {a : Nat} (hs : S 97 = false) : WP 12 G S (f + 1) 97 ls (.ref a :: st) h k n = (oV (fget h a 2 0) (WP 12 G S f) 100 ls st h k n) := by rw [wp_s dd_12_97 rfl hs]; rfl
theorem dd_12_100 : decode (mB 12) 100 = .ok (.getfield 86, 3) := by decide +kernel
theorem u_12_100 {G : aG} {S : Nat → Bool} {f : Nat} {st : List Value} {ls : aL} {h : aH} {k n : Nat} {a : Nat} (hs : S 100 = false) : WP 12 G S (f + 1) 100 ls (.ref a :: st) h k n = (oV (fget h a 5 8) (WP 12 G S f) 103 ls st h k n) := by rw [wp_s dd_12_100 rfl hs]; rfl
theorem dd_12_103 : decode (mB 12) 103 = .ok (.iconst 0, 1) := by decide +kernel
theorem u_12_103 {G : aG} {S : Nat → Bool} {f : Nat} {st : List Value} {ls : aL} {h : aH} {k n : Nat} (hs : S 103 = false) : WP 12 G S (f + 1) 103 ls st h k n = (WP 12 G S f 104 ls (.int (nI 0) :: st) h k n) := by rw [wp_s dd_12_103 rfl hs]; rfl
theorem dd_12_104 : decode (mB 12) 104 = .ok (.iaload, 1) := by decide +kernel
theorem u_12_104 {G : aG} {S : Nat → Bool} {f : Nat} {st : List Value} {ls : aL} {h : aH} {k n : Nat} {i : Int32} {a : Nat} (hs : S 104 = false) : WP 12 G S (f + 1) 104 ls (.int i :: .ref a :: st) h k n = (oIld (iget h a 1) i (WP 12 G S f) 105 ls st h k n) := by rw [wp_s dd_12_104 rfl hs]; rfl
theorem dd_12_105 : decode (mB 12) 105 = .ok (.putfield 87, 3) := by decide +kernel
theorem u_12_105 {G : aG} {S : Nat → Bool} {f : Nat} {st : List Value} {ls : aL} {h : aH} {k n : Nat} {a : Nat} {x : Int32} (hs : S 105 = false) : WP 12 G S (f + 1) 105 ls (.int x :: .ref a :: st) h k n = (oH (fput h a 2 10 (.int x)) (WP 12 G S f) 108 ls st k n) := by rw [wp_s dd_12_105 rfl hs]; rfl
theorem dd_12_108 : decode (mB 12) 108 = .ok (.aload_n 0, 1) := by decide +kernel
theorem u_12_108 {G : aG} {S : Nat → Bool} {f : Nat} {st : List Value} {ls : aL} {h : aH} {k n : Nat} (hs : S 108 = false) : WP 12 G S (f + 1) 108 ls st h k n = (oA (lget ls 0) (WP 12 G S f) 109 ls st h k n) := by rw [wp_s dd_12_108 rfl hs]; rfl
theorem dd_12_109 : decode (mB 12) 109 = .ok (.invokevirtual 90, 3) := by decide +kernel
theorem u_12_109 {G : aG} {S : Nat → Bool} {f : Nat} {st : List Value} {ls : aL} {h : aH} {k n : Nat} {b : Nat} (hs : S 109 = false) : WP 12 G S (f + 1) 109 ls (.ref b :: st) h k n = (rcv (hget h b) 2 ∧ CAL G (WP 12 G S f) 27 [.ref b] 112 ls st h k n) := by rw [wp_s dd_12_109 rfl hs]; rfl
theorem dd_12_112 : decode (mB 12) 112 = .ok (.pop, 1) := by decide +kernel
theorem u_12_112 {G : aG} {S : Nat → Bool} {f : Nat} {st : List Value} {ls : aL} {h : aH} {k n : Nat} {v : Value} (hs : S 112 = false) : WP 12 G S (f + 1) 112 ls (v :: st) h k n = (cond (cat1 v) (WP 12 G S f 113 ls st h k n) False) := by rw [wp_s dd_12_112 rfl hs]; rfl
theorem dd_12_113 : decode (mB 12) 113 = .ok (.return_, 1) := by decide +kernel
theorem u_12_113 {G : aG} {S : Nat → Bool} {f : Nat} {ls : aL} {h : aH} {k n : Nat} (hs : S 113 = false) : WP 12 G S (f + 1) 113 ls [] h k n = (RET G none h k n) := by rw [wp_s dd_12_113 rfl hs]; rfl
theorem dd_27_0 : decode (mB 27) 0 = .ok (.aload_n 0, 1) := by decide +kernel
theorem u_27_0 {G : aG} {S : Nat → Bool} {f : Nat} {st : List Value} {ls : aL} {h : aH} {k n : Nat} (hs : S 0 = false) : WP 27 G S (f + 1) 0 ls st h k n = (oA (lget ls 0) (WP 27 G S f) 1 ls st h k n) := by rw [wp_s dd_27_0 rfl hs]; rfl
theorem dd_27_1 : decode (mB 27) 1 = .ok (.invokevirtual 119, 3) := by decide +kernel
theorem u_27_1 {G : aG} {S : Nat → Bool} {f : Nat} {st : List Value} {ls : aL} {h : aH} {k n : Nat} {b : Nat} (hs : S 1 = false) : WP 27 G S (f + 1) 1 ls (.ref b :: st) h k n = (rcv (hget h b) 2 ∧ CAL G (WP 27 G S f) 28 [.ref b] 4 ls st h k n) := by rw [wp_s dd_27_1 rfl hs]; rfl
theorem dd_27_4 : decode (mB 27) 4 = .ok (.istore_n 1, 1) := by decide +kernel
theorem u_27_4 {G : aG} {S : Nat → Bool} {f : Nat} {st : List Value} {ls : aL} {h : aH} {k n : Nat} {x : Int32} (hs : S 4 = false) : WP 27 G S (f + 1) 4 ls (.int x :: st) h k n = (WP 27 G S f 5 (lput1 ls 1 (.int x)) st h k n) := by rw [wp_s dd_27_4 rfl hs]; rfl
theorem dd_27_5 : decode (mB 27) 5 = .ok (.aload_n 0, 1) := by decide +kernel
theorem u_27_5 {G : aG} {S : Nat → Bool} {f : Nat} {st : List Value} {ls : aL} {h : aH} {k n : Nat} (hs : S 5 = false) : WP 27 G S (f + 1) 5 ls st h k n = (oA (lget ls 0) (WP 27 G S f) 6 ls st h k n) := by rw [wp_s dd_27_5 rfl hs]; rfl
theorem dd_27_6 : decode (mB 27) 6 = .ok (.getfield 32, 3) := by decide +kernel
theorem u_27_6 {G : aG} {S : Nat → Bool} {f : Nat} {st : List Value} {ls : aL} {h : aH} {k n : Nat} {a : Nat} (hs : S 6 = false) : WP 27 G S (f + 1) 6 ls (.ref a :: st) h k n = (oV (fget h a 2 8) (WP 27 G S f) 9 ls st h k n) := by rw [wp_s dd_27_6 rfl hs]; rfl
theorem dd_27_9 : decode (mB 27) 9 = .ok (.iload_n 1, 1) := by decide +kernel
theorem u_27_9 {G : aG} {S : Nat → Bool} {f : Nat} {st : List Value} {ls : aL} {h : aH} {k n : Nat} (hs : S 9 = false) : WP 27 G S (f + 1) 9 ls st h k n = (oI (lget ls 1) (WP 27 G S f) 10 ls st h k n) := by rw [wp_s dd_27_9 rfl hs]; rfl
theorem dd_27_10 : decode (mB 27) 10 = .ok (.iaload, 1) := by decide +kernel
theorem u_27_10 {G : aG} {S : Nat → Bool} {f : Nat} {st : List Value} {ls : aL} {h : aH} {k n : Nat} {i : Int32} {a : Nat} (hs : S 10 = false) : WP 27 G S (f + 1) 10 ls (.int i :: .ref a :: st) h k n = (oIld (iget h a 1) i (WP 27 G S f) 11 ls st h k n) := by rw [wp_s dd_27_10 rfl hs]; rfl
theorem dd_27_11 : decode (mB 27) 11 = .ok (.istore_n 2, 1) := by decide +kernel
theorem u_27_11 {G : aG} {S : Nat → Bool} {f : Nat} {st : List Value} {ls : aL} {h : aH} {k n : Nat} {x : Int32} (hs : S 11 = false) : WP 27 G S (f + 1) 11 ls (.int x :: st) h k n = (WP 27 G S f 12 (lput1 ls 2 (.int x)) st h k n) := by rw [wp_s dd_27_11 rfl hs]; rfl
theorem dd_27_12 : decode (mB 27) 12 = .ok (.iconst 0, 1) := by decide +kernel
theorem u_27_12 {G : aG} {S : Nat → Bool} {f : Nat} {st : List Value} {ls : aL} {h : aH} {k n : Nat} (hs : S 12 = false) : WP 27 G S (f + 1) 12 ls st h k n = (WP 27 G S f 13 ls (.int (nI 0) :: st) h k n) := by rw [wp_s dd_27_12 rfl hs]; rfl
theorem dd_27_13 : decode (mB 27) 13 = .ok (.istore_n 3, 1) := by decide +kernel
theorem u_27_13 {G : aG} {S : Nat → Bool} {f : Nat} {st : List Value} {ls : aL} {h : aH} {k n : Nat} {x : Int32} (hs : S 13 = false) : WP 27 G S (f + 1) 13 ls (.int x :: st) h k n = (WP 27 G S f 14 (lput1 ls 3 (.int x)) st h k n) := by rw [wp_s dd_27_13 rfl hs]; rfl
theorem dd_27_14 : decode (mB 27) 14 = .ok (.iload_n 3, 1) := by decide +kernel
theorem u_27_14 {G : aG} {S : Nat → Bool} {f : Nat} {st : List Value} {ls : aL} {h : aH} {k n : Nat} (hs : S 14 = false) : WP 27 G S (f + 1) 14 ls st h k n = (oI (lget ls 3) (WP 27 G S f) 15 ls st h k n) := by rw [wp_s dd_27_14 rfl hs]; rfl
theorem v_27_14 {G : aG} {S : Nat → Bool} {f : Nat} {st : List Value} {ls : aL} {h : aH} {k n : Nat} : WQ 27 G S f 14 ls st h k n = (oI (lget ls 3) (WP 27 G S f) 15 ls st h k n) := by rw [wq_s dd_27_14 rfl]; rfl
theorem dd_27_15 : decode (mB 27) 15 = .ok (.aload_n 0, 1) := by decide +kernel
theorem u_27_15 {G : aG} {S : Nat → Bool} {f : Nat} {st : List Value} {ls : aL} {h : aH} {k n : Nat} (hs : S 15 = false) : WP 27 G S (f + 1) 15 ls st h k n = (oA (lget ls 0) (WP 27 G S f) 16 ls st h k n) := by rw [wp_s dd_27_15 rfl hs]; rfl
theorem dd_27_16 : decode (mB 27) 16 = .ok (.getfield 71, 3) := by decide +kernel
theorem u_27_16 {G : aG} {S : Nat → Bool} {f : Nat} {st : List Value} {ls : aL} {h : aH} {k n : Nat} {a : Nat} (hs : S 16 = false) : WP 27 G S (f + 1) 16 ls (.ref a :: st) h k n = (oV (fget h a 2 3) (WP 27 G S f) 19 ls st h k n) := by rw [wp_s dd_27_16 rfl hs]; rfl
theorem dd_27_19 : decode (mB 27) 19 = .ok (.if_icmp .ge 38, 3) := by decide +kernel
theorem u_27_19 {G : aG} {S : Nat → Bool} {f : Nat} {st : List Value} {ls : aL} {h : aH} {k n : Nat} {x y : Int32} (hs : S 19 = false) : WP 27 G S (f + 1) 19 ls (.int y :: .int x :: st) h k n = (if y ≤ x then WP 27 G S f 57 ls st h k n else WP 27 G S f 22 ls st h k n) := by rw [wp_s dd_27_19 rfl hs]; exact br_ite (c := y ≤ x)
theorem dd_27_22 : decode (mB 27) 22 = .ok (.iload_n 2, 1) := by decide +kernel
theorem u_27_22 {G : aG} {S : Nat → Bool} {f : Nat} {st : List Value} {ls : aL} {h : aH} {k n : Nat} (hs : S 22 = false) : WP 27 G S (f + 1) 22 ls st h k n = (oI (lget ls 2) (WP 27 G S f) 23 ls st h k n) := by rw [wp_s dd_27_22 rfl hs]; rfl
theorem dd_27_23 : decode (mB 27) 23 = .ok (.ifCond .lt 34, 3) := by decide +kernel
theorem u_27_23 {G : aG} {S : Nat → Bool} {f : Nat} {st : List Value} {ls : aL} {h : aH} {k n : Nat} {x : Int32} (hs : S 23 = false) : WP 27 G S (f + 1) 23 ls (.int x :: st) h k n = (if x < nI 0 then WP 27 G S f 57 ls st h k n else WP 27 G S f 26 ls st h k n) := by rw [wp_s dd_27_23 rfl hs]; exact br_ite (c := x < nI 0)
theorem dd_27_26 : decode (mB 27) 26 = .ok (.iload_n 2, 1) := by decide +kernel
theorem u_27_26 {G : aG} {S : Nat → Bool} {f : Nat} {st : List Value} {ls : aL} {h : aH} {k n : Nat} (hs : S 26 = false) : WP 27 G S (f + 1) 26 ls st h k n = (oI (lget ls 2) (WP 27 G S f) 27 ls st h k n) := by rw [wp_s dd_27_26 rfl hs]; rfl
theorem dd_27_27 : decode (mB 27) 27 = .ok (.aload_n 0, 1) := by decide +kernel
theorem u_27_27 {G : aG} {S : Nat → Bool} {f : Nat} {st : List Value} {ls : aL} {h : aH} {k n : Nat} (hs : S 27 = false) : WP 27 G S (f + 1) 27 ls st h k n = (oA (lget ls 0) (WP 27 G S f) 28 ls st h k n) := by rw [wp_s dd_27_27 rfl hs]; rfl
theorem dd_27_28 : decode (mB 27) 28 = .ok (.getfield 71, 3) := by decide +kernel
theorem u_27_28 {G : aG} {S : Nat → Bool} {f : Nat} {st : List Value} {ls : aL} {h : aH} {k n : Nat} {a : Nat} (hs : S 28 = false) : WP 27 G S (f + 1) 28 ls (.ref a :: st) h k n = (oV (fget h a 2 3) (WP 27 G S f) 31 ls st h k n) := by rw [wp_s dd_27_28 rfl hs]; rfl
theorem dd_27_31 : decode (mB 27) 31 = .ok (.if_icmp .ge 26, 3) := by decide +kernel
theorem u_27_31 {G : aG} {S : Nat → Bool} {f : Nat} {st : List Value} {ls : aL} {h : aH} {k n : Nat} {x y : Int32} (hs : S 31 = false) : WP 27 G S (f + 1) 31 ls (.int y :: .int x :: st) h k n = (if y ≤ x then WP 27 G S f 57 ls st h k n else WP 27 G S f 34 ls st h k n) := by rw [wp_s dd_27_31 rfl hs]; exact br_ite (c := y ≤ x)
theorem dd_27_34 : decode (mB 27) 34 = .ok (.aload_n 0, 1) := by decide +kernel
theorem u_27_34 {G : aG} {S : Nat → Bool} {f : Nat} {st : List Value} {ls : aL} {h : aH} {k n : Nat} (hs : S 34 = false) : WP 27 G S (f + 1) 34 ls st h k n = (oA (lget ls 0) (WP 27 G S f) 35 ls st h k n) := by rw [wp_s dd_27_34 rfl hs]; rfl
theorem dd_27_35 : decode (mB 27) 35 = .ok (.iload_n 2, 1) := by decide +kernel
theorem u_27_35 {G : aG} {S : Nat → Bool} {f : Nat} {st : List Value} {ls : aL} {h : aH} {k n : Nat} (hs : S 35 = false) : WP 27 G S (f + 1) 35 ls st h k n = (oI (lget ls 2) (WP 27 G S f) 36 ls st h k n) := by rw [wp_s dd_27_35 rfl hs]; rfl
theorem dd_27_36 : decode (mB 27) 36 = .ok (.invokevirtual 122, 3) := by decide +kernel
theorem u_27_36 {G : aG} {S : Nat → Bool} {f : Nat} {st : List Value} {ls : aL} {h : aH} {k n : Nat} {v1 : Value} {b : Nat} (hs : S 36 = false) : WP 27 G S (f + 1) 36 ls (v1 :: .ref b :: st) h k n = (rcv (hget h b) 2 ∧ CAL G (WP 27 G S f) 29 [.ref b, v1] 39 ls st h k n) := by rw [wp_s dd_27_36 rfl hs]; rfl
theorem dd_27_39 : decode (mB 27) 39 = .ok (.ifCond .eq 5, 3) := by decide +kernel
theorem u_27_39 {G : aG} {S : Nat → Bool} {f : Nat} {st : List Value} {ls : aL} {h : aH} {k n : Nat} {x : Int32} (hs : S 39 = false) : WP 27 G S (f + 1) 39 ls (.int x :: st) h k n = (if x = nI 0 then WP 27 G S f 44 ls st h k n else WP 27 G S f 42 ls st h k n) := by rw [wp_s dd_27_39 rfl hs]; exact br_ite (c := x = nI 0)
theorem dd_27_42 : decode (mB 27) 42 = .ok (.iload_n 2, 1) := by decide +kernel
theorem u_27_42 {G : aG} {S : Nat → Bool} {f : Nat} {st : List Value} {ls : aL} {h : aH} {k n : Nat} (hs : S 42 = false) : WP 27 G S (f + 1) 42 ls st h k n = (oI (lget ls 2) (WP 27 G S f) 43 ls st h k n) := by rw [wp_s dd_27_42 rfl hs]; rfl
theorem dd_27_43 : decode (mB 27) 43 = .ok (.ireturn, 1) := by decide +kernel
theorem u_27_43 {G : aG} {S : Nat → Bool} {f : Nat} {ls : aL} {h : aH} {k n : Nat} {x : Int32} (hs : S 43 = false) : WP 27 G S (f + 1) 43 ls [.int x] h k n = (RET G (some (.int x)) h k n) := by rw [wp_s dd_27_43 rfl hs]; rfl
theorem dd_27_44 : decode (mB 27) 44 = .ok (.aload_n 0, 1) := by decide +kernel
theorem u_27_44 {G : aG} {S : Nat → Bool} {f : Nat} {st : List Value} {ls : aL} {h : aH} {k n : Nat} (hs : S 44 = false) : WP 27 G S (f + 1) 44 ls st h k n = (oA (lget ls 0) (WP 27 G S f) 45 ls st h k n) := by rw [wp_s dd_27_44 rfl hs]; rfl
theorem dd_27_45 : decode (mB 27) 45 = .ok (.getfield 29, 3) := by decide +kernel
theorem u_27_45 {G : aG} {S : Nat → Bool} {f : Nat} {st : List Value} {ls : aL} {h : aH} {k n : Nat} {a : Nat} (hs : S 45 = false) : WP 27 G S (f + 1) 45 ls (.ref a :: st) h k n = (oV (fget h a 2 7) (WP 27 G S f) 48 ls st h k n) := by rw [wp_s dd_27_45 rfl hs]; rfl
theorem dd_27_48 : decode (mB 27) 48 = .ok (.iload_n 2, 1) := by decide +kernel
theorem u_27_48 {G : aG} {S : Nat → Bool} {f : Nat} {st : List Value} {ls : aL} {h : aH} {k n : Nat} (hs : S 48 = false) : WP 27 G S (f + 1) 48 ls st h k n = (oI (lget ls 2) (WP 27 G S f) 49 ls st h k n) := by rw [wp_s dd_27_48 rfl hs]; rfl
theorem dd_27_49 : decode (mB 27) 49 = .ok (.iaload, 1) := by decide +kernel
theorem u_27_49 {G : aG} {S : Nat → Bool} {f : Nat} {st : List Value} {ls : aL} {h : aH} {k n : Nat} {i : Int32} {a : Nat} (hs : S 49 = false) : WP 27 G S (f + 1) 49 ls (.int i :: .ref a :: st) h k n = (oIld (iget h a 1) i (WP 27 G S f) 50 ls st h k n) := by rw [wp_s dd_27_49 rfl hs]; rfl
theorem dd_27_50 : decode (mB 27) 50 = .ok (.istore_n 2, 1) := by decide +kernel
theorem u_27_50 {G : aG} {S : Nat → Bool} {f : Nat} {st : List Value} {ls : aL} {h : aH} {k n : Nat} {x : Int32} (hs : S 50 = false) : WP 27 G S (f + 1) 50 ls (.int x :: st) h k n = (WP 27 G S f 51 (lput1 ls 2 (.int x)) st h k n) := by rw [wp_s dd_27_50 rfl hs]; rfl
theorem dd_27_51 : decode (mB 27) 51 = .ok (.iinc 3 1, 3) := by decide +kernel
theorem u_27_51 {G : aG} {S : Nat → Bool} {f : Nat} {st : List Value} {ls : aL} {h : aH} {k n : Nat} (hs : S 51 = false) : WP 27 G S (f + 1) 51 ls st h k n = (oInc (lget ls 3) (nI 1) (WP 27 G S f) 3 54 ls st h k n) := by rw [wp_s dd_27_51 rfl hs]; rfl
theorem dd_27_54 : decode (mB 27) 54 = .ok (.goto (-40), 3) := by decide +kernel
theorem u_27_54 {G : aG} {S : Nat → Bool} {f : Nat} {st : List Value} {ls : aL} {h : aH} {k n : Nat} (hs : S 54 = false) : WP 27 G S (f + 1) 54 ls st h k n = (WP 27 G S f 14 ls st h k n) := by rw [wp_s dd_27_54 rfl hs]; rfl
theorem dd_27_57 : decode (mB 27) 57 = .ok (.aload_n 0, 1) := by decide +kernel
theorem u_27_57 {G : aG} {S : Nat → Bool} {f : Nat} {st : List Value} {ls : aL} {h : aH} {k n : Nat} (hs : S 57 = false) : WP 27 G S (f + 1) 57 ls st h k n = (oA (lget ls 0) (WP 27 G S f) 58 ls st h k n) := by rw [wp_s dd_27_57 rfl hs]; rfl
theorem dd_27_58 : decode (mB 27) 58 = .ok (.getfield 71, 3) := by decide +kernel
theorem u_27_58 {G : aG} {S : Nat → Bool} {f : Nat} {st : List Value} {ls : aL} {h : aH} {k n : Nat} {a : Nat} (hs : S 58 = false) : WP 27 G S (f + 1) 58 ls (.ref a :: st) h k n = (oV (fget h a 2 3) (WP 27 G S f) 61 ls st h k n) := by rw [wp_s dd_27_58 rfl hs]; rfl
theorem dd_27_61 : decode (mB 27) 61 = .ok (.ldc 126, 2) := by decide +kernel
theorem u_27_61 {G : aG} {S : Nat → Bool} {f : Nat} {st : List Value} {ls : aL} {h : aH} {k n : Nat} (hs : S 61 = false) : WP 27 G S (f + 1) 61 ls st h k n = (WP 27 G S f 63 ls (.int (nI 65536) :: st) h k n) := by rw [wp_s dd_27_61 rfl hs]; rfl
theorem dd_27_63 : decode (mB 27) 63 = .ok (.if_icmp .ge 11, 3) := by decide +kernel
theorem u_27_63 {G : aG} {S : Nat → Bool} {f : Nat} {st : List Value} {ls : aL} {h : aH} {k n : Nat} {x y : Int32} (hs : S 63 = false) : WP 27 G S (f + 1) 63 ls (.int y :: .int x :: st) h k n = (if y ≤ x then WP 27 G S f 74 ls st h k n else WP 27 G S f 66 ls st h k n) := by rw [wp_s dd_27_63 rfl hs]; exact br_ite (c := y ≤ x)
theorem dd_27_66 : decode (mB 27) 66 = .ok (.aload_n 0, 1) := by decide +kernel
theorem u_27_66 {G : aG} {S : Nat → Bool} {f : Nat} {st : List Value} {ls : aL} {h : aH} {k n : Nat} (hs : S 66 = false) : WP 27 G S (f + 1) 66 ls st h k n = (oA (lget ls 0) (WP 27 G S f) 67 ls st h k n) := by rw [wp_s dd_27_66 rfl hs]; rfl
theorem dd_27_67 : decode (mB 27) 67 = .ok (.iload_n 1, 1) := by decide +kernel
theorem u_27_67 {G : aG} {S : Nat → Bool} {f : Nat} {st : List Value} {ls : aL} {h : aH} {k n : Nat} (hs : S 67 = false) : WP 27 G S (f + 1) 67 ls st h k n = (oI (lget ls 1) (WP 27 G S f) 68 ls st h k n) := by rw [wp_s dd_27_67 rfl hs]; rfl
theorem dd_27_68 : decode (mB 27) 68 = .ok (.invokevirtual 127, 3) := by decide +kernel
theorem u_27_68 {G : aG} {S : Nat → Bool} {f : Nat} {st : List Value} {ls : aL} {h : aH} {k n : Nat} {v1 : Value} {b : Nat} (hs : S 68 = false) : WP 27 G S (f + 1) 68 ls (v1 :: .ref b :: st) h k n = (rcv (hget h b) 2 ∧ CAL G (WP 27 G S f) 30 [.ref b, v1] 71 ls st h k n) := by rw [wp_s dd_27_68 rfl hs]; rfl
theorem dd_27_71 : decode (mB 27) 71 = .ok (.goto 4, 3) := by decide +kernel
theorem u_27_71 {G : aG} {S : Nat → Bool} {f : Nat} {st : List Value} {ls : aL} {h : aH} {k n : Nat} (hs : S 71 = false) : WP 27 G S (f + 1) 71 ls st h k n = (WP 27 G S f 75 ls st h k n) := by rw [wp_s dd_27_71 rfl hs]; rfl
theorem dd_27_74 : decode (mB 27) 74 = .ok (.iconst (-1), 1) := by decide +kernel
theorem u_27_74 {G : aG} {S : Nat → Bool} {f : Nat} {st : List Value} {ls : aL} {h : aH} {k n : Nat} (hs : S 74 = false) : WP 27 G S (f + 1) 74 ls st h k n = (WP 27 G S f 75 ls (.int (-1) :: st) h k n) := by rw [wp_s dd_27_74 rfl hs]; rfl
theorem dd_27_75 : decode (mB 27) 75 = .ok (.ireturn, 1) := by decide +kernel
theorem u_27_75 {G : aG} {S : Nat → Bool} {f : Nat} {ls : aL} {h : aH} {k n : Nat} {x : Int32} (hs : S 75 = false) : WP 27 G S (f + 1) 75 ls [.int x] h k n = (RET G (some (.int x)) h k n) := by rw [wp_s dd_27_75 rfl hs]; rfl
theorem dd_28_0 : decode (mB 28) 0 = .ok (.lconst 0, 1) := by decide +kernel
theorem u_28_0 {G : aG} {S : Nat → Bool} {f : Nat} {st : List Value} {ls : aL} {h : aH} {k n : Nat} (hs : S 0 = false) : WP 28 G S (f + 1) 0 ls st h k n = (WP 28 G S f 1 ls (.long (lN 0) :: st) h k n) := by rw [wp_s dd_28_0 rfl hs]; rfl
theorem dd_28_1 : decode (mB 28) 1 = .ok (.lstore_n 1, 1) := by decide +kernel
theorem u_28_1 {G : aG} {S : Nat → Bool} {f : Nat} {st : List Value} {ls : aL} {h : aH} {k n : Nat} {x : Int64} (hs : S 1 = false) : WP 28 G S (f + 1) 1 ls (.long x :: st) h k n = (WP 28 G S f 2 (lput2 ls 1 (.long x)) st h k n) := by rw [wp_s dd_28_1 rfl hs]; rfl
theorem dd_28_2 : decode (mB 28) 2 = .ok (.iconst 0, 1) := by decide +kernel
theorem u_28_2 {G : aG} {S : Nat → Bool} {f : Nat} {st : List Value} {ls : aL} {h : aH} {k n : Nat} (hs : S 2 = false) : WP 28 G S (f + 1) 2 ls st h k n = (WP 28 G S f 3 ls (.int (nI 0) :: st) h k n) := by rw [wp_s dd_28_2 rfl hs]; rfl
theorem dd_28_3 : decode (mB 28) 3 = .ok (.istore_n 3, 1) := by decide +kernel
theorem u_28_3 {G : aG} {S : Nat → Bool} {f : Nat} {st : List Value} {ls : aL} {h : aH} {k n : Nat} {x : Int32} (hs : S 3 = false) : WP 28 G S (f + 1) 3 ls (.int x :: st) h k n = (WP 28 G S f 4 (lput1 ls 3 (.int x)) st h k n) := by rw [wp_s dd_28_3 rfl hs]; rfl
theorem dd_28_4 : decode (mB 28) 4 = .ok (.iload_n 3, 1) := by decide +kernel
theorem u_28_4 {G : aG} {S : Nat → Bool} {f : Nat} {st : List Value} {ls : aL} {h : aH} {k n : Nat} (hs : S 4 = false) : WP 28 G S (f + 1) 4 ls st h k n = (oI (lget ls 3) (WP 28 G S f) 5 ls st h k n) := by rw [wp_s dd_28_4 rfl hs]; rfl
theorem v_28_4 {G : aG} {S : Nat → Bool} {f : Nat} {st : List Value} {ls : aL} {h : aH} {k n : Nat} : WQ 28 G S f 4 ls st h k n = (oI (lget ls 3) (WP 28 G S f) 5 ls st h k n) := by rw [wq_s dd_28_4 rfl]; rfl
theorem dd_28_5 : decode (mB 28) 5 = .ok (.aload_n 0, 1) := by decide +kernel
theorem u_28_5 {G : aG} {S : Nat → Bool} {f : Nat} {st : List Value} {ls : aL} {h : aH} {k n : Nat} (hs : S 5 = false) : WP 28 G S (f + 1) 5 ls st h k n = (oA (lget ls 0) (WP 28 G S f) 6 ls st h k n) := by rw [wp_s dd_28_5 rfl hs]; rfl
theorem dd_28_6 : decode (mB 28) 6 = .ok (.getfield 68, 3) := by decide +kernel
theorem u_28_6 {G : aG} {S : Nat → Bool} {f : Nat} {st : List Value} {ls : aL} {h : aH} {k n : Nat} {a : Nat} (hs : S 6 = false) : WP 28 G S (f + 1) 6 ls (.ref a :: st) h k n = (oV (fget h a 2 2) (WP 28 G S f) 9 ls st h k n) := by rw [wp_s dd_28_6 rfl hs]; rfl
theorem dd_28_9 : decode (mB 28) 9 = .ok (.if_icmp .ge 22, 3) := by decide +kernel
theorem u_28_9 {G : aG} {S : Nat → Bool} {f : Nat} {st : List Value} {ls : aL} {h : aH} {k n : Nat} {x y : Int32} (hs : S 9 = false) : WP 28 G S (f + 1) 9 ls (.int y :: .int x :: st) h k n = (if y ≤ x then WP 28 G S f 31 ls st h k n else WP 28 G S f 12 ls st h k n) := by rw [wp_s dd_28_9 rfl hs]; exact br_ite (c := y ≤ x)
theorem dd_28_12 : decode (mB 28) 12 = .ok (.lload_n 1, 1) := by decide +kernel
theorem u_28_12 {G : aG} {S : Nat → Bool} {f : Nat} {st : List Value} {ls : aL} {h : aH} {k n : Nat} (hs : S 12 = false) : WP 28 G S (f + 1) 12 ls st h k n = (oJ (lget ls 1) (WP 28 G S f) 13 ls st h k n) := by rw [wp_s dd_28_12 rfl hs]; rfl
theorem dd_28_13 : decode (mB 28) 13 = .ok (.aload_n 0, 1) := by decide +kernel
theorem u_28_13 {G : aG} {S : Nat → Bool} {f : Nat} {st : List Value} {ls : aL} {h : aH} {k n : Nat} (hs : S 13 = false) : WP 28 G S (f + 1) 13 ls st h k n = (oA (lget ls 0) (WP 28 G S f) 14 ls st h k n) := by rw [wp_s dd_28_13 rfl hs]; rfl
theorem dd_28_14 : decode (mB 28) 14 = .ok (.getfield 35, 3) := by decide +kernel
theorem u_28_14 {G : aG} {S : Nat → Bool} {f : Nat} {st : List Value} {ls : aL} {h : aH} {k n : Nat} {a : Nat} (hs : S 14 = false) : WP 28 G S (f + 1) 14 ls (.ref a :: st) h k n = (oV (fget h a 2 9) (WP 28 G S f) 17 ls st h k n) := by rw [wp_s dd_28_14 rfl hs]; rfl
theorem dd_28_17 : decode (mB 28) 17 = .ok (.iload_n 3, 1) := by decide +kernel
theorem u_28_17 {G : aG} {S : Nat → Bool} {f : Nat} {st : List Value} {ls : aL} {h : aH} {k n : Nat} (hs : S 17 = false) : WP 28 G S (f + 1) 17 ls st h k n = (oI (lget ls 3) (WP 28 G S f) 18 ls st h k n) := by rw [wp_s dd_28_17 rfl hs]; rfl
theorem dd_28_18 : decode (mB 28) 18 = .ok (.laload, 1) := by decide +kernel
theorem u_28_18 {G : aG} {S : Nat → Bool} {f : Nat} {st : List Value} {ls : aL} {h : aH} {k n : Nat} {i : Int32} {a : Nat} (hs : S 18 = false) : WP 28 G S (f + 1) 18 ls (.int i :: .ref a :: st) h k n = (oJld (jget h a) i (WP 28 G S f) 19 ls st h k n) := by rw [wp_s dd_28_18 rfl hs]; rfl
theorem dd_28_19 : decode (mB 28) 19 = .ok (.lxor, 1) := by decide +kernel
theorem u_28_19 {G : aG} {S : Nat → Bool} {f : Nat} {st : List Value} {ls : aL} {h : aH} {k n : Nat} {x y : Int64} (hs : S 19 = false) : WP 28 G S (f + 1) 19 ls (.long y :: .long x :: st) h k n = (WP 28 G S f 20 ls (.long (x ^^^ y) :: st) h k n) := by rw [wp_s dd_28_19 rfl hs]; rfl
theorem dd_28_20 : decode (mB 28) 20 = .ok (.ldc2_w 140, 3) := by decide +kernel
theorem u_28_20 {G : aG} {S : Nat → Bool} {f : Nat} {st : List Value} {ls : aL} {h : aH} {k n : Nat} (hs : S 20 = false) : WP 28 G S (f + 1) 20 ls st h k n = (WP 28 G S f 23 ls (.long (-7046029254386353131) :: st) h k n) := by rw [wp_s dd_28_20 rfl hs]; rfl
theorem dd_28_23 : decode (mB 28) 23 = .ok (.lmul, 1) := by decide +kernel
theorem u_28_23 {G : aG} {S : Nat → Bool} {f : Nat} {st : List Value} {ls : aL} {h : aH} {k n : Nat} {x y : Int64} (hs : S 23 = false) : WP 28 G S (f + 1) 23 ls (.long y :: .long x :: st) h k n = (WP 28 G S f 24 ls (.long (x * y) :: st) h k n) := by rw [wp_s dd_28_23 rfl hs]; rfl
theorem dd_28_24 : decode (mB 28) 24 = .ok (.lstore_n 1, 1) := by decide +kernel
theorem u_28_24 {G : aG} {S : Nat → Bool} {f : Nat} {st : List Value} {ls : aL} {h : aH} {k n : Nat} {x : Int64} (hs : S 24 = false) : WP 28 G S (f + 1) 24 ls (.long x :: st) h k n = (WP 28 G S f 25 (lput2 ls 1 (.long x)) st h k n) := by rw [wp_s dd_28_24 rfl hs]; rfl
theorem dd_28_25 : decode (mB 28) 25 = .ok (.iinc 3 1, 3) := by decide +kernel
theorem u_28_25 {G : aG} {S : Nat → Bool} {f : Nat} {st : List Value} {ls : aL} {h : aH} {k n : Nat} (hs : S 25 = false) : WP 28 G S (f + 1) 25 ls st h k n = (oInc (lget ls 3) (nI 1) (WP 28 G S f) 3 28 ls st h k n) := by rw [wp_s dd_28_25 rfl hs]; rfl
theorem dd_28_28 : decode (mB 28) 28 = .ok (.goto (-24), 3) := by decide +kernel
theorem u_28_28 {G : aG} {S : Nat → Bool} {f : Nat} {st : List Value} {ls : aL} {h : aH} {k n : Nat} (hs : S 28 = false) : WP 28 G S (f + 1) 28 ls st h k n = (WP 28 G S f 4 ls st h k n) := by rw [wp_s dd_28_28 rfl hs]; rfl
theorem dd_28_31 : decode (mB 28) 31 = .ok (.lload_n 1, 1) := by decide +kernel
theorem u_28_31 {G : aG} {S : Nat → Bool} {f : Nat} {st : List Value} {ls : aL} {h : aH} {k n : Nat} (hs : S 31 = false) : WP 28 G S (f + 1) 31 ls st h k n = (oJ (lget ls 1) (WP 28 G S f) 32 ls st h k n) := by rw [wp_s dd_28_31 rfl hs]; rfl
theorem dd_28_32 : decode (mB 28) 32 = .ok (.bipush 58, 2) := by decide +kernel
theorem u_28_32 {G : aG} {S : Nat → Bool} {f : Nat} {st : List Value} {ls : aL} {h : aH} {k n : Nat} (hs : S 32 = false) : WP 28 G S (f + 1) 32 ls st h k n = (WP 28 G S f 34 ls (.int (nI 58) :: st) h k n) := by rw [wp_s dd_28_32 rfl hs]; rfl
theorem dd_28_34 : decode (mB 28) 34 = .ok (.lushr, 1) := by decide +kernel
theorem u_28_34 {G : aG} {S : Nat → Bool} {f : Nat} {st : List Value} {ls : aL} {h : aH} {k n : Nat} {x : Int64} {y : Int32} (hs : S 34 = false) : WP 28 G S (f + 1) 34 ls (.int y :: .long x :: st) h k n = (WP 28 G S f 35 ls (.long ((x.toUInt64 >>> (y.toInt64.toUInt64 &&& Int64.toUInt64 63)).toInt64) :: st) h k n) := by rw [wp_s dd_28_34 rfl hs]; rfl
theorem dd_28_35 : decode (mB 28) 35 = .ok (.l2i, 1) := by decide +kernel
theorem u_28_35 {G : aG} {S : Nat → Bool} {f : Nat} {st : List Value} {ls : aL} {h : aH} {k n : Nat} {x : Int64} (hs : S 35 = false) : WP 28 G S (f + 1) 35 ls (.long x :: st) h k n = (WP 28 G S f 36 ls (.int x.toInt32 :: st) h k n) := by rw [wp_s dd_28_35 rfl hs]; rfl
theorem dd_28_36 : decode (mB 28) 36 = .ok (.bipush 63, 2) := by decide +kernel
theorem u_28_36 {G : aG} {S : Nat → Bool} {f : Nat} {st : List Value} {ls : aL} {h : aH} {k n : Nat} (hs : S 36 = false) : WP 28 G S (f + 1) 36 ls st h k n = (WP 28 G S f 38 ls (.int (nI 63) :: st) h k n) := by rw [wp_s dd_28_36 rfl hs]; rfl
theorem dd_28_38 : decode (mB 28) 38 = .ok (.iand, 1) := by decide +kernel
theorem u_28_38 {G : aG} {S : Nat → Bool} {f : Nat} {st : List Value} {ls : aL} {h : aH} {k n : Nat} {x y : Int32} (hs : S 38 = false) : WP 28 G S (f + 1) 38 ls (.int y :: .int x :: st) h k n = (WP 28 G S f 39 ls (.int (x &&& y) :: st) h k n) := by rw [wp_s dd_28_38 rfl hs]; rfl
theorem dd_28_39 : decode (mB 28) 39 = .ok (.ireturn, 1) := by decide +kernel
theorem u_28_39 {G : aG} {S : Nat → Bool} {f : Nat} {ls : aL} {h : aH} {k n : Nat} {x : Int32} (hs : S 39 = false) : WP 28 G S (f + 1) 39 ls [.int x] h k n = (RET G (some (.int x)) h k n) := by rw [wp_s dd_28_39 rfl hs]; rfl
theorem dd_29_0 : decode (mB 29) 0 = .ok (.iconst 0, 1) := by decide +kernel
theorem u_29_0 {G : aG} {S : Nat → Bool} {f : Nat} {st : List Value} {ls : aL} {h : aH} {k n : Nat} (hs : S 0 = false) : WP 29 G S (f + 1) 0 ls st h k n = (WP 29 G S f 1 ls (.int (nI 0) :: st) h k n) := by rw [wp_s dd_29_0 rfl hs]; rfl
theorem dd_29_1 : decode (mB 29) 1 = .ok (.istore_n 2, 1) := by decide +kernel
theorem u_29_1 {G : aG} {S : Nat → Bool} {f : Nat} {st : List Value} {ls : aL} {h : aH} {k n : Nat} {x : Int32} (hs : S 1 = false) : WP 29 G S (f + 1) 1 ls (.int x :: st) h k n = (WP 29 G S f 2 (lput1 ls 2 (.int x)) st h k n) := by rw [wp_s dd_29_1 rfl hs]; rfl
theorem dd_29_2 : decode (mB 29) 2 = .ok (.iload_n 2, 1) := by decide +kernel
theorem u_29_2 {G : aG} {S : Nat → Bool} {f : Nat} {st : List Value} {ls : aL} {h : aH} {k n : Nat} (hs : S 2 = false) : WP 29 G S (f + 1) 2 ls st h k n = (oI (lget ls 2) (WP 29 G S f) 3 ls st h k n) := by rw [wp_s dd_29_2 rfl hs]; rfl
theorem v_29_2 {G : aG} {S : Nat → Bool} {f : Nat} {st : List Value} {ls : aL} {h : aH} {k n : Nat} : WQ 29 G S f 2 ls st h k n = (oI (lget ls 2) (WP 29 G S f) 3 ls st h k n) := by rw [wq_s dd_29_2 rfl]; rfl
theorem dd_29_3 : decode (mB 29) 3 = .ok (.aload_n 0, 1) := by decide +kernel
theorem u_29_3 {G : aG} {S : Nat → Bool} {f : Nat} {st : List Value} {ls : aL} {h : aH} {k n : Nat} (hs : S 3 = false) : WP 29 G S (f + 1) 3 ls st h k n = (oA (lget ls 0) (WP 29 G S f) 4 ls st h k n) := by rw [wp_s dd_29_3 rfl hs]; rfl
theorem dd_29_4 : decode (mB 29) 4 = .ok (.getfield 68, 3) := by decide +kernel
theorem u_29_4 {G : aG} {S : Nat → Bool} {f : Nat} {st : List Value} {ls : aL} {h : aH} {k n : Nat} {a : Nat} (hs : S 4 = false) : WP 29 G S (f + 1) 4 ls (.ref a :: st) h k n = (oV (fget h a 2 2) (WP 29 G S f) 7 ls st h k n) := by rw [wp_s dd_29_4 rfl hs]; rfl
theorem dd_29_7 : decode (mB 29) 7 = .ok (.if_icmp .ge 34, 3) := by decide +kernel
theorem u_29_7 {G : aG} {S : Nat → Bool} {f : Nat} {st : List Value} {ls : aL} {h : aH} {k n : Nat} {x y : Int32} (hs : S 7 = false) : WP 29 G S (f + 1) 7 ls (.int y :: .int x :: st) h k n = (if y ≤ x then WP 29 G S f 41 ls st h k n else WP 29 G S f 10 ls st h k n) := by rw [wp_s dd_29_7 rfl hs]; exact br_ite (c := y ≤ x)
theorem dd_29_10 : decode (mB 29) 10 = .ok (.aload_n 0, 1) := by decide +kernel
theorem u_29_10 {G : aG} {S : Nat → Bool} {f : Nat} {st : List Value} {ls : aL} {h : aH} {k n : Nat} (hs : S 10 = false) : WP 29 G S (f + 1) 10 ls st h k n = (oA (lget ls 0) (WP 29 G S f) 11 ls st h k n) := by rw [wp_s dd_29_10 rfl hs]; rfl
theorem dd_29_11 : decode (mB 29) 11 = .ok (.getfield 18, 3) := by decide +kernel
theorem u_29_11 {G : aG} {S : Nat → Bool} {f : Nat} {st : List Value} {ls : aL} {h : aH} {k n : Nat} {a : Nat} (hs : S 11 = false) : WP 29 G S (f + 1) 11 ls (.ref a :: st) h k n = (oV (fget h a 2 4) (WP 29 G S f) 14 ls st h k n) := by rw [wp_s dd_29_11 rfl hs]; rfl
theorem dd_29_14 : decode (mB 29) 14 = .ok (.iload_n 1, 1) := by decide +kernel
theorem u_29_14 {G : aG} {S : Nat → Bool} {f : Nat} {st : List Value} {ls : aL} {h : aH} {k n : Nat} (hs : S 14 = false) : WP 29 G S (f + 1) 14 ls st h k n = (oI (lget ls 1) (WP 29 G S f) 15 ls st h k n) := by rw [wp_s dd_29_14 rfl hs]; rfl
theorem dd_29_15 : decode (mB 29) 15 = .ok (.aload_n 0, 1) := by decide +kernel
theorem u_29_15 {G : aG} {S : Nat → Bool} {f : Nat} {st : List Value} {ls : aL} {h : aH} {k n : Nat} (hs : S 15 = false) : WP 29 G S (f + 1) 15 ls st h k n = (oA (lget ls 0) (WP 29 G S f) 16 ls st h k n) := by rw [wp_s dd_29_15 rfl hs]; rfl
theorem dd_29_16 : decode (mB 29) 16 = .ok (.getfield 68, 3) := by decide +kernel
theorem u_29_16 {G : aG} {S : Nat → Bool} {f : Nat} {st : List Value} {ls : aL} {h : aH} {k n : Nat} {a : Nat} (hs : S 16 = false) : WP 29 G S (f + 1) 16 ls (.ref a :: st) h k n = (oV (fget h a 2 2) (WP 29 G S f) 19 ls st h k n) := by rw [wp_s dd_29_16 rfl hs]; rfl
theorem dd_29_19 : decode (mB 29) 19 = .ok (.imul, 1) := by decide +kernel
theorem u_29_19 {G : aG} {S : Nat → Bool} {f : Nat} {st : List Value} {ls : aL} {h : aH} {k n : Nat} {x y : Int32} (hs : S 19 = false) : WP 29 G S (f + 1) 19 ls (.int y :: .int x :: st) h k n = (WP 29 G S f 20 ls (.int (x * y) :: st) h k n) := by rw [wp_s dd_29_19 rfl hs]; rfl
theorem dd_29_20 : decode (mB 29) 20 = .ok (.iload_n 2, 1) := by decide +kernel
theorem u_29_20 {G : aG} {S : Nat → Bool} {f : Nat} {st : List Value} {ls : aL} {h : aH} {k n : Nat} (hs : S 20 = false) : WP 29 G S (f + 1) 20 ls st h k n = (oI (lget ls 2) (WP 29 G S f) 21 ls st h k n) := by rw [wp_s dd_29_20 rfl hs]; rfl
theorem dd_29_21 : decode (mB 29) 21 = .ok (.iadd, 1) := by decide +kernel
theorem u_29_21 {G : aG} {S : Nat → Bool} {f : Nat} {st : List Value} {ls : aL} {h : aH} {k n : Nat} {x y : Int32} (hs : S 21 = false) : WP 29 G S (f + 1) 21 ls (.int y :: .int x :: st) h k n = (WP 29 G S f 22 ls (.int (x + y) :: st) h k n) := by rw [wp_s dd_29_21 rfl hs]; rfl
theorem dd_29_22 : decode (mB 29) 22 = .ok (.laload, 1) := by decide +kernel
theorem u_29_22 {G : aG} {S : Nat → Bool} {f : Nat} {st : List Value} {ls : aL} {h : aH} {k n : Nat} {i : Int32} {a : Nat} (hs : S 22 = false) : WP 29 G S (f + 1) 22 ls (.int i :: .ref a :: st) h k n = (oJld (jget h a) i (WP 29 G S f) 23 ls st h k n) := by rw [wp_s dd_29_22 rfl hs]; rfl
theorem dd_29_23 : decode (mB 29) 23 = .ok (.aload_n 0, 1) := by decide +kernel
theorem u_29_23 {G : aG} {S : Nat → Bool} {f : Nat} {st : List Value} {ls : aL} {h : aH} {k n : Nat} (hs : S 23 = false) : WP 29 G S (f + 1) 23 ls st h k n = (oA (lget ls 0) (WP 29 G S f) 24 ls st h k n) := by rw [wp_s dd_29_23 rfl hs]; rfl
theorem dd_29_24 : decode (mB 29) 24 = .ok (.getfield 35, 3) := by decide +kernel
theorem u_29_24 {G : aG} {S : Nat → Bool} {f : Nat} {st : List Value} {ls : aL} {h : aH} {k n : Nat} {a : Nat} (hs : S 24 = false) : WP 29 G S (f + 1) 24 ls (.ref a :: st) h k n = (oV (fget h a 2 9) (WP 29 G S f) 27 ls st h k n) := by rw [wp_s dd_29_24 rfl hs]; rfl
theorem dd_29_27 : decode (mB 29) 27 = .ok (.iload_n 2, 1) := by decide +kernel
theorem u_29_27 {G : aG} {S : Nat → Bool} {f : Nat} {st : List Value} {ls : aL} {h : aH} {k n : Nat} (hs : S 27 = false) : WP 29 G S (f + 1) 27 ls st h k n = (oI (lget ls 2) (WP 29 G S f) 28 ls st h k n) := by rw [wp_s dd_29_27 rfl hs]; rfl
theorem dd_29_28 : decode (mB 29) 28 = .ok (.laload, 1) := by decide +kernel
theorem u_29_28 {G : aG} {S : Nat → Bool} {f : Nat} {st : List Value} {ls : aL} {h : aH} {k n : Nat} {i : Int32} {a : Nat} (hs : S 28 = false) : WP 29 G S (f + 1) 28 ls (.int i :: .ref a :: st) h k n = (oJld (jget h a) i (WP 29 G S f) 29 ls st h k n) := by rw [wp_s dd_29_28 rfl hs]; rfl
theorem dd_29_29 : decode (mB 29) 29 = .ok (.lcmp, 1) := by decide +kernel
theorem u_29_29 {G : aG} {S : Nat → Bool} {f : Nat} {st : List Value} {ls : aL} {h : aH} {k n : Nat} {x y : Int64} (hs : S 29 = false) : WP 29 G S (f + 1) 29 ls (.long y :: .long x :: st) h k n = (WP 29 G S f 30 ls (.int (lg_cmp x y) :: st) h k n) := by rw [wp_s dd_29_29 rfl hs]; rfl
theorem dd_29_30 : decode (mB 29) 30 = .ok (.ifCond .eq 5, 3) := by decide +kernel
theorem u_29_30 {G : aG} {S : Nat → Bool} {f : Nat} {st : List Value} {ls : aL} {h : aH} {k n : Nat} {x : Int32} (hs : S 30 = false) : WP 29 G S (f + 1) 30 ls (.int x :: st) h k n = (if x = nI 0 then WP 29 G S f 35 ls st h k n else WP 29 G S f 33 ls st h k n) := by rw [wp_s dd_29_30 rfl hs]; exact br_ite (c := x = nI 0)
theorem dd_29_33 : decode (mB 29) 33 = .ok (.iconst 0, 1) := by decide +kernel
theorem u_29_33 {G : aG} {S : Nat → Bool} {f : Nat} {st : List Value} {ls : aL} {h : aH} {k n : Nat} (hs : S 33 = false) : WP 29 G S (f + 1) 33 ls st h k n = (WP 29 G S f 34 ls (.int (nI 0) :: st) h k n) := by rw [wp_s dd_29_33 rfl hs]; rfl
theorem dd_29_34 : decode (mB 29) 34 = .ok (.ireturn, 1) := by decide +kernel
theorem u_29_34 {G : aG} {S : Nat → Bool} {f : Nat} {ls : aL} {h : aH} {k n : Nat} {x : Int32} (hs : S 34 = false) : WP 29 G S (f + 1) 34 ls [.int x] h k n = (cond (x == nI 0 || x == nI 1) (RET G (some (.int x)) h k n) False) := by rw [wp_s dd_29_34 rfl hs]; rfl
theorem dd_29_35 : decode (mB 29) 35 = .ok (.iinc 2 1, 3) := by decide +kernel
theorem u_29_35 {G : aG} {S : Nat → Bool} {f : Nat} {st : List Value} {ls : aL} {h : aH} {k n : Nat} (hs : S 35 = false) : WP 29 G S (f + 1) 35 ls st h k n = (oInc (lget ls 2) (nI 1) (WP 29 G S f) 2 38 ls st h k n) := by rw [wp_s dd_29_35 rfl hs]; rfl
theorem dd_29_38 : decode (mB 29) 38 = .ok (.goto (-36), 3) := by decide +kernel
theorem u_29_38 {G : aG} {S : Nat → Bool} {f : Nat} {st : List Value} {ls : aL} {h : aH} {k n : Nat} (hs : S 38 = false) : WP 29 G S (f + 1) 38 ls st h k n = (WP 29 G S f 2 ls st h k n) := by rw [wp_s dd_29_38 rfl hs]; rfl
theorem dd_29_41 : decode (mB 29) 41 = .ok (.iconst 1, 1) := by decide +kernel
theorem u_29_41 {G : aG} {S : Nat → Bool} {f : Nat} {st : List Value} {ls : aL} {h : aH} {k n : Nat} (hs : S 41 = false) : WP 29 G S (f + 1) 41 ls st h k n = (WP 29 G S f 42 ls (.int (nI 1) :: st) h k n) := by rw [wp_s dd_29_41 rfl hs]; rfl
theorem dd_29_42 : decode (mB 29) 42 = .ok (.ireturn, 1) := by decide +kernel
theorem u_29_42 {G : aG} {S : Nat → Bool} {f : Nat} {ls : aL} {h : aH} {k n : Nat} {x : Int32} (hs : S 42 = false) : WP 29 G S (f + 1) 42 ls [.int x] h k n = (cond (x == nI 0 || x == nI 1) (RET G (some (.int x)) h k n) False) := by rw [wp_s dd_29_42 rfl hs]; rfl
theorem dd_30_0 : decode (mB 30) 0 = .ok (.aload_n 0, 1) := by decide +kernel
theorem u_30_0 {G : aG} {S : Nat → Bool} {f : Nat} {st : List Value} {ls : aL} {h : aH} {k n : Nat} (hs : S 0 = false) : WP 30 G S (f + 1) 0 ls st h k n = (oA (lget ls 0) (WP 30 G S f) 1 ls st h k n) := by rw [wp_s dd_30_0 rfl hs]; rfl
theorem dd_30_1 : decode (mB 30) 1 = .ok (.invokevirtual 130, 3) := by decide +kernel
theorem u_30_1 {G : aG} {S : Nat → Bool} {f : Nat} {st : List Value} {ls : aL} {h : aH} {k n : Nat} {b : Nat} (hs : S 1 = false) : WP 30 G S (f + 1) 1 ls (.ref b :: st) h k n = (rcv (hget h b) 2 ∧ CAL G (WP 30 G S f) 31 [.ref b] 4 ls st h k n) := by rw [wp_s dd_30_1 rfl hs]; rfl
theorem dd_30_4 : decode (mB 30) 4 = .ok (.aload_n 0, 1) := by decide +kernel
theorem u_30_4 {G : aG} {S : Nat → Bool} {f : Nat} {st : List Value} {ls : aL} {h : aH} {k n : Nat} (hs : S 4 = false) : WP 30 G S (f + 1) 4 ls st h k n = (oA (lget ls 0) (WP 30 G S f) 5 ls st h k n) := by rw [wp_s dd_30_4 rfl hs]; rfl
theorem dd_30_5 : decode (mB 30) 5 = .ok (.getfield 71, 3) := by decide +kernel
theorem u_30_5 {G : aG} {S : Nat → Bool} {f : Nat} {st : List Value} {ls : aL} {h : aH} {k n : Nat} {a : Nat} (hs : S 5 = false) : WP 30 G S (f + 1) 5 ls (.ref a :: st) h k n = (oV (fget h a 2 3) (WP 30 G S f) 8 ls st h k n) := by rw [wp_s dd_30_5 rfl hs]; rfl
theorem dd_30_8 : decode (mB 30) 8 = .ok (.istore_n 2, 1) := by decide +kernel
theorem u_30_8 {G : aG} {S : Nat → Bool} {f : Nat} {st : List Value} {ls : aL} {h : aH} {k n : Nat} {x : Int32} (hs : S 8 = false) : WP 30 G S (f + 1) 8 ls (.int x :: st) h k n = (WP 30 G S f 9 (lput1 ls 2 (.int x)) st h k n) := by rw [wp_s dd_30_8 rfl hs]; rfl
theorem dd_30_9 : decode (mB 30) 9 = .ok (.aload_n 0, 1) := by decide +kernel
theorem u_30_9 {G : aG} {S : Nat → Bool} {f : Nat} {st : List Value} {ls : aL} {h : aH} {k n : Nat} (hs : S 9 = false) : WP 30 G S (f + 1) 9 ls st h k n = (oA (lget ls 0) (WP 30 G S f) 10 ls st h k n) := by rw [wp_s dd_30_9 rfl hs]; rfl
theorem dd_30_10 : decode (mB 30) 10 = .ok (.dup, 1) := by decide +kernel
theorem u_30_10 {G : aG} {S : Nat → Bool} {f : Nat} {st : List Value} {ls : aL} {h : aH} {k n : Nat} {v : Value} (hs : S 10 = false) : WP 30 G S (f + 1) 10 ls (v :: st) h k n = (cond (cat1 v) (WP 30 G S f 11 ls (v :: v :: st) h k n) False) := by rw [wp_s dd_30_10 rfl hs]; rfl
theorem dd_30_11 : decode (mB 30) 11 = .ok (.getfield 71, 3) := by decide +kernel
theorem u_30_11 {G : aG} {S : Nat → Bool} {f : Nat} {st : List Value} {ls : aL} {h : aH} {k n : Nat} {a : Nat} (hs : S 11 = false) : WP 30 G S (f + 1) 11 ls (.ref a :: st) h k n = (oV (fget h a 2 3) (WP 30 G S f) 14 ls st h k n) := by rw [wp_s dd_30_11 rfl hs]; rfl
theorem dd_30_14 : decode (mB 30) 14 = .ok (.iconst 1, 1) := by decide +kernel
theorem u_30_14 {G : aG} {S : Nat → Bool} {f : Nat} {st : List Value} {ls : aL} {h : aH} {k n : Nat} (hs : S 14 = false) : WP 30 G S (f + 1) 14 ls st h k n = (WP 30 G S f 15 ls (.int (nI 1) :: st) h k n) := by rw [wp_s dd_30_14 rfl hs]; rfl
theorem dd_30_15 : decode (mB 30) 15 = .ok (.iadd, 1) := by decide +kernel
theorem u_30_15 {G : aG} {S : Nat → Bool} {f : Nat} {st : List Value} {ls : aL} {h : aH} {k n : Nat} {x y : Int32} (hs : S 15 = false) : WP 30 G S (f + 1) 15 ls (.int y :: .int x :: st) h k n = (WP 30 G S f 16 ls (.int (x + y) :: st) h k n) := by rw [wp_s dd_30_15 rfl hs]; rfl
theorem dd_30_16 : decode (mB 30) 16 = .ok (.putfield 71, 3) := by decide +kernel
theorem u_30_16 {G : aG} {S : Nat → Bool} {f : Nat} {st : List Value} {ls : aL} {h : aH} {k n : Nat} {a : Nat} {x : Int32} (hs : S 16 = false) : WP 30 G S (f + 1) 16 ls (.int x :: .ref a :: st) h k n = (oH (fput h a 2 3 (.int x)) (WP 30 G S f) 19 ls st k n) := by rw [wp_s dd_30_16 rfl hs]; rfl
theorem dd_30_19 : decode (mB 30) 19 = .ok (.iconst 0, 1) := by decide +kernel
theorem u_30_19 {G : aG} {S : Nat → Bool} {f : Nat} {st : List Value} {ls : aL} {h : aH} {k n : Nat} (hs : S 19 = false) : WP 30 G S (f + 1) 19 ls st h k n = (WP 30 G S f 20 ls (.int (nI 0) :: st) h k n) := by rw [wp_s dd_30_19 rfl hs]; rfl
theorem dd_30_20 : decode (mB 30) 20 = .ok (.istore_n 3, 1) := by decide +kernel
theorem u_30_20 {G : aG} {S : Nat → Bool} {f : Nat} {st : List Value} {ls : aL} {h : aH} {k n : Nat} {x : Int32} (hs : S 20 = false) : WP 30 G S (f + 1) 20 ls (.int x :: st) h k n = (WP 30 G S f 21 (lput1 ls 3 (.int x)) st h k n) := by rw [wp_s dd_30_20 rfl hs]; rfl
theorem dd_30_21 : decode (mB 30) 21 = .ok (.iload_n 3, 1) := by decide +kernel
theorem u_30_21 {G : aG} {S : Nat → Bool} {f : Nat} {st : List Value} {ls : aL} {h : aH} {k n : Nat} (hs : S 21 = false) : WP 30 G S (f + 1) 21 ls st h k n = (oI (lget ls 3) (WP 30 G S f) 22 ls st h k n) := by rw [wp_s dd_30_21 rfl hs]; rfl
theorem v_30_21 {G : aG} {S : Nat → Bool} {f : Nat} {st : List Value} {ls : aL} {h : aH} {k n : Nat} : WQ 30 G S f 21 ls st h k n = (oI (lget ls 3) (WP 30 G S f) 22 ls st h k n) := by rw [wq_s dd_30_21 rfl]; rfl
theorem dd_30_22 : decode (mB 30) 22 = .ok (.aload_n 0, 1) := by decide +kernel
theorem u_30_22 {G : aG} {S : Nat → Bool} {f : Nat} {st : List Value} {ls : aL} {h : aH} {k n : Nat} (hs : S 22 = false) : WP 30 G S (f + 1) 22 ls st h k n = (oA (lget ls 0) (WP 30 G S f) 23 ls st h k n) := by rw [wp_s dd_30_22 rfl hs]; rfl
theorem dd_30_23 : decode (mB 30) 23 = .ok (.getfield 68, 3) := by decide +kernel
theorem u_30_23 {G : aG} {S : Nat → Bool} {f : Nat} {st : List Value} {ls : aL} {h : aH} {k n : Nat} {a : Nat} (hs : S 23 = false) : WP 30 G S (f + 1) 23 ls (.ref a :: st) h k n = (oV (fget h a 2 2) (WP 30 G S f) 26 ls st h k n) := by rw [wp_s dd_30_23 rfl hs]; rfl
theorem dd_30_26 : decode (mB 30) 26 = .ok (.if_icmp .ge 28, 3) := by decide +kernel
theorem u_30_26 {G : aG} {S : Nat → Bool} {f : Nat} {st : List Value} {ls : aL} {h : aH} {k n : Nat} {x y : Int32} (hs : S 26 = false) : WP 30 G S (f + 1) 26 ls (.int y :: .int x :: st) h k n = (if y ≤ x then WP 30 G S f 54 ls st h k n else WP 30 G S f 29 ls st h k n) := by rw [wp_s dd_30_26 rfl hs]; exact br_ite (c := y ≤ x)
theorem dd_30_29 : decode (mB 30) 29 = .ok (.aload_n 0, 1) := by decide +kernel
theorem u_30_29 {G : aG} {S : Nat → Bool} {f : Nat} {st : List Value} {ls : aL} {h : aH} {k n : Nat} (hs : S 29 = false) : WP 30 G S (f + 1) 29 ls st h k n = (oA (lget ls 0) (WP 30 G S f) 30 ls st h k n) := by rw [wp_s dd_30_29 rfl hs]; rfl
theorem dd_30_30 : decode (mB 30) 30 = .ok (.getfield 18, 3) := by decide +kernel
theorem u_30_30 {G : aG} {S : Nat → Bool} {f : Nat} {st : List Value} {ls : aL} {h : aH} {k n : Nat} {a : Nat} (hs : S 30 = false) : WP 30 G S (f + 1) 30 ls (.ref a :: st) h k n = (oV (fget h a 2 4) (WP 30 G S f) 33 ls st h k n) := by rw [wp_s dd_30_30 rfl hs]; rfl
theorem dd_30_33 : decode (mB 30) 33 = .ok (.iload_n 2, 1) := by decide +kernel
theorem u_30_33 {G : aG} {S : Nat → Bool} {f : Nat} {st : List Value} {ls : aL} {h : aH} {k n : Nat} (hs : S 33 = false) : WP 30 G S (f + 1) 33 ls st h k n = (oI (lget ls 2) (WP 30 G S f) 34 ls st h k n) := by rw [wp_s dd_30_33 rfl hs]; rfl
theorem dd_30_34 : decode (mB 30) 34 = .ok (.aload_n 0, 1) := by decide +kernel
theorem u_30_34 {G : aG} {S : Nat → Bool} {f : Nat} {st : List Value} {ls : aL} {h : aH} {k n : Nat} (hs : S 34 = false) : WP 30 G S (f + 1) 34 ls st h k n = (oA (lget ls 0) (WP 30 G S f) 35 ls st h k n) := by rw [wp_s dd_30_34 rfl hs]; rfl
theorem dd_30_35 : decode (mB 30) 35 = .ok (.getfield 68, 3) := by decide +kernel
theorem u_30_35 {G : aG} {S : Nat → Bool} {f : Nat} {st : List Value} {ls : aL} {h : aH} {k n : Nat} {a : Nat} (hs : S 35 = false) : WP 30 G S (f + 1) 35 ls (.ref a :: st) h k n = (oV (fget h a 2 2) (WP 30 G S f) 38 ls st h k n) := by rw [wp_s dd_30_35 rfl hs]; rfl
theorem dd_30_38 : decode (mB 30) 38 = .ok (.imul, 1) := by decide +kernel
theorem u_30_38 {G : aG} {S : Nat → Bool} {f : Nat} {st : List Value} {ls : aL} {h : aH} {k n : Nat} {x y : Int32} (hs : S 38 = false) : WP 30 G S (f + 1) 38 ls (.int y :: .int x :: st) h k n = (WP 30 G S f 39 ls (.int (x * y) :: st) h k n) := by rw [wp_s dd_30_38 rfl hs]; rfl
theorem dd_30_39 : decode (mB 30) 39 = .ok (.iload_n 3, 1) := by decide +kernel
theorem u_30_39 {G : aG} {S : Nat → Bool} {f : Nat} {st : List Value} {ls : aL} {h : aH} {k n : Nat} (hs : S 39 = false) : WP 30 G S (f + 1) 39 ls st h k n = (oI (lget ls 3) (WP 30 G S f) 40 ls st h k n) := by rw [wp_s dd_30_39 rfl hs]; rfl
theorem dd_30_40 : decode (mB 30) 40 = .ok (.iadd, 1) := by decide +kernel
theorem u_30_40 {G : aG} {S : Nat → Bool} {f : Nat} {st : List Value} {ls : aL} {h : aH} {k n : Nat} {x y : Int32} (hs : S 40 = false) : WP 30 G S (f + 1) 40 ls (.int y :: .int x :: st) h k n = (WP 30 G S f 41 ls (.int (x + y) :: st) h k n) := by rw [wp_s dd_30_40 rfl hs]; rfl
theorem dd_30_41 : decode (mB 30) 41 = .ok (.aload_n 0, 1) := by decide +kernel
theorem u_30_41 {G : aG} {S : Nat → Bool} {f : Nat} {st : List Value} {ls : aL} {h : aH} {k n : Nat} (hs : S 41 = false) : WP 30 G S (f + 1) 41 ls st h k n = (oA (lget ls 0) (WP 30 G S f) 42 ls st h k n) := by rw [wp_s dd_30_41 rfl hs]; rfl
theorem dd_30_42 : decode (mB 30) 42 = .ok (.getfield 35, 3) := by decide +kernel
theorem u_30_42 {G : aG} {S : Nat → Bool} {f : Nat} {st : List Value} {ls : aL} {h : aH} {k n : Nat} {a : Nat} (hs : S 42 = false) : WP 30 G S (f + 1) 42 ls (.ref a :: st) h k n = (oV (fget h a 2 9) (WP 30 G S f) 45 ls st h k n) := by rw [wp_s dd_30_42 rfl hs]; rfl
theorem dd_30_45 : decode (mB 30) 45 = .ok (.iload_n 3, 1) := by decide +kernel
theorem u_30_45 {G : aG} {S : Nat → Bool} {f : Nat} {st : List Value} {ls : aL} {h : aH} {k n : Nat} (hs : S 45 = false) : WP 30 G S (f + 1) 45 ls st h k n = (oI (lget ls 3) (WP 30 G S f) 46 ls st h k n) := by rw [wp_s dd_30_45 rfl hs]; rfl
theorem dd_30_46 : decode (mB 30) 46 = .ok (.laload, 1) := by decide +kernel
theorem u_30_46 {G : aG} {S : Nat → Bool} {f : Nat} {st : List Value} {ls : aL} {h : aH} {k n : Nat} {i : Int32} {a : Nat} (hs : S 46 = false) : WP 30 G S (f + 1) 46 ls (.int i :: .ref a :: st) h k n = (oJld (jget h a) i (WP 30 G S f) 47 ls st h k n) := by rw [wp_s dd_30_46 rfl hs]; rfl
theorem dd_30_47 : decode (mB 30) 47 = .ok (.lastore, 1) := by decide +kernel
theorem u_30_47 {G : aG} {S : Nat → Bool} {f : Nat} {st : List Value} {ls : aL} {h : aH} {k n : Nat} {i : Int32} {x : Int64} {a : Nat} (hs : S 47 = false) : WP 30 G S (f + 1) 47 ls (.long x :: .int i :: .ref a :: st) h k n = (oJst (jget h a) a i x (WP 30 G S f) 48 ls st h k n) := by rw [wp_s dd_30_47 rfl hs]; rfl
theorem dd_30_48 : decode (mB 30) 48 = .ok (.iinc 3 1, 3) := by decide +kernel
theorem u_30_48 {G : aG} {S : Nat → Bool} {f : Nat} {st : List Value} {ls : aL} {h : aH} {k n : Nat} (hs : S 48 = false) : WP 30 G S (f + 1) 48 ls st h k n = (oInc (lget ls 3) (nI 1) (WP 30 G S f) 3 51 ls st h k n) := by rw [wp_s dd_30_48 rfl hs]; rfl
theorem dd_30_51 : decode (mB 30) 51 = .ok (.goto (-30), 3) := by decide +kernel
theorem u_30_51 {G : aG} {S : Nat → Bool} {f : Nat} {st : List Value} {ls : aL} {h : aH} {k n : Nat} (hs : S 51 = false) : WP 30 G S (f + 1) 51 ls st h k n = (WP 30 G S f 21 ls st h k n) := by rw [wp_s dd_30_51 rfl hs]; rfl
theorem dd_30_54 : decode (mB 30) 54 = .ok (.iconst 0, 1) := by decide +kernel
theorem u_30_54 {G : aG} {S : Nat → Bool} {f : Nat} {st : List Value} {ls : aL} {h : aH} {k n : Nat} (hs : S 54 = false) : WP 30 G S (f + 1) 54 ls st h k n = (WP 30 G S f 55 ls (.int (nI 0) :: st) h k n) := by rw [wp_s dd_30_54 rfl hs]; rfl
theorem dd_30_55 : decode (mB 30) 55 = .ok (.istore_n 3, 1) := by decide +kernel
theorem u_30_55 {G : aG} {S : Nat → Bool} {f : Nat} {st : List Value} {ls : aL} {h : aH} {k n : Nat} {x : Int32} (hs : S 55 = false) : WP 30 G S (f + 1) 55 ls (.int x :: st) h k n = (WP 30 G S f 56 (lput1 ls 3 (.int x)) st h k n) := by rw [wp_s dd_30_55 rfl hs]; rfl
theorem dd_30_56 : decode (mB 30) 56 = .ok (.iload_n 3, 1) := by decide +kernel
theorem u_30_56 {G : aG} {S : Nat → Bool} {f : Nat} {st : List Value} {ls : aL} {h : aH} {k n : Nat} (hs : S 56 = false) : WP 30 G S (f + 1) 56 ls st h k n = (oI (lget ls 3) (WP 30 G S f) 57 ls st h k n) := by rw [wp_s dd_30_56 rfl hs]; rfl
theorem v_30_56 {G : aG} {S : Nat → Bool} {f : Nat} {st : List Value} {ls : aL} {h : aH} {k n : Nat} : WQ 30 G S f 56 ls st h k n = (oI (lget ls 3) (WP 30 G S f) 57 ls st h k n) := by rw [wq_s dd_30_56 rfl]; rfl
theorem dd_30_57 : decode (mB 30) 57 = .ok (.bipush 8, 2) := by decide +kernel
theorem u_30_57 {G : aG} {S : Nat → Bool} {f : Nat} {st : List Value} {ls : aL} {h : aH} {k n : Nat} (hs : S 57 = false) : WP 30 G S (f + 1) 57 ls st h k n = (WP 30 G S f 59 ls (.int (nI 8) :: st) h k n) := by rw [wp_s dd_30_57 rfl hs]; rfl
theorem dd_30_59 : decode (mB 30) 59 = .ok (.if_icmp .ge 22, 3) := by decide +kernel
theorem u_30_59 {G : aG} {S : Nat → Bool} {f : Nat} {st : List Value} {ls : aL} {h : aH} {k n : Nat} {x y : Int32} (hs : S 59 = false) : WP 30 G S (f + 1) 59 ls (.int y :: .int x :: st) h k n = (if y ≤ x then WP 30 G S f 81 ls st h k n else WP 30 G S f 62 ls st h k n) := by rw [wp_s dd_30_59 rfl hs]; exact br_ite (c := y ≤ x)
theorem dd_30_62 : decode (mB 30) 62 = .ok (.aload_n 0, 1) := by decide +kernel
theorem u_30_62 {G : aG} {S : Nat → Bool} {f : Nat} {st : List Value} {ls : aL} {h : aH} {k n : Nat} (hs : S 62 = false) : WP 30 G S (f + 1) 62 ls st h k n = (oA (lget ls 0) (WP 30 G S f) 63 ls st h k n) := by rw [wp_s dd_30_62 rfl hs]; rfl
theorem dd_30_63 : decode (mB 30) 63 = .ok (.getfield 22, 3) := by decide +kernel
theorem u_30_63 {G : aG} {S : Nat → Bool} {f : Nat} {st : List Value} {ls : aL} {h : aH} {k n : Nat} {a : Nat} (hs : S 63 = false) : WP 30 G S (f + 1) 63 ls (.ref a :: st) h k n = (oV (fget h a 2 5) (WP 30 G S f) 66 ls st h k n) := by rw [wp_s dd_30_63 rfl hs]; rfl
theorem dd_30_66 : decode (mB 30) 66 = .ok (.iload_n 2, 1) := by decide +kernel
theorem u_30_66 {G : aG} {S : Nat → Bool} {f : Nat} {st : List Value} {ls : aL} {h : aH} {k n : Nat} (hs : S 66 = false) : WP 30 G S (f + 1) 66 ls st h k n = (oI (lget ls 2) (WP 30 G S f) 67 ls st h k n) := by rw [wp_s dd_30_66 rfl hs]; rfl
theorem dd_30_67 : decode (mB 30) 67 = .ok (.bipush 8, 2) := by decide +kernel
theorem u_30_67 {G : aG} {S : Nat → Bool} {f : Nat} {st : List Value} {ls : aL} {h : aH} {k n : Nat} (hs : S 67 = false) : WP 30 G S (f + 1) 67 ls st h k n = (WP 30 G S f 69 ls (.int (nI 8) :: st) h k n) := by rw [wp_s dd_30_67 rfl hs]; rfl
theorem dd_30_69 : decode (mB 30) 69 = .ok (.imul, 1) := by decide +kernel
theorem u_30_69 {G : aG} {S : Nat → Bool} {f : Nat} {st : List Value} {ls : aL} {h : aH} {k n : Nat} {x y : Int32} (hs : S 69 = false) : WP 30 G S (f + 1) 69 ls (.int y :: .int x :: st) h k n = (WP 30 G S f 70 ls (.int (x * y) :: st) h k n) := by rw [wp_s dd_30_69 rfl hs]; rfl
theorem dd_30_70 : decode (mB 30) 70 = .ok (.iload_n 3, 1) := by decide +kernel
theorem u_30_70 {G : aG} {S : Nat → Bool} {f : Nat} {st : List Value} {ls : aL} {h : aH} {k n : Nat} (hs : S 70 = false) : WP 30 G S (f + 1) 70 ls st h k n = (oI (lget ls 3) (WP 30 G S f) 71 ls st h k n) := by rw [wp_s dd_30_70 rfl hs]; rfl
theorem dd_30_71 : decode (mB 30) 71 = .ok (.iadd, 1) := by decide +kernel
theorem u_30_71 {G : aG} {S : Nat → Bool} {f : Nat} {st : List Value} {ls : aL} {h : aH} {k n : Nat} {x y : Int32} (hs : S 71 = false) : WP 30 G S (f + 1) 71 ls (.int y :: .int x :: st) h k n = (WP 30 G S f 72 ls (.int (x + y) :: st) h k n) := by rw [wp_s dd_30_71 rfl hs]; rfl
theorem dd_30_72 : decode (mB 30) 72 = .ok (.bipush (-2), 2) := by decide +kernel
theorem u_30_72 {G : aG} {S : Nat → Bool} {f : Nat} {st : List Value} {ls : aL} {h : aH} {k n : Nat} (hs : S 72 = false) : WP 30 G S (f + 1) 72 ls st h k n = (WP 30 G S f 74 ls (.int (-2) :: st) h k n) := by rw [wp_s dd_30_72 rfl hs]; rfl
theorem dd_30_74 : decode (mB 30) 74 = .ok (.iastore, 1) := by decide +kernel
theorem u_30_74 {G : aG} {S : Nat → Bool} {f : Nat} {st : List Value} {ls : aL} {h : aH} {k n : Nat} {i x : Int32} {a : Nat} (hs : S 74 = false) : WP 30 G S (f + 1) 74 ls (.int x :: .int i :: .ref a :: st) h k n = (oIst (iget h a 1) a i x (WP 30 G S f) 75 ls st h k n) := by rw [wp_s dd_30_74 rfl hs]; rfl
theorem dd_30_75 : decode (mB 30) 75 = .ok (.iinc 3 1, 3) := by decide +kernel
theorem u_30_75 {G : aG} {S : Nat → Bool} {f : Nat} {st : List Value} {ls : aL} {h : aH} {k n : Nat} (hs : S 75 = false) : WP 30 G S (f + 1) 75 ls st h k n = (oInc (lget ls 3) (nI 1) (WP 30 G S f) 3 78 ls st h k n) := by rw [wp_s dd_30_75 rfl hs]; rfl
theorem dd_30_78 : decode (mB 30) 78 = .ok (.goto (-22), 3) := by decide +kernel
theorem u_30_78 {G : aG} {S : Nat → Bool} {f : Nat} {st : List Value} {ls : aL} {h : aH} {k n : Nat} (hs : S 78 = false) : WP 30 G S (f + 1) 78 ls st h k n = (WP 30 G S f 56 ls st h k n) := by rw [wp_s dd_30_78 rfl hs]; rfl
theorem dd_30_81 : decode (mB 30) 81 = .ok (.aload_n 0, 1) := by decide +kernel
theorem u_30_81 {G : aG} {S : Nat → Bool} {f : Nat} {st : List Value} {ls : aL} {h : aH} {k n : Nat} (hs : S 81 = false) : WP 30 G S (f + 1) 81 ls st h k n = (oA (lget ls 0) (WP 30 G S f) 82 ls st h k n) := by rw [wp_s dd_30_81 rfl hs]; rfl
theorem dd_30_82 : decode (mB 30) 82 = .ok (.getfield 26, 3) := by decide +kernel
theorem u_30_82 {G : aG} {S : Nat → Bool} {f : Nat} {st : List Value} {ls : aL} {h : aH} {k n : Nat} {a : Nat} (hs : S 82 = false) : WP 30 G S (f + 1) 82 ls (.ref a :: st) h k n = (oV (fget h a 2 6) (WP 30 G S f) 85 ls st h k n) := by rw [wp_s dd_30_82 rfl hs]; rfl
theorem dd_30_85 : decode (mB 30) 85 = .ok (.iload_n 2, 1) := by decide +kernel
theorem u_30_85 {G : aG} {S : Nat → Bool} {f : Nat} {st : List Value} {ls : aL} {h : aH} {k n : Nat} (hs : S 85 = false) : WP 30 G S (f + 1) 85 ls st h k n = (oI (lget ls 2) (WP 30 G S f) 86 ls st h k n) := by rw [wp_s dd_30_85 rfl hs]; rfl
theorem dd_30_86 : decode (mB 30) 86 = .ok (.aload_n 0, 1) := by decide +kernel
theorem u_30_86 {G : aG} {S : Nat → Bool} {f : Nat} {st : List Value} {ls : aL} {h : aH} {k n : Nat} (hs : S 86 = false) : WP 30 G S (f + 1) 86 ls st h k n = (oA (lget ls 0) (WP 30 G S f) 87 ls st h k n) := by rw [wp_s dd_30_86 rfl hs]; rfl
theorem dd_30_87 : decode (mB 30) 87 = .ok (.getfield 87, 3) := by decide +kernel
theorem u_30_87 {G : aG} {S : Nat → Bool} {f : Nat} {st : List Value} {ls : aL} {h : aH} {k n : Nat} {a : Nat} (hs : S 87 = false) : WP 30 G S (f + 1) 87 ls (.ref a :: st) h k n = (oV (fget h a 2 10) (WP 30 G S f) 90 ls st h k n) := by rw [wp_s dd_30_87 rfl hs]; rfl
theorem dd_30_90 : decode (mB 30) 90 = .ok (.iastore, 1) := by decide +kernel
theorem u_30_90 {G : aG} {S : Nat → Bool} {f : Nat} {st : List Value} {ls : aL} {h : aH} {k n : Nat} {i x : Int32} {a : Nat} (hs : S 90 = false) : WP 30 G S (f + 1) 90 ls (.int x :: .int i :: .ref a :: st) h k n = (oIst (iget h a 1) a i x (WP 30 G S f) 91 ls st h k n) := by rw [wp_s dd_30_90 rfl hs]; rfl
theorem dd_30_91 : decode (mB 30) 91 = .ok (.aload_n 0, 1) := by decide +kernel
theorem u_30_91 {G : aG} {S : Nat → Bool} {f : Nat} {st : List Value} {ls : aL} {h : aH} {k n : Nat} (hs : S 91 = false) : WP 30 G S (f + 1) 91 ls st h k n = (oA (lget ls 0) (WP 30 G S f) 92 ls st h k n) := by rw [wp_s dd_30_91 rfl hs]; rfl
theorem dd_30_92 : decode (mB 30) 92 = .ok (.getfield 29, 3) := by decide +kernel
theorem u_30_92 {G : aG} {S : Nat → Bool} {f : Nat} {st : List Value} {ls : aL} {h : aH} {k n : Nat} {a : Nat} (hs : S 92 = false) : WP 30 G S (f + 1) 92 ls (.ref a :: st) h k n = (oV (fget h a 2 7) (WP 30 G S f) 95 ls st h k n) := by rw [wp_s dd_30_92 rfl hs]; rfl
theorem dd_30_95 : decode (mB 30) 95 = .ok (.iload_n 2, 1) := by decide +kernel
theorem u_30_95 {G : aG} {S : Nat → Bool} {f : Nat} {st : List Value} {ls : aL} {h : aH} {k n : Nat} (hs : S 95 = false) : WP 30 G S (f + 1) 95 ls st h k n = (oI (lget ls 2) (WP 30 G S f) 96 ls st h k n) := by rw [wp_s dd_30_95 rfl hs]; rfl
theorem dd_30_96 : decode (mB 30) 96 = .ok (.aload_n 0, 1) := by decide +kernel
theorem u_30_96 {G : aG} {S : Nat → Bool} {f : Nat} {st : List Value} {ls : aL} {h : aH} {k n : Nat} (hs : S 96 = false) : WP 30 G S (f + 1) 96 ls st h k n = (oA (lget ls 0) (WP 30 G S f) 97 ls st h k n) := by rw [wp_s dd_30_96 rfl hs]; rfl
theorem dd_30_97 : decode (mB 30) 97 = .ok (.getfield 32, 3) := by decide +kernel
theorem u_30_97 {G : aG} {S : Nat → Bool} {f : Nat} {st : List Value} {ls : aL} {h : aH} {k n : Nat} {a : Nat} (hs : S 97 = false) : WP 30 G S (f + 1) 97 ls (.ref a :: st) h k n = (oV (fget h a 2 8) (WP 30 G S f) 100 ls st h k n) := by rw [wp_s dd_30_97 rfl hs]; rfl
theorem dd_30_100 : decode (mB 30) 100 = .ok (.iload_n 1, 1) := by decide +kernel
theorem u_30_100 {G : aG} {S : Nat → Bool} {f : Nat} {st : List Value} {ls : aL} {h : aH} {k n : Nat} (hs : S 100 = false) : WP 30 G S (f + 1) 100 ls st h k n = (oI (lget ls 1) (WP 30 G S f) 101 ls st h k n) := by rw [wp_s dd_30_100 rfl hs]; rfl
theorem dd_30_101 : decode (mB 30) 101 = .ok (.iaload, 1) := by decide +kernel
theorem u_30_101 {G : aG} {S : Nat → Bool} {f : Nat} {st : List Value} {ls : aL} {h : aH} {k n : Nat} {i : Int32} {a : Nat} (hs : S 101 = false) : WP 30 G S (f + 1) 101 ls (.int i :: .ref a :: st) h k n = (oIld (iget h a 1) i (WP 30 G S f) 102 ls st h k n) := by rw [wp_s dd_30_101 rfl hs]; rfl
theorem dd_30_102 : decode (mB 30) 102 = .ok (.iastore, 1) := by decide +kernel
theorem u_30_102 {G : aG} {S : Nat → Bool} {f : Nat} {st : List Value} {ls : aL} {h : aH} {k n : Nat} {i x : Int32} {a : Nat} (hs : S 102 = false) : WP 30 G S (f + 1) 102 ls (.int x :: .int i :: .ref a :: st) h k n = (oIst (iget h a 1) a i x (WP 30 G S f) 103 ls st h k n) := by rw [wp_s dd_30_102 rfl hs]; rfl
theorem dd_30_103 : decode (mB 30) 103 = .ok (.aload_n 0, 1) := by decide +kernel
theorem u_30_103 {G : aG} {S : Nat → Bool} {f : Nat} {st : List Value} {ls : aL} {h : aH} {k n : Nat} (hs : S 103 = false) : WP 30 G S (f + 1) 103 ls st h k n = (oA (lget ls 0) (WP 30 G S f) 104 ls st h k n) := by rw [wp_s dd_30_103 rfl hs]; rfl
theorem dd_30_104 : decode (mB 30) 104 = .ok (.getfield 32, 3) := by decide +kernel
theorem u_30_104 {G : aG} {S : Nat → Bool} {f : Nat} {st : List Value} {ls : aL} {h : aH} {k n : Nat} {a : Nat} (hs : S 104 = false) : WP 30 G S (f + 1) 104 ls (.ref a :: st) h k n = (oV (fget h a 2 8) (WP 30 G S f) 107 ls st h k n) := by rw [wp_s dd_30_104 rfl hs]; rfl
theorem dd_30_107 : decode (mB 30) 107 = .ok (.iload_n 1, 1) := by decide +kernel
theorem u_30_107 {G : aG} {S : Nat → Bool} {f : Nat} {st : List Value} {ls : aL} {h : aH} {k n : Nat} (hs : S 107 = false) : WP 30 G S (f + 1) 107 ls st h k n = (oI (lget ls 1) (WP 30 G S f) 108 ls st h k n) := by rw [wp_s dd_30_107 rfl hs]; rfl
theorem dd_30_108 : decode (mB 30) 108 = .ok (.iload_n 2, 1) := by decide +kernel
theorem u_30_108 {G : aG} {S : Nat → Bool} {f : Nat} {st : List Value} {ls : aL} {h : aH} {k n : Nat} (hs : S 108 = false) : WP 30 G S (f + 1) 108 ls st h k n = (oI (lget ls 2) (WP 30 G S f) 109 ls st h k n) := by rw [wp_s dd_30_108 rfl hs]; rfl
theorem dd_30_109 : decode (mB 30) 109 = .ok (.iastore, 1) := by decide +kernel
theorem u_30_109 {G : aG} {S : Nat → Bool} {f : Nat} {st : List Value} {ls : aL} {h : aH} {k n : Nat} {i x : Int32} {a : Nat} (hs : S 109 = false) : WP 30 G S (f + 1) 109 ls (.int x :: .int i :: .ref a :: st) h k n = (oIst (iget h a 1) a i x (WP 30 G S f) 110 ls st h k n) := by rw [wp_s dd_30_109 rfl hs]; rfl
theorem dd_30_110 : decode (mB 30) 110 = .ok (.iload_n 2, 1) := by decide +kernel
theorem u_30_110 {G : aG} {S : Nat → Bool} {f : Nat} {st : List Value} {ls : aL} {h : aH} {k n : Nat} (hs : S 110 = false) : WP 30 G S (f + 1) 110 ls st h k n = (oI (lget ls 2) (WP 30 G S f) 111 ls st h k n) := by rw [wp_s dd_30_110 rfl hs]; rfl
theorem dd_30_111 : decode (mB 30) 111 = .ok (.ireturn, 1) := by decide +kernel
theorem u_30_111 {G : aG} {S : Nat → Bool} {f : Nat} {ls : aL} {h : aH} {k n : Nat} {x : Int32} (hs : S 111 = false) : WP 30 G S (f + 1) 111 ls [.int x] h k n = (RET G (some (.int x)) h k n) := by rw [wp_s dd_30_111 rfl hs]; rfl
theorem dd_31_0 : decode (mB 31) 0 = .ok (.aload_n 0, 1) := by decide +kernel
theorem u_31_0 {G : aG} {S : Nat → Bool} {f : Nat} {st : List Value} {ls : aL} {h : aH} {k n : Nat} (hs : S 0 = false) : WP 31 G S (f + 1) 0 ls st h k n = (oA (lget ls 0) (WP 31 G S f) 1 ls st h k n) := by rw [wp_s dd_31_0 rfl hs]; rfl
theorem dd_31_1 : decode (mB 31) 1 = .ok (.getfield 71, 3) := by decide +kernel
theorem u_31_1 {G : aG} {S : Nat → Bool} {f : Nat} {st : List Value} {ls : aL} {h : aH} {k n : Nat} {a : Nat} (hs : S 1 = false) : WP 31 G S (f + 1) 1 ls (.ref a :: st) h k n = (oV (fget h a 2 3) (WP 31 G S f) 4 ls st h k n) := by rw [wp_s dd_31_1 rfl hs]; rfl
theorem dd_31_4 : decode (mB 31) 4 = .ok (.aload_n 0, 1) := by decide +kernel
theorem u_31_4 {G : aG} {S : Nat → Bool} {f : Nat} {st : List Value} {ls : aL} {h : aH} {k n : Nat} (hs : S 4 = false) : WP 31 G S (f + 1) 4 ls st h k n = (oA (lget ls 0) (WP 31 G S f) 5 ls st h k n) := by rw [wp_s dd_31_4 rfl hs]; rfl
theorem dd_31_5 : decode (mB 31) 5 = .ok (.getfield 26, 3) := by decide +kernel
theorem u_31_5 {G : aG} {S : Nat → Bool} {f : Nat} {st : List Value} {ls : aL} {h : aH} {k n : Nat} {a : Nat} (hs : S 5 = false) : WP 31 G S (f + 1) 5 ls (.ref a :: st) h k n = (oV (fget h a 2 6) (WP 31 G S f) 8 ls st h k n) := by rw [wp_s dd_31_5 rfl hs]; rfl
theorem dd_31_8 : decode (mB 31) 8 = .ok (.arraylength, 1) := by decide +kernel
theorem u_31_8 {G : aG} {S : Nat → Bool} {f : Nat} {st : List Value} {ls : aL} {h : aH} {k n : Nat} {a : Nat} (hs : S 8 = false) : WP 31 G S (f + 1) 8 ls (.ref a :: st) h k n = (oLen (alen h a) (WP 31 G S f) 9 ls st h k n) := by rw [wp_s dd_31_8 rfl hs]; rfl
theorem dd_31_9 : decode (mB 31) 9 = .ok (.if_icmp .lt 57, 3) := by decide +kernel
theorem u_31_9 {G : aG} {S : Nat → Bool} {f : Nat} {st : List Value} {ls : aL} {h : aH} {k n : Nat} {x y : Int32} (hs : S 9 = false) : WP 31 G S (f + 1) 9 ls (.int y :: .int x :: st) h k n = (if x < y then WP 31 G S f 66 ls st h k n else WP 31 G S f 12 ls st h k n) := by rw [wp_s dd_31_9 rfl hs]; exact br_ite (c := x < y)
theorem dd_31_12 : decode (mB 31) 12 = .ok (.aload_n 0, 1) := by decide +kernel
theorem u_31_12 {G : aG} {S : Nat → Bool} {f : Nat} {st : List Value} {ls : aL} {h : aH} {k n : Nat} (hs : S 12 = false) : WP 31 G S (f + 1) 12 ls st h k n = (oA (lget ls 0) (WP 31 G S f) 13 ls st h k n) := by rw [wp_s dd_31_12 rfl hs]; rfl
theorem dd_31_13 : decode (mB 31) 13 = .ok (.aload_n 0, 1) := by decide +kernel
theorem u_31_13 {G : aG} {S : Nat → Bool} {f : Nat} {st : List Value} {ls : aL} {h : aH} {k n : Nat} (hs : S 13 = false) : WP 31 G S (f + 1) 13 ls st h k n = (oA (lget ls 0) (WP 31 G S f) 14 ls st h k n) := by rw [wp_s dd_31_13 rfl hs]; rfl
theorem dd_31_14 : decode (mB 31) 14 = .ok (.getfield 26, 3) := by decide +kernel
theorem u_31_14 {G : aG} {S : Nat → Bool} {f : Nat} {st : List Value} {ls : aL} {h : aH} {k n : Nat} {a : Nat} (hs : S 14 = false) : WP 31 G S (f + 1) 14 ls (.ref a :: st) h k n = (oV (fget h a 2 6) (WP 31 G S f) 17 ls st h k n) := by rw [wp_s dd_31_14 rfl hs]; rfl
theorem dd_31_17 : decode (mB 31) 17 = .ok (.iconst 2, 1) := by decide +kernel
theorem u_31_17 {G : aG} {S : Nat → Bool} {f : Nat} {st : List Value} {ls : aL} {h : aH} {k n : Nat} (hs : S 17 = false) : WP 31 G S (f + 1) 17 ls st h k n = (WP 31 G S f 18 ls (.int (nI 2) :: st) h k n) := by rw [wp_s dd_31_17 rfl hs]; rfl
theorem dd_31_18 : decode (mB 31) 18 = .ok (.aload_n 0, 1) := by decide +kernel
theorem u_31_18 {G : aG} {S : Nat → Bool} {f : Nat} {st : List Value} {ls : aL} {h : aH} {k n : Nat} (hs : S 18 = false) : WP 31 G S (f + 1) 18 ls st h k n = (oA (lget ls 0) (WP 31 G S f) 19 ls st h k n) := by rw [wp_s dd_31_18 rfl hs]; rfl
theorem dd_31_19 : decode (mB 31) 19 = .ok (.getfield 71, 3) := by decide +kernel
theorem u_31_19 {G : aG} {S : Nat → Bool} {f : Nat} {st : List Value} {ls : aL} {h : aH} {k n : Nat} {a : Nat} (hs : S 19 = false) : WP 31 G S (f + 1) 19 ls (.ref a :: st) h k n = (oV (fget h a 2 3) (WP 31 G S f) 22 ls st h k n) := by rw [wp_s dd_31_19 rfl hs]; rfl
theorem dd_31_22 : decode (mB 31) 22 = .ok (.imul, 1) := by decide +kernel
theorem u_31_22 {G : aG} {S : Nat → Bool} {f : Nat} {st : List Value} {ls : aL} {h : aH} {k n : Nat} {x y : Int32} (hs : S 22 = false) : WP 31 G S (f + 1) 22 ls (.int y :: .int x :: st) h k n = (WP 31 G S f 23 ls (.int (x * y) :: st) h k n) := by rw [wp_s dd_31_22 rfl hs]; rfl
theorem dd_31_23 : decode (mB 31) 23 = .ok (.invokestatic 133, 3) := by decide +kernel
theorem u_31_23 {G : aG} {S : Nat → Bool} {f : Nat} {st : List Value} {ls : aL} {h : aH} {k n : Nat} {v1 v2 : Value} (hs : S 23 = false) : WP 31 G S (f + 1) 23 ls (v2 :: v1 :: st) h k n = (CAL G (WP 31 G S f) 21 [v1, v2] 26 ls st h k n) := by rw [wp_s dd_31_23 rfl hs]; rfl
theorem dd_31_26 : decode (mB 31) 26 = .ok (.putfield 26, 3) := by decide +kernel
theorem u_31_26 {G : aG} {S : Nat → Bool} {f : Nat} {st : List Value} {ls : aL} {h : aH} {k n : Nat} {a : Nat} {x : Nat} (hs : S 26 = false) : WP 31 G S (f + 1) 26 ls (.ref x :: .ref a :: st) h k n = (oH (fput h a 2 6 (.ref x)) (WP 31 G S f) 29 ls st k n) := by rw [wp_s dd_31_26 rfl hs]; rfl
theorem dd_31_29 : decode (mB 31) 29 = .ok (.aload_n 0, 1) := by decide +kernel
theorem u_31_29 {G : aG} {S : Nat → Bool} {f : Nat} {st : List Value} {ls : aL} {h : aH} {k n : Nat} (hs : S 29 = false) : WP 31 G S (f + 1) 29 ls st h k n = (oA (lget ls 0) (WP 31 G S f) 30 ls st h k n) := by rw [wp_s dd_31_29 rfl hs]; rfl
theorem dd_31_30 : decode (mB 31) 30 = .ok (.aload_n 0, 1) := by decide +kernel
theorem u_31_30 {G : aG} {S : Nat → Bool} {f : Nat} {st : List Value} {ls : aL} {h : aH} {k n : Nat} (hs : S 30 = false) : WP 31 G S (f + 1) 30 ls st h k n = (oA (lget ls 0) (WP 31 G S f) 31 ls st h k n) := by rw [wp_s dd_31_30 rfl hs]; rfl
theorem dd_31_31 : decode (mB 31) 31 = .ok (.getfield 29, 3) := by decide +kernel
theorem u_31_31 {G : aG} {S : Nat → Bool} {f : Nat} {st : List Value} {ls : aL} {h : aH} {k n : Nat} {a : Nat} (hs : S 31 = false) : WP 31 G S (f + 1) 31 ls (.ref a :: st) h k n = (oV (fget h a 2 7) (WP 31 G S f) 34 ls st h k n) := by rw [wp_s dd_31_31 rfl hs]; rfl
theorem dd_31_34 : decode (mB 31) 34 = .ok (.iconst 2, 1) := by decide +kernel
theorem u_31_34 {G : aG} {S : Nat → Bool} {f : Nat} {st : List Value} {ls : aL} {h : aH} {k n : Nat} (hs : S 34 = false) : WP 31 G S (f + 1) 34 ls st h k n = (WP 31 G S f 35 ls (.int (nI 2) :: st) h k n) := by rw [wp_s dd_31_34 rfl hs]; rfl
theorem dd_31_35 : decode (mB 31) 35 = .ok (.aload_n 0, 1) := by decide +kernel
theorem u_31_35 {G : aG} {S : Nat → Bool} {f : Nat} {st : List Value} {ls : aL} {h : aH} {k n : Nat} (hs : S 35 = false) : WP 31 G S (f + 1) 35 ls st h k n = (oA (lget ls 0) (WP 31 G S f) 36 ls st h k n) := by rw [wp_s dd_31_35 rfl hs]; rfl
theorem dd_31_36 : decode (mB 31) 36 = .ok (.getfield 71, 3) := by decide +kernel
theorem u_31_36 {G : aG} {S : Nat → Bool} {f : Nat} {st : List Value} {ls : aL} {h : aH} {k n : Nat} {a : Nat} (hs : S 36 = false) : WP 31 G S (f + 1) 36 ls (.ref a :: st) h k n = (oV (fget h a 2 3) (WP 31 G S f) 39 ls st h k n) := by rw [wp_s dd_31_36 rfl hs]; rfl
theorem dd_31_39 : decode (mB 31) 39 = .ok (.imul, 1) := by decide +kernel
theorem u_31_39 {G : aG} {S : Nat → Bool} {f : Nat} {st : List Value} {ls : aL} {h : aH} {k n : Nat} {x y : Int32} (hs : S 39 = false) : WP 31 G S (f + 1) 39 ls (.int y :: .int x :: st) h k n = (WP 31 G S f 40 ls (.int (x * y) :: st) h k n) := by rw [wp_s dd_31_39 rfl hs]; rfl
theorem dd_31_40 : decode (mB 31) 40 = .ok (.invokestatic 133, 3) := by decide +kernel
theorem u_31_40 {G : aG} {S : Nat → Bool} {f : Nat} {st : List Value} {ls : aL} {h : aH} {k n : Nat} {v1 v2 : Value} (hs : S 40 = false) : WP 31 G S (f + 1) 40 ls (v2 :: v1 :: st) h k n = (CAL G (WP 31 G S f) 21 [v1, v2] 43 ls st h k n) := by rw [wp_s dd_31_40 rfl hs]; rfl
theorem dd_31_43 : decode (mB 31) 43 = .ok (.putfield 29, 3) := by decide +kernel
theorem u_31_43 {G : aG} {S : Nat → Bool} {f : Nat} {st : List Value} {ls : aL} {h : aH} {k n : Nat} {a : Nat} {x : Nat} (hs : S 43 = false) : WP 31 G S (f + 1) 43 ls (.ref x :: .ref a :: st) h k n = (oH (fput h a 2 7 (.ref x)) (WP 31 G S f) 46 ls st k n) := by rw [wp_s dd_31_43 rfl hs]; rfl
theorem dd_31_46 : decode (mB 31) 46 = .ok (.aload_n 0, 1) := by decide +kernel
theorem u_31_46 {G : aG} {S : Nat → Bool} {f : Nat} {st : List Value} {ls : aL} {h : aH} {k n : Nat} (hs : S 46 = false) : WP 31 G S (f + 1) 46 ls st h k n = (oA (lget ls 0) (WP 31 G S f) 47 ls st h k n) := by rw [wp_s dd_31_46 rfl hs]; rfl
theorem dd_31_47 : decode (mB 31) 47 = .ok (.aload_n 0, 1) := by decide +kernel
theorem u_31_47 {G : aG} {S : Nat → Bool} {f : Nat} {st : List Value} {ls : aL} {h : aH} {k n : Nat} (hs : S 47 = false) : WP 31 G S (f + 1) 47 ls st h k n = (oA (lget ls 0) (WP 31 G S f) 48 ls st h k n) := by rw [wp_s dd_31_47 rfl hs]; rfl
theorem dd_31_48 : decode (mB 31) 48 = .ok (.getfield 22, 3) := by decide +kernel
theorem u_31_48 {G : aG} {S : Nat → Bool} {f : Nat} {st : List Value} {ls : aL} {h : aH} {k n : Nat} {a : Nat} (hs : S 48 = false) : WP 31 G S (f + 1) 48 ls (.ref a :: st) h k n = (oV (fget h a 2 5) (WP 31 G S f) 51 ls st h k n) := by rw [wp_s dd_31_48 rfl hs]; rfl
theorem dd_31_51 : decode (mB 31) 51 = .ok (.iconst 2, 1) := by decide +kernel
theorem u_31_51 {G : aG} {S : Nat → Bool} {f : Nat} {st : List Value} {ls : aL} {h : aH} {k n : Nat} (hs : S 51 = false) : WP 31 G S (f + 1) 51 ls st h k n = (WP 31 G S f 52 ls (.int (nI 2) :: st) h k n) := by rw [wp_s dd_31_51 rfl hs]; rfl
theorem dd_31_52 : decode (mB 31) 52 = .ok (.aload_n 0, 1) := by decide +kernel
theorem u_31_52 {G : aG} {S : Nat → Bool} {f : Nat} {st : List Value} {ls : aL} {h : aH} {k n : Nat} (hs : S 52 = false) : WP 31 G S (f + 1) 52 ls st h k n = (oA (lget ls 0) (WP 31 G S f) 53 ls st h k n) := by rw [wp_s dd_31_52 rfl hs]; rfl
theorem dd_31_53 : decode (mB 31) 53 = .ok (.getfield 71, 3) := by decide +kernel
theorem u_31_53 {G : aG} {S : Nat → Bool} {f : Nat} {st : List Value} {ls : aL} {h : aH} {k n : Nat} {a : Nat} (hs : S 53 = false) : WP 31 G S (f + 1) 53 ls (.ref a :: st) h k n = (oV (fget h a 2 3) (WP 31 G S f) 56 ls st h k n) := by rw [wp_s dd_31_53 rfl hs]; rfl
theorem dd_31_56 : decode (mB 31) 56 = .ok (.imul, 1) := by decide +kernel
theorem u_31_56 {G : aG} {S : Nat → Bool} {f : Nat} {st : List Value} {ls : aL} {h : aH} {k n : Nat} {x y : Int32} (hs : S 56 = false) : WP 31 G S (f + 1) 56 ls (.int y :: .int x :: st) h k n = (WP 31 G S f 57 ls (.int (x * y) :: st) h k n) := by rw [wp_s dd_31_56 rfl hs]; rfl
theorem dd_31_57 : decode (mB 31) 57 = .ok (.bipush 8, 2) := by decide +kernel
theorem u_31_57 {G : aG} {S : Nat → Bool} {f : Nat} {st : List Value} {ls : aL} {h : aH} {k n : Nat} (hs : S 57 = false) : WP 31 G S (f + 1) 57 ls st h k n = (WP 31 G S f 59 ls (.int (nI 8) :: st) h k n) := by rw [wp_s dd_31_57 rfl hs]; rfl
theorem dd_31_59 : decode (mB 31) 59 = .ok (.imul, 1) := by decide +kernel
theorem u_31_59 {G : aG} {S : Nat → Bool} {f : Nat} {st : List Value} {ls : aL} {h : aH} {k n : Nat} {x y : Int32} (hs : S 59 = false) : WP 31 G S (f + 1) 59 ls (.int y :: .int x :: st) h k n = (WP 31 G S f 60 ls (.int (x * y) :: st) h k n) := by rw [wp_s dd_31_59 rfl hs]; rfl
theorem dd_31_60 : decode (mB 31) 60 = .ok (.invokestatic 133, 3) := by decide +kernel
theorem u_31_60 {G : aG} {S : Nat → Bool} {f : Nat} {st : List Value} {ls : aL} {h : aH} {k n : Nat} {v1 v2 : Value} (hs : S 60 = false) : WP 31 G S (f + 1) 60 ls (v2 :: v1 :: st) h k n = (CAL G (WP 31 G S f) 21 [v1, v2] 63 ls st h k n) := by rw [wp_s dd_31_60 rfl hs]; rfl
theorem dd_31_63 : decode (mB 31) 63 = .ok (.putfield 22, 3) := by decide +kernel
theorem u_31_63 {G : aG} {S : Nat → Bool} {f : Nat} {st : List Value} {ls : aL} {h : aH} {k n : Nat} {a : Nat} {x : Nat} (hs : S 63 = false) : WP 31 G S (f + 1) 63 ls (.ref x :: .ref a :: st) h k n = (oH (fput h a 2 5 (.ref x)) (WP 31 G S f) 66 ls st k n) := by rw [wp_s dd_31_63 rfl hs]; rfl
theorem dd_31_66 : decode (mB 31) 66 = .ok (.aload_n 0, 1) := by decide +kernel
theorem u_31_66 {G : aG} {S : Nat → Bool} {f : Nat} {st : List Value} {ls : aL} {h : aH} {k n : Nat} (hs : S 66 = false) : WP 31 G S (f + 1) 66 ls st h k n = (oA (lget ls 0) (WP 31 G S f) 67 ls st h k n) := by rw [wp_s dd_31_66 rfl hs]; rfl
theorem dd_31_67 : decode (mB 31) 67 = .ok (.getfield 18, 3) := by decide +kernel
theorem u_31_67 {G : aG} {S : Nat → Bool} {f : Nat} {st : List Value} {ls : aL} {h : aH} {k n : Nat} {a : Nat} (hs : S 67 = false) : WP 31 G S (f + 1) 67 ls (.ref a :: st) h k n = (oV (fget h a 2 4) (WP 31 G S f) 70 ls st h k n) := by rw [wp_s dd_31_67 rfl hs]; rfl
theorem dd_31_70 : decode (mB 31) 70 = .ok (.arraylength, 1) := by decide +kernel
theorem u_31_70 {G : aG} {S : Nat → Bool} {f : Nat} {st : List Value} {ls : aL} {h : aH} {k n : Nat} {a : Nat} (hs : S 70 = false) : WP 31 G S (f + 1) 70 ls (.ref a :: st) h k n = (oLen (alen h a) (WP 31 G S f) 71 ls st h k n) := by rw [wp_s dd_31_70 rfl hs]; rfl
theorem dd_31_71 : decode (mB 31) 71 = .ok (.aload_n 0, 1) := by decide +kernel
theorem u_31_71 {G : aG} {S : Nat → Bool} {f : Nat} {st : List Value} {ls : aL} {h : aH} {k n : Nat} (hs : S 71 = false) : WP 31 G S (f + 1) 71 ls st h k n = (oA (lget ls 0) (WP 31 G S f) 72 ls st h k n) := by rw [wp_s dd_31_71 rfl hs]; rfl
theorem dd_31_72 : decode (mB 31) 72 = .ok (.getfield 26, 3) := by decide +kernel
theorem u_31_72 {G : aG} {S : Nat → Bool} {f : Nat} {st : List Value} {ls : aL} {h : aH} {k n : Nat} {a : Nat} (hs : S 72 = false) : WP 31 G S (f + 1) 72 ls (.ref a :: st) h k n = (oV (fget h a 2 6) (WP 31 G S f) 75 ls st h k n) := by rw [wp_s dd_31_72 rfl hs]; rfl
theorem dd_31_75 : decode (mB 31) 75 = .ok (.arraylength, 1) := by decide +kernel
theorem u_31_75 {G : aG} {S : Nat → Bool} {f : Nat} {st : List Value} {ls : aL} {h : aH} {k n : Nat} {a : Nat} (hs : S 75 = false) : WP 31 G S (f + 1) 75 ls (.ref a :: st) h k n = (oLen (alen h a) (WP 31 G S f) 76 ls st h k n) := by rw [wp_s dd_31_75 rfl hs]; rfl
theorem dd_31_76 : decode (mB 31) 76 = .ok (.aload_n 0, 1) := by decide +kernel
theorem u_31_76 {G : aG} {S : Nat → Bool} {f : Nat} {st : List Value} {ls : aL} {h : aH} {k n : Nat} (hs : S 76 = false) : WP 31 G S (f + 1) 76 ls st h k n = (oA (lget ls 0) (WP 31 G S f) 77 ls st h k n) := by rw [wp_s dd_31_76 rfl hs]; rfl
theorem dd_31_77 : decode (mB 31) 77 = .ok (.getfield 68, 3) := by decide +kernel
theorem u_31_77 {G : aG} {S : Nat → Bool} {f : Nat} {st : List Value} {ls : aL} {h : aH} {k n : Nat} {a : Nat} (hs : S 77 = false) : WP 31 G S (f + 1) 77 ls (.ref a :: st) h k n = (oV (fget h a 2 2) (WP 31 G S f) 80 ls st h k n) := by rw [wp_s dd_31_77 rfl hs]; rfl
theorem dd_31_80 : decode (mB 31) 80 = .ok (.imul, 1) := by decide +kernel
theorem u_31_80 {G : aG} {S : Nat → Bool} {f : Nat} {st : List Value} {ls : aL} {h : aH} {k n : Nat} {x y : Int32} (hs : S 80 = false) : WP 31 G S (f + 1) 80 ls (.int y :: .int x :: st) h k n = (WP 31 G S f 81 ls (.int (x * y) :: st) h k n) := by rw [wp_s dd_31_80 rfl hs]; rfl
theorem dd_31_81 : decode (mB 31) 81 = .ok (.if_icmp .ge 24, 3) := by decide +kernel
theorem u_31_81 {G : aG} {S : Nat → Bool} {f : Nat} {st : List Value} {ls : aL} {h : aH} {k n : Nat} {x y : Int32} (hs : S 81 = false) : WP 31 G S (f + 1) 81 ls (.int y :: .int x :: st) h k n = (if y ≤ x then WP 31 G S f 105 ls st h k n else WP 31 G S f 84 ls st h k n) := by rw [wp_s dd_31_81 rfl hs]; exact br_ite (c := y ≤ x)
theorem dd_31_84 : decode (mB 31) 84 = .ok (.aload_n 0, 1) := by decide +kernel
theorem u_31_84 {G : aG} {S : Nat → Bool} {f : Nat} {st : List Value} {ls : aL} {h : aH} {k n : Nat} (hs : S 84 = false) : WP 31 G S (f + 1) 84 ls st h k n = (oA (lget ls 0) (WP 31 G S f) 85 ls st h k n) := by rw [wp_s dd_31_84 rfl hs]; rfl
theorem dd_31_85 : decode (mB 31) 85 = .ok (.aload_n 0, 1) := by decide +kernel
theorem u_31_85 {G : aG} {S : Nat → Bool} {f : Nat} {st : List Value} {ls : aL} {h : aH} {k n : Nat} (hs : S 85 = false) : WP 31 G S (f + 1) 85 ls st h k n = (oA (lget ls 0) (WP 31 G S f) 86 ls st h k n) := by rw [wp_s dd_31_85 rfl hs]; rfl
theorem dd_31_86 : decode (mB 31) 86 = .ok (.getfield 18, 3) := by decide +kernel
theorem u_31_86 {G : aG} {S : Nat → Bool} {f : Nat} {st : List Value} {ls : aL} {h : aH} {k n : Nat} {a : Nat} (hs : S 86 = false) : WP 31 G S (f + 1) 86 ls (.ref a :: st) h k n = (oV (fget h a 2 4) (WP 31 G S f) 89 ls st h k n) := by rw [wp_s dd_31_86 rfl hs]; rfl
theorem dd_31_89 : decode (mB 31) 89 = .ok (.aload_n 0, 1) := by decide +kernel
theorem u_31_89 {G : aG} {S : Nat → Bool} {f : Nat} {st : List Value} {ls : aL} {h : aH} {k n : Nat} (hs : S 89 = false) : WP 31 G S (f + 1) 89 ls st h k n = (oA (lget ls 0) (WP 31 G S f) 90 ls st h k n) := by rw [wp_s dd_31_89 rfl hs]; rfl
theorem dd_31_90 : decode (mB 31) 90 = .ok (.getfield 26, 3) := by decide +kernel
theorem u_31_90 {G : aG} {S : Nat → Bool} {f : Nat} {st : List Value} {ls : aL} {h : aH} {k n : Nat} {a : Nat} (hs : S 90 = false) : WP 31 G S (f + 1) 90 ls (.ref a :: st) h k n = (oV (fget h a 2 6) (WP 31 G S f) 93 ls st h k n) := by rw [wp_s dd_31_90 rfl hs]; rfl
theorem dd_31_93 : decode (mB 31) 93 = .ok (.arraylength, 1) := by decide +kernel
theorem u_31_93 {G : aG} {S : Nat → Bool} {f : Nat} {st : List Value} {ls : aL} {h : aH} {k n : Nat} {a : Nat} (hs : S 93 = false) : WP 31 G S (f + 1) 93 ls (.ref a :: st) h k n = (oLen (alen h a) (WP 31 G S f) 94 ls st h k n) := by rw [wp_s dd_31_93 rfl hs]; rfl
theorem dd_31_94 : decode (mB 31) 94 = .ok (.aload_n 0, 1) := by decide +kernel
theorem u_31_94 {G : aG} {S : Nat → Bool} {f : Nat} {st : List Value} {ls : aL} {h : aH} {k n : Nat} (hs : S 94 = false) : WP 31 G S (f + 1) 94 ls st h k n = (oA (lget ls 0) (WP 31 G S f) 95 ls st h k n) := by rw [wp_s dd_31_94 rfl hs]; rfl
theorem dd_31_95 : decode (mB 31) 95 = .ok (.getfield 68, 3) := by decide +kernel
theorem u_31_95 {G : aG} {S : Nat → Bool} {f : Nat} {st : List Value} {ls : aL} {h : aH} {k n : Nat} {a : Nat} (hs : S 95 = false) : WP 31 G S (f + 1) 95 ls (.ref a :: st) h k n = (oV (fget h a 2 2) (WP 31 G S f) 98 ls st h k n) := by rw [wp_s dd_31_95 rfl hs]; rfl
theorem dd_31_98 : decode (mB 31) 98 = .ok (.imul, 1) := by decide +kernel
theorem u_31_98 {G : aG} {S : Nat → Bool} {f : Nat} {st : List Value} {ls : aL} {h : aH} {k n : Nat} {x y : Int32} (hs : S 98 = false) : WP 31 G S (f + 1) 98 ls (.int y :: .int x :: st) h k n = (WP 31 G S f 99 ls (.int (x * y) :: st) h k n) := by rw [wp_s dd_31_98 rfl hs]; rfl
theorem dd_31_99 : decode (mB 31) 99 = .ok (.invokestatic 137, 3) := by decide +kernel
theorem u_31_99 {G : aG} {S : Nat → Bool} {f : Nat} {st : List Value} {ls : aL} {h : aH} {k n : Nat} {v1 v2 : Value} (hs : S 99 = false) : WP 31 G S (f + 1) 99 ls (v2 :: v1 :: st) h k n = (CAL G (WP 31 G S f) 32 [v1, v2] 102 ls st h k n) := by rw [wp_s dd_31_99 rfl hs]; rfl
theorem dd_31_102 : decode (mB 31) 102 = .ok (.putfield 18, 3) := by decide +kernel
theorem u_31_102 {G : aG} {S : Nat → Bool} {f : Nat} {st : List Value} {ls : aL} {h : aH} {k n : Nat} {a : Nat} {x : Nat} (hs : S 102 = false) : WP 31 G S (f + 1) 102 ls (.ref x :: .ref a :: st) h k n = (oH (fput h a 2 4 (.ref x)) (WP 31 G S f) 105 ls st k n) := by rw [wp_s dd_31_102 rfl hs]; rfl
theorem dd_31_105 : decode (mB 31) 105 = .ok (.return_, 1) := by decide +kernel
theorem u_31_105 {G : aG} {S : Nat → Bool} {f : Nat} {ls : aL} {h : aH} {k n : Nat} (hs : S 105 = false) : WP 31 G S (f + 1) 105 ls [] h k n = (RET G none h k n) := by rw [wp_s dd_31_105 rfl hs]; rfl
theorem dd_58_0 : decode (mB 58) 0 = .ok (.aload_n 0, 1) := by decide +kernel
theorem u_58_0 {G : aG} {S : Nat → Bool} {f : Nat} {st : List Value} {ls : aL} {h : aH} {k n : Nat} (hs : S 0 = false) : WP 58 G S (f + 1) 0 ls st h k n = (oA (lget ls 0) (WP 58 G S f) 1 ls st h k n) := by rw [wp_s dd_58_0 rfl hs]; rfl
theorem dd_58_1 : decode (mB 58) 1 = .ok (.getfield 11, 3) := by decide +kernel
theorem u_58_1 {G : aG} {S : Nat → Bool} {f : Nat} {st : List Value} {ls : aL} {h : aH} {k n : Nat} {a : Nat} (hs : S 1 = false) : WP 58 G S (f + 1) 1 ls (.ref a :: st) h k n = (oV (fget h a 3 0) (WP 58 G S f) 4 ls st h k n) := by rw [wp_s dd_58_1 rfl hs]; rfl
theorem dd_58_4 : decode (mB 58) 4 = .ok (.iload_n 1, 1) := by decide +kernel
theorem u_58_4 {G : aG} {S : Nat → Bool} {f : Nat} {st : List Value} {ls : aL} {h : aH} {k n : Nat} (hs : S 4 = false) : WP 58 G S (f + 1) 4 ls st h k n = (oI (lget ls 1) (WP 58 G S f) 5 ls st h k n) := by rw [wp_s dd_58_4 rfl hs]; rfl
theorem dd_58_5 : decode (mB 58) 5 = .ok (.invokestatic 22, 3) := by decide +kernel
theorem u_58_5 {G : aG} {S : Nat → Bool} {f : Nat} {st : List Value} {ls : aL} {h : aH} {k n : Nat} {v1 : Value} (hs : S 5 = false) : WP 58 G S (f + 1) 5 ls (v1 :: st) h k n = (CAL G (WP 58 G S f) 52 [v1] 8 ls st h k n) := by rw [wp_s dd_58_5 rfl hs]; rfl
theorem dd_58_8 : decode (mB 58) 8 = .ok (.ifCond .eq 7, 3) := by decide +kernel
theorem u_58_8 {G : aG} {S : Nat → Bool} {f : Nat} {st : List Value} {ls : aL} {h : aH} {k n : Nat} {x : Int32} (hs : S 8 = false) : WP 58 G S (f + 1) 8 ls (.int x :: st) h k n = (if x = nI 0 then WP 58 G S f 15 ls st h k n else WP 58 G S f 11 ls st h k n) := by rw [wp_s dd_58_8 rfl hs]; exact br_ite (c := x = nI 0)
theorem dd_58_11 : decode (mB 58) 11 = .ok (.iload_n 1, 1) := by decide +kernel
theorem u_58_11 {G : aG} {S : Nat → Bool} {f : Nat} {st : List Value} {ls : aL} {h : aH} {k n : Nat} (hs : S 11 = false) : WP 58 G S (f + 1) 11 ls st h k n = (oI (lget ls 1) (WP 58 G S f) 12 ls st h k n) := by rw [wp_s dd_58_11 rfl hs]; rfl
theorem dd_58_12 : decode (mB 58) 12 = .ok (.goto 5, 3) := by decide +kernel
theorem u_58_12 {G : aG} {S : Nat → Bool} {f : Nat} {st : List Value} {ls : aL} {h : aH} {k n : Nat} (hs : S 12 = false) : WP 58 G S (f + 1) 12 ls st h k n = (WP 58 G S f 17 ls st h k n) := by rw [wp_s dd_58_12 rfl hs]; rfl
theorem dd_58_15 : decode (mB 58) 15 = .ok (.bipush 8, 2) := by decide +kernel
theorem u_58_15 {G : aG} {S : Nat → Bool} {f : Nat} {st : List Value} {ls : aL} {h : aH} {k n : Nat} (hs : S 15 = false) : WP 58 G S (f + 1) 15 ls st h k n = (WP 58 G S f 17 ls (.int (nI 8) :: st) h k n) := by rw [wp_s dd_58_15 rfl hs]; rfl
theorem dd_58_17 : decode (mB 58) 17 = .ok (.aaload, 1) := by decide +kernel
theorem u_58_17 {G : aG} {S : Nat → Bool} {f : Nat} {st : List Value} {ls : aL} {h : aH} {k n : Nat} {i : Int32} {a : Nat} (hs : S 17 = false) : WP 58 G S (f + 1) 17 ls (.int i :: .ref a :: st) h k n = (oQld (qget h a) i (WP 58 G S f) 18 ls st h k n) := by rw [wp_s dd_58_17 rfl hs]; rfl
theorem dd_58_18 : decode (mB 58) 18 = .ok (.areturn, 1) := by decide +kernel
theorem u_58_18 {G : aG} {S : Nat → Bool} {f : Nat} {ls : aL} {h : aH} {k n : Nat} {a : Nat} (hs : S 18 = false) : WP 58 G S (f + 1) 18 ls [.ref a] h k n = (RET G (some (.ref a)) h k n) := by rw [wp_s dd_58_18 rfl hs]; rfl
theorem dd_60_0 : decode (mB 60) 0 = .ok (.aload_n 0, 1) := by decide +kernel
theorem u_60_0 {G : aG} {S : Nat → Bool} {f : Nat} {st : List Value} {ls : aL} {h : aH} {k n : Nat} (hs : S 0 = false) : WP 60 G S (f + 1) 0 ls st h k n = (oA (lget ls 0) (WP 60 G S f) 1 ls st h k n) := by rw [wp_s dd_60_0 rfl hs]; rfl
theorem dd_60_1 : decode (mB 60) 1 = .ok (.iload_n 1, 1) := by decide +kernel
theorem u_60_1 {G : aG} {S : Nat → Bool} {f : Nat} {st : List Value} {ls : aL} {h : aH} {k n : Nat} (hs : S 1 = false) : WP 60 G S (f + 1) 1 ls st h k n = (oI (lget ls 1) (WP 60 G S f) 2 ls st h k n) := by rw [wp_s dd_60_1 rfl hs]; rfl
theorem dd_60_2 : decode (mB 60) 2 = .ok (.invokevirtual 94, 3) := by decide +kernel
theorem u_60_2 {G : aG} {S : Nat → Bool} {f : Nat} {st : List Value} {ls : aL} {h : aH} {k n : Nat} {v1 : Value} {b : Nat} (hs : S 2 = false) : WP 60 G S (f + 1) 2 ls (v1 :: .ref b :: st) h k n = (rcv (hget h b) 2 ∧ CAL G (WP 60 G S f) 61 [.ref b, v1] 5 ls st h k n) := by rw [wp_s dd_60_2 rfl hs]; rfl
theorem dd_60_5 : decode (mB 60) 5 = .ok (.sipush 256, 3) := by decide +kernel
theorem u_60_5 {G : aG} {S : Nat → Bool} {f : Nat} {st : List Value} {ls : aL} {h : aH} {k n : Nat} (hs : S 5 = false) : WP 60 G S (f + 1) 5 ls st h k n = (WP 60 G S f 8 ls (.int (nI 256) :: st) h k n) := by rw [wp_s dd_60_5 rfl hs]; rfl
theorem dd_60_8 : decode (mB 60) 8 = .ok (.iand, 1) := by decide +kernel
theorem u_60_8 {G : aG} {S : Nat → Bool} {f : Nat} {st : List Value} {ls : aL} {h : aH} {k n : Nat} {x y : Int32} (hs : S 8 = false) : WP 60 G S (f + 1) 8 ls (.int y :: .int x :: st) h k n = (WP 60 G S f 9 ls (.int (x &&& y) :: st) h k n) := by rw [wp_s dd_60_8 rfl hs]; rfl
theorem dd_60_9 : decode (mB 60) 9 = .ok (.ifCond .eq 7, 3) := by decide +kernel
theorem u_60_9 {G : aG} {S : Nat → Bool} {f : Nat} {st : List Value} {ls : aL} {h : aH} {k n : Nat} {x : Int32} (hs : S 9 = false) : WP 60 G S (f + 1) 9 ls (.int x :: st) h k n = (if x = nI 0 then WP 60 G S f 16 ls st h k n else WP 60 G S f 12 ls st h k n) := by rw [wp_s dd_60_9 rfl hs]; exact br_ite (c := x = nI 0)
theorem dd_60_12 : decode (mB 60) 12 = .ok (.iconst 1, 1) := by decide +kernel
theorem u_60_12 {G : aG} {S : Nat → Bool} {f : Nat} {st : List Value} {ls : aL} {h : aH} {k n : Nat} (hs : S 12 = false) : WP 60 G S (f + 1) 12 ls st h k n = (WP 60 G S f 13 ls (.int (nI 1) :: st) h k n) := by rw [wp_s dd_60_12 rfl hs]; rfl
theorem dd_60_13 : decode (mB 60) 13 = .ok (.goto 4, 3) := by decide +kernel
theorem u_60_13 {G : aG} {S : Nat → Bool} {f : Nat} {st : List Value} {ls : aL} {h : aH} {k n : Nat} (hs : S 13 = false) : WP 60 G S (f + 1) 13 ls st h k n = (WP 60 G S f 17 ls st h k n) := by rw [wp_s dd_60_13 rfl hs]; rfl
theorem dd_60_16 : decode (mB 60) 16 = .ok (.iconst 0, 1) := by decide +kernel
theorem u_60_16 {G : aG} {S : Nat → Bool} {f : Nat} {st : List Value} {ls : aL} {h : aH} {k n : Nat} (hs : S 16 = false) : WP 60 G S (f + 1) 16 ls st h k n = (WP 60 G S f 17 ls (.int (nI 0) :: st) h k n) := by rw [wp_s dd_60_16 rfl hs]; rfl
theorem dd_60_17 : decode (mB 60) 17 = .ok (.ireturn, 1) := by decide +kernel
theorem u_60_17 {G : aG} {S : Nat → Bool} {f : Nat} {ls : aL} {h : aH} {k n : Nat} {x : Int32} (hs : S 17 = false) : WP 60 G S (f + 1) 17 ls [.int x] h k n = (cond (x == nI 0 || x == nI 1) (RET G (some (.int x)) h k n) False) := by rw [wp_s dd_60_17 rfl hs]; rfl
theorem dd_61_0 : decode (mB 61) 0 = .ok (.iload_n 1, 1) := by decide +kernel
theorem u_61_0 {G : aG} {S : Nat → Bool} {f : Nat} {st : List Value} {ls : aL} {h : aH} {k n : Nat} (hs : S 0 = false) : WP 61 G S (f + 1) 0 ls st h k n = (oI (lget ls 1) (WP 61 G S f) 1 ls st h k n) := by rw [wp_s dd_61_0 rfl hs]; rfl
theorem dd_61_1 : decode (mB 61) 1 = .ok (.ifCond .lt 20, 3) := by decide +kernel
theorem u_61_1 {G : aG} {S : Nat → Bool} {f : Nat} {st : List Value} {ls : aL} {h : aH} {k n : Nat} {x : Int32} (hs : S 1 = false) : WP 61 G S (f + 1) 1 ls (.int x :: st) h k n = (if x < nI 0 then WP 61 G S f 21 ls st h k n else WP 61 G S f 4 ls st h k n) := by rw [wp_s dd_61_1 rfl hs]; exact br_ite (c := x < nI 0)
theorem dd_61_4 : decode (mB 61) 4 = .ok (.iload_n 1, 1) := by decide +kernel
theorem u_61_4 {G : aG} {S : Nat → Bool} {f : Nat} {st : List Value} {ls : aL} {h : aH} {k n : Nat} (hs : S 4 = false) : WP 61 G S (f + 1) 4 ls st h k n = (oI (lget ls 1) (WP 61 G S f) 5 ls st h k n) := by rw [wp_s dd_61_4 rfl hs]; rfl
theorem dd_61_5 : decode (mB 61) 5 = .ok (.aload_n 0, 1) := by decide +kernel
theorem u_61_5 {G : aG} {S : Nat → Bool} {f : Nat} {st : List Value} {ls : aL} {h : aH} {k n : Nat} (hs : S 5 = false) : WP 61 G S (f + 1) 5 ls st h k n = (oA (lget ls 0) (WP 61 G S f) 6 ls st h k n) := by rw [wp_s dd_61_5 rfl hs]; rfl
theorem dd_61_6 : decode (mB 61) 6 = .ok (.getfield 71, 3) := by decide +kernel
theorem u_61_6 {G : aG} {S : Nat → Bool} {f : Nat} {st : List Value} {ls : aL} {h : aH} {k n : Nat} {a : Nat} (hs : S 6 = false) : WP 61 G S (f + 1) 6 ls (.ref a :: st) h k n = (oV (fget h a 2 3) (WP 61 G S f) 9 ls st h k n) := by rw [wp_s dd_61_6 rfl hs]; rfl
theorem dd_61_9 : decode (mB 61) 9 = .ok (.if_icmp .ge 12, 3) := by decide +kernel
theorem u_61_9 {G : aG} {S : Nat → Bool} {f : Nat} {st : List Value} {ls : aL} {h : aH} {k n : Nat} {x y : Int32} (hs : S 9 = false) : WP 61 G S (f + 1) 9 ls (.int y :: .int x :: st) h k n = (if y ≤ x then WP 61 G S f 21 ls st h k n else WP 61 G S f 12 ls st h k n) := by rw [wp_s dd_61_9 rfl hs]; exact br_ite (c := y ≤ x)
theorem dd_61_12 : decode (mB 61) 12 = .ok (.aload_n 0, 1) := by decide +kernel
theorem u_61_12 {G : aG} {S : Nat → Bool} {f : Nat} {st : List Value} {ls : aL} {h : aH} {k n : Nat} (hs : S 12 = false) : WP 61 G S (f + 1) 12 ls st h k n = (oA (lget ls 0) (WP 61 G S f) 13 ls st h k n) := by rw [wp_s dd_61_12 rfl hs]; rfl
theorem dd_61_13 : decode (mB 61) 13 = .ok (.getfield 26, 3) := by decide +kernel
theorem u_61_13 {G : aG} {S : Nat → Bool} {f : Nat} {st : List Value} {ls : aL} {h : aH} {k n : Nat} {a : Nat} (hs : S 13 = false) : WP 61 G S (f + 1) 13 ls (.ref a :: st) h k n = (oV (fget h a 2 6) (WP 61 G S f) 16 ls st h k n) := by rw [wp_s dd_61_13 rfl hs]; rfl
theorem dd_61_16 : decode (mB 61) 16 = .ok (.iload_n 1, 1) := by decide +kernel
theorem u_61_16 {G : aG} {S : Nat → Bool} {f : Nat} {st : List Value} {ls : aL} {h : aH} {k n : Nat} (hs : S 16 = false) : WP 61 G S (f + 1) 16 ls st h k n = (oI (lget ls 1) (WP 61 G S f) 17 ls st h k n) := by rw [wp_s dd_61_16 rfl hs]; rfl
theorem dd_61_17 : decode (mB 61) 17 = .ok (.iaload, 1) := by decide +kernel
theorem u_61_17 {G : aG} {S : Nat → Bool} {f : Nat} {st : List Value} {ls : aL} {h : aH} {k n : Nat} {i : Int32} {a : Nat} (hs : S 17 = false) : WP 61 G S (f + 1) 17 ls (.int i :: .ref a :: st) h k n = (oIld (iget h a 1) i (WP 61 G S f) 18 ls st h k n) := by rw [wp_s dd_61_17 rfl hs]; rfl
theorem dd_61_18 : decode (mB 61) 18 = .ok (.goto 4, 3) := by decide +kernel
theorem u_61_18 {G : aG} {S : Nat → Bool} {f : Nat} {st : List Value} {ls : aL} {h : aH} {k n : Nat} (hs : S 18 = false) : WP 61 G S (f + 1) 18 ls st h k n = (WP 61 G S f 22 ls st h k n) := by rw [wp_s dd_61_18 rfl hs]; rfl
theorem dd_61_21 : decode (mB 61) 21 = .ok (.iconst 0, 1) := by decide +kernel
theorem u_61_21 {G : aG} {S : Nat → Bool} {f : Nat} {st : List Value} {ls : aL} {h : aH} {k n : Nat} (hs : S 21 = false) : WP 61 G S (f + 1) 21 ls st h k n = (WP 61 G S f 22 ls (.int (nI 0) :: st) h k n) := by rw [wp_s dd_61_21 rfl hs]; rfl
theorem dd_61_22 : decode (mB 61) 22 = .ok (.ireturn, 1) := by decide +kernel
theorem u_61_22 {G : aG} {S : Nat → Bool} {f : Nat} {ls : aL} {h : aH} {k n : Nat} {x : Int32} (hs : S 22 = false) : WP 61 G S (f + 1) 22 ls [.int x] h k n = (RET G (some (.int x)) h k n) := by rw [wp_s dd_61_22 rfl hs]; rfl
theorem dd_62_0 : decode (mB 62) 0 = .ok (.aload_n 0, 1) := by decide +kernel
theorem u_62_0 {G : aG} {S : Nat → Bool} {f : Nat} {st : List Value} {ls : aL} {h : aH} {k n : Nat} (hs : S 0 = false) : WP 62 G S (f + 1) 0 ls st h k n = (oA (lget ls 0) (WP 62 G S f) 1 ls st h k n) := by rw [wp_s dd_62_0 rfl hs]; rfl
theorem dd_62_1 : decode (mB 62) 1 = .ok (.iload_n 1, 1) := by decide +kernel
theorem u_62_1 {G : aG} {S : Nat → Bool} {f : Nat} {st : List Value} {ls : aL} {h : aH} {k n : Nat} (hs : S 1 = false) : WP 62 G S (f + 1) 1 ls st h k n = (oI (lget ls 1) (WP 62 G S f) 2 ls st h k n) := by rw [wp_s dd_62_1 rfl hs]; rfl
theorem dd_62_2 : decode (mB 62) 2 = .ok (.invokevirtual 94, 3) := by decide +kernel
theorem u_62_2 {G : aG} {S : Nat → Bool} {f : Nat} {st : List Value} {ls : aL} {h : aH} {k n : Nat} {v1 : Value} {b : Nat} (hs : S 2 = false) : WP 62 G S (f + 1) 2 ls (v1 :: .ref b :: st) h k n = (rcv (hget h b) 2 ∧ CAL G (WP 62 G S f) 61 [.ref b, v1] 5 ls st h k n) := by rw [wp_s dd_62_2 rfl hs]; rfl
theorem dd_62_5 : decode (mB 62) 5 = .ok (.sipush 255, 3) := by decide +kernel
theorem u_62_5 {G : aG} {S : Nat → Bool} {f : Nat} {st : List Value} {ls : aL} {h : aH} {k n : Nat} (hs : S 5 = false) : WP 62 G S (f + 1) 5 ls st h k n = (WP 62 G S f 8 ls (.int (nI 255) :: st) h k n) := by rw [wp_s dd_62_5 rfl hs]; rfl
theorem dd_62_8 : decode (mB 62) 8 = .ok (.iand, 1) := by decide +kernel
theorem u_62_8 {G : aG} {S : Nat → Bool} {f : Nat} {st : List Value} {ls : aL} {h : aH} {k n : Nat} {x y : Int32} (hs : S 8 = false) : WP 62 G S (f + 1) 8 ls (.int y :: .int x :: st) h k n = (WP 62 G S f 9 ls (.int (x &&& y) :: st) h k n) := by rw [wp_s dd_62_8 rfl hs]; rfl
theorem dd_62_9 : decode (mB 62) 9 = .ok (.ireturn, 1) := by decide +kernel
theorem u_62_9 {G : aG} {S : Nat → Bool} {f : Nat} {ls : aL} {h : aH} {k n : Nat} {x : Int32} (hs : S 9 = false) : WP 62 G S (f + 1) 9 ls [.int x] h k n = (RET G (some (.int x)) h k n) := by rw [wp_s dd_62_9 rfl hs]; rfl
theorem dd_65_0 : decode (mB 65) 0 = .ok (.iload_n 2, 1) := by decide +kernel
theorem u_65_0 {G : aG} {S : Nat → Bool} {f : Nat} {st : List Value} {ls : aL} {h : aH} {k n : Nat} (hs : S 0 = false) : WP 65 G S (f + 1) 0 ls st h k n = (oI (lget ls 2) (WP 65 G S f) 1 ls st h k n) := by rw [wp_s dd_65_0 rfl hs]; rfl
theorem dd_65_1 : decode (mB 65) 1 = .ok (.ifCond .lt 9, 3) := by decide +kernel
theorem u_65_1 {G : aG} {S : Nat → Bool} {f : Nat} {st : List Value} {ls : aL} {h : aH} {k n : Nat} {x : Int32} (hs : S 1 = false) : WP 65 G S (f + 1) 1 ls (.int x :: st) h k n = (if x < nI 0 then WP 65 G S f 10 ls st h k n else WP 65 G S f 4 ls st h k n) := by rw [wp_s dd_65_1 rfl hs]; exact br_ite (c := x < nI 0)
theorem dd_65_4 : decode (mB 65) 4 = .ok (.iload_n 2, 1) := by decide +kernel
theorem u_65_4 {G : aG} {S : Nat → Bool} {f : Nat} {st : List Value} {ls : aL} {h : aH} {k n : Nat} (hs : S 4 = false) : WP 65 G S (f + 1) 4 ls st h k n = (oI (lget ls 2) (WP 65 G S f) 5 ls st h k n) := by rw [wp_s dd_65_4 rfl hs]; rfl
theorem dd_65_5 : decode (mB 65) 5 = .ok (.bipush 6, 2) := by decide +kernel
theorem u_65_5 {G : aG} {S : Nat → Bool} {f : Nat} {st : List Value} {ls : aL} {h : aH} {k n : Nat} (hs : S 5 = false) : WP 65 G S (f + 1) 5 ls st h k n = (WP 65 G S f 7 ls (.int (nI 6) :: st) h k n) := by rw [wp_s dd_65_5 rfl hs]; rfl
theorem dd_65_7 : decode (mB 65) 7 = .ok (.if_icmp .le 5, 3) := by decide +kernel
theorem u_65_7 {G : aG} {S : Nat → Bool} {f : Nat} {st : List Value} {ls : aL} {h : aH} {k n : Nat} {x y : Int32} (hs : S 7 = false) : WP 65 G S (f + 1) 7 ls (.int y :: .int x :: st) h k n = (if x ≤ y then WP 65 G S f 12 ls st h k n else WP 65 G S f 10 ls st h k n) := by rw [wp_s dd_65_7 rfl hs]; exact br_ite (c := x ≤ y)
theorem dd_65_10 : decode (mB 65) 10 = .ok (.iconst 0, 1) := by decide +kernel
theorem u_65_10 {G : aG} {S : Nat → Bool} {f : Nat} {st : List Value} {ls : aL} {h : aH} {k n : Nat} (hs : S 10 = false) : WP 65 G S (f + 1) 10 ls st h k n = (WP 65 G S f 11 ls (.int (nI 0) :: st) h k n) := by rw [wp_s dd_65_10 rfl hs]; rfl
theorem dd_65_11 : decode (mB 65) 11 = .ok (.ireturn, 1) := by decide +kernel
theorem u_65_11 {G : aG} {S : Nat → Bool} {f : Nat} {ls : aL} {h : aH} {k n : Nat} {x : Int32} (hs : S 11 = false) : WP 65 G S (f + 1) 11 ls [.int x] h k n = (RET G (some (.int x)) h k n) := by rw [wp_s dd_65_11 rfl hs]; rfl
theorem dd_65_12 : decode (mB 65) 12 = .ok (.iload_n 2, 1) := by decide +kernel
theorem u_65_12 {G : aG} {S : Nat → Bool} {f : Nat} {st : List Value} {ls : aL} {h : aH} {k n : Nat} (hs : S 12 = false) : WP 65 G S (f + 1) 12 ls st h k n = (oI (lget ls 2) (WP 65 G S f) 13 ls st h k n) := by rw [wp_s dd_65_12 rfl hs]; rfl
theorem dd_65_13 : decode (mB 65) 13 = .ok (.aload_n 1, 1) := by decide +kernel
theorem u_65_13 {G : aG} {S : Nat → Bool} {f : Nat} {st : List Value} {ls : aL} {h : aH} {k n : Nat} (hs : S 13 = false) : WP 65 G S (f + 1) 13 ls st h k n = (oA (lget ls 1) (WP 65 G S f) 14 ls st h k n) := by rw [wp_s dd_65_13 rfl hs]; rfl
theorem dd_65_14 : decode (mB 65) 14 = .ok (.getfield 18, 3) := by decide +kernel
theorem u_65_14 {G : aG} {S : Nat → Bool} {f : Nat} {st : List Value} {ls : aL} {h : aH} {k n : Nat} {a : Nat} (hs : S 14 = false) : WP 65 G S (f + 1) 14 ls (.ref a :: st) h k n = (oV (fget h a 2 12) (WP 65 G S f) 17 ls st h k n) := by rw [wp_s dd_65_14 rfl hs]; rfl
theorem dd_65_17 : decode (mB 65) 17 = .ok (.if_icmp .le 47, 3) := by decide +kernel
theorem u_65_17 {G : aG} {S : Nat → Bool} {f : Nat} {st : List Value} {ls : aL} {h : aH} {k n : Nat} {x y : Int32} (hs : S 17 = false) : WP 65 G S (f + 1) 17 ls (.int y :: .int x :: st) h k n = (if x ≤ y then WP 65 G S f 64 ls st h k n else WP 65 G S f 20 ls st h k n) := by rw [wp_s dd_65_17 rfl hs]; exact br_ite (c := x ≤ y)
theorem dd_65_20 : decode (mB 65) 20 = .ok (.aload_n 0, 1) := by decide +kernel
theorem u_65_20 {G : aG} {S : Nat → Bool} {f : Nat} {st : List Value} {ls : aL} {h : aH} {k n : Nat} (hs : S 20 = false) : WP 65 G S (f + 1) 20 ls st h k n = (oA (lget ls 0) (WP 65 G S f) 21 ls st h k n) := by rw [wp_s dd_65_20 rfl hs]; rfl
theorem dd_65_21 : decode (mB 65) 21 = .ok (.aload_n 1, 1) := by decide +kernel
theorem u_65_21 {G : aG} {S : Nat → Bool} {f : Nat} {st : List Value} {ls : aL} {h : aH} {k n : Nat} (hs : S 21 = false) : WP 65 G S (f + 1) 21 ls st h k n = (oA (lget ls 1) (WP 65 G S f) 22 ls st h k n) := by rw [wp_s dd_65_21 rfl hs]; rfl
theorem dd_65_22 : decode (mB 65) 22 = .ok (.invokevirtual 24, 3) := by decide +kernel
theorem u_65_22 {G : aG} {S : Nat → Bool} {f : Nat} {st : List Value} {ls : aL} {h : aH} {k n : Nat} {v1 : Value} {b : Nat} (hs : S 22 = false) : WP 65 G S (f + 1) 22 ls (v1 :: .ref b :: st) h k n = (rcv (hget h b) 6 ∧ CAL G (WP 65 G S f) 66 [.ref b, v1] 25 ls st h k n) := by rw [wp_s dd_65_22 rfl hs]; rfl
theorem dd_65_25 : decode (mB 65) 25 = .ok (.iconst 1, 1) := by decide +kernel
theorem u_65_25 {G : aG} {S : Nat → Bool} {f : Nat} {st : List Value} {ls : aL} {h : aH} {k n : Nat} (hs : S 25 = false) : WP 65 G S (f + 1) 25 ls st h k n = (WP 65 G S f 26 ls (.int (nI 1) :: st) h k n) := by rw [wp_s dd_65_25 rfl hs]; rfl
theorem dd_65_26 : decode (mB 65) 26 = .ok (.istore_n 3, 1) := by decide +kernel
theorem u_65_26 {G : aG} {S : Nat → Bool} {f : Nat} {st : List Value} {ls : aL} {h : aH} {k n : Nat} {x : Int32} (hs : S 26 = false) : WP 65 G S (f + 1) 26 ls (.int x :: st) h k n = (WP 65 G S f 27 (lput1 ls 3 (.int x)) st h k n) := by rw [wp_s dd_65_26 rfl hs]; rfl
theorem dd_65_27 : decode (mB 65) 27 = .ok (.iload_n 3, 1) := by decide +kernel
theorem u_65_27 {G : aG} {S : Nat → Bool} {f : Nat} {st : List Value} {ls : aL} {h : aH} {k n : Nat} (hs : S 27 = false) : WP 65 G S (f + 1) 27 ls st h k n = (oI (lget ls 3) (WP 65 G S f) 28 ls st h k n) := by rw [wp_s dd_65_27 rfl hs]; rfl
theorem v_65_27 {G : aG} {S : Nat → Bool} {f : Nat} {st : List Value} {ls : aL} {h : aH} {k n : Nat} : WQ 65 G S f 27 ls st h k n = (oI (lget ls 3) (WP 65 G S f) 28 ls st h k n) := by rw [wq_s dd_65_27 rfl]; rfl
theorem dd_65_28 : decode (mB 65) 28 = .ok (.iload_n 2, 1) := by decide +kernel
theorem u_65_28 {G : aG} {S : Nat → Bool} {f : Nat} {st : List Value} {ls : aL} {h : aH} {k n : Nat} (hs : S 28 = false) : WP 65 G S (f + 1) 28 ls st h k n = (oI (lget ls 2) (WP 65 G S f) 29 ls st h k n) := by rw [wp_s dd_65_28 rfl hs]; rfl
theorem dd_65_29 : decode (mB 65) 29 = .ok (.if_icmp .gt 30, 3) := by decide +kernel
theorem u_65_29 {G : aG} {S : Nat → Bool} {f : Nat} {st : List Value} {ls : aL} {h : aH} {k n : Nat} {x y : Int32} (hs : S 29 = false) : WP 65 G S (f + 1) 29 ls (.int y :: .int x :: st) h k n = (if y < x then WP 65 G S f 59 ls st h k n else WP 65 G S f 32 ls st h k n) := by rw [wp_s dd_65_29 rfl hs]; exact br_ite (c := y < x)
theorem dd_65_32 : decode (mB 65) 32 = .ok (.aload_n 1, 1) := by decide +kernel
theorem u_65_32 {G : aG} {S : Nat → Bool} {f : Nat} {st : List Value} {ls : aL} {h : aH} {k n : Nat} (hs : S 32 = false) : WP 65 G S (f + 1) 32 ls st h k n = (oA (lget ls 1) (WP 65 G S f) 33 ls st h k n) := by rw [wp_s dd_65_32 rfl hs]; rfl
theorem dd_65_33 : decode (mB 65) 33 = .ok (.getfield 28, 3) := by decide +kernel
theorem u_65_33 {G : aG} {S : Nat → Bool} {f : Nat} {st : List Value} {ls : aL} {h : aH} {k n : Nat} {a : Nat} (hs : S 33 = false) : WP 65 G S (f + 1) 33 ls (.ref a :: st) h k n = (oV (fget h a 2 11) (WP 65 G S f) 36 ls st h k n) := by rw [wp_s dd_65_33 rfl hs]; rfl
theorem dd_65_36 : decode (mB 65) 36 = .ok (.iload_n 3, 1) := by decide +kernel
theorem u_65_36 {G : aG} {S : Nat → Bool} {f : Nat} {st : List Value} {ls : aL} {h : aH} {k n : Nat} (hs : S 36 = false) : WP 65 G S (f + 1) 36 ls st h k n = (oI (lget ls 3) (WP 65 G S f) 37 ls st h k n) := by rw [wp_s dd_65_36 rfl hs]; rfl
theorem dd_65_37 : decode (mB 65) 37 = .ok (.aload_n 0, 1) := by decide +kernel
theorem u_65_37 {G : aG} {S : Nat → Bool} {f : Nat} {st : List Value} {ls : aL} {h : aH} {k n : Nat} (hs : S 37 = false) : WP 65 G S (f + 1) 37 ls st h k n = (oA (lget ls 0) (WP 65 G S f) 38 ls st h k n) := by rw [wp_s dd_65_37 rfl hs]; rfl
theorem dd_65_38 : decode (mB 65) 38 = .ok (.aload_n 1, 1) := by decide +kernel
theorem u_65_38 {G : aG} {S : Nat → Bool} {f : Nat} {st : List Value} {ls : aL} {h : aH} {k n : Nat} (hs : S 38 = false) : WP 65 G S (f + 1) 38 ls st h k n = (oA (lget ls 1) (WP 65 G S f) 39 ls st h k n) := by rw [wp_s dd_65_38 rfl hs]; rfl
theorem dd_65_39 : decode (mB 65) 39 = .ok (.invokevirtual 31, 3) := by decide +kernel
theorem u_65_39 {G : aG} {S : Nat → Bool} {f : Nat} {st : List Value} {ls : aL} {h : aH} {k n : Nat} {v1 : Value} {b : Nat} (hs : S 39 = false) : WP 65 G S (f + 1) 39 ls (v1 :: .ref b :: st) h k n = (rcv (hget h b) 6 ∧ CAL G (WP 65 G S f) 67 [.ref b, v1] 42 ls st h k n) := by rw [wp_s dd_65_39 rfl hs]; rfl
theorem dd_65_42 : decode (mB 65) 42 = .ok (.iastore, 1) := by decide +kernel
theorem u_65_42 {G : aG} {S : Nat → Bool} {f : Nat} {st : List Value} {ls : aL} {h : aH} {k n : Nat} {i x : Int32} {a : Nat} (hs : S 42 = false) : WP 65 G S (f + 1) 42 ls (.int x :: .int i :: .ref a :: st) h k n = (oIst (iget h a 1) a i x (WP 65 G S f) 43 ls st h k n) := by rw [wp_s dd_65_42 rfl hs]; rfl
theorem dd_65_43 : decode (mB 65) 43 = .ok (.iload_n 3, 1) := by decide +kernel
theorem u_65_43 {G : aG} {S : Nat → Bool} {f : Nat} {st : List Value} {ls : aL} {h : aH} {k n : Nat} (hs : S 43 = false) : WP 65 G S (f + 1) 43 ls st h k n = (oI (lget ls 3) (WP 65 G S f) 44 ls st h k n) := by rw [wp_s dd_65_43 rfl hs]; rfl
theorem dd_65_44 : decode (mB 65) 44 = .ok (.iload_n 2, 1) := by decide +kernel
theorem u_65_44 {G : aG} {S : Nat → Bool} {f : Nat} {st : List Value} {ls : aL} {h : aH} {k n : Nat} (hs : S 44 = false) : WP 65 G S (f + 1) 44 ls st h k n = (oI (lget ls 2) (WP 65 G S f) 45 ls st h k n) := by rw [wp_s dd_65_44 rfl hs]; rfl
theorem dd_65_45 : decode (mB 65) 45 = .ok (.if_icmp .ge 8, 3) := by decide +kernel
theorem u_65_45 {G : aG} {S : Nat → Bool} {f : Nat} {st : List Value} {ls : aL} {h : aH} {k n : Nat} {x y : Int32} (hs : S 45 = false) : WP 65 G S (f + 1) 45 ls (.int y :: .int x :: st) h k n = (if y ≤ x then WP 65 G S f 53 ls st h k n else WP 65 G S f 48 ls st h k n) := by rw [wp_s dd_65_45 rfl hs]; exact br_ite (c := y ≤ x)
theorem dd_65_48 : decode (mB 65) 48 = .ok (.aload_n 0, 1) := by decide +kernel
theorem u_65_48 {G : aG} {S : Nat → Bool} {f : Nat} {st : List Value} {ls : aL} {h : aH} {k n : Nat} (hs : S 48 = false) : WP 65 G S (f + 1) 48 ls st h k n = (oA (lget ls 0) (WP 65 G S f) 49 ls st h k n) := by rw [wp_s dd_65_48 rfl hs]; rfl
theorem dd_65_49 : decode (mB 65) 49 = .ok (.aload_n 1, 1) := by decide +kernel
theorem u_65_49 {G : aG} {S : Nat → Bool} {f : Nat} {st : List Value} {ls : aL} {h : aH} {k n : Nat} (hs : S 49 = false) : WP 65 G S (f + 1) 49 ls st h k n = (oA (lget ls 1) (WP 65 G S f) 50 ls st h k n) := by rw [wp_s dd_65_49 rfl hs]; rfl
theorem dd_65_50 : decode (mB 65) 50 = .ok (.invokevirtual 35, 3) := by decide +kernel
theorem u_65_50 {G : aG} {S : Nat → Bool} {f : Nat} {st : List Value} {ls : aL} {h : aH} {k n : Nat} {v1 : Value} {b : Nat} (hs : S 50 = false) : WP 65 G S (f + 1) 50 ls (v1 :: .ref b :: st) h k n = (rcv (hget h b) 6 ∧ CAL G (WP 65 G S f) 70 [.ref b, v1] 53 ls st h k n) := by rw [wp_s dd_65_50 rfl hs]; rfl
theorem dd_65_53 : decode (mB 65) 53 = .ok (.iinc 3 1, 3) := by decide +kernel
theorem u_65_53 {G : aG} {S : Nat → Bool} {f : Nat} {st : List Value} {ls : aL} {h : aH} {k n : Nat} (hs : S 53 = false) : WP 65 G S (f + 1) 53 ls st h k n = (oInc (lget ls 3) (nI 1) (WP 65 G S f) 3 56 ls st h k n) := by rw [wp_s dd_65_53 rfl hs]; rfl
theorem dd_65_56 : decode (mB 65) 56 = .ok (.goto (-29), 3) := by decide +kernel
theorem u_65_56 {G : aG} {S : Nat → Bool} {f : Nat} {st : List Value} {ls : aL} {h : aH} {k n : Nat} (hs : S 56 = false) : WP 65 G S (f + 1) 56 ls st h k n = (WP 65 G S f 27 ls st h k n) := by rw [wp_s dd_65_56 rfl hs]; rfl
theorem dd_65_59 : decode (mB 65) 59 = .ok (.aload_n 1, 1) := by decide +kernel
theorem u_65_59 {G : aG} {S : Nat → Bool} {f : Nat} {st : List Value} {ls : aL} {h : aH} {k n : Nat} (hs : S 59 = false) : WP 65 G S (f + 1) 59 ls st h k n = (oA (lget ls 1) (WP 65 G S f) 60 ls st h k n) := by rw [wp_s dd_65_59 rfl hs]; rfl
theorem dd_65_60 : decode (mB 65) 60 = .ok (.iload_n 2, 1) := by decide +kernel
theorem u_65_60 {G : aG} {S : Nat → Bool} {f : Nat} {st : List Value} {ls : aL} {h : aH} {k n : Nat} (hs : S 60 = false) : WP 65 G S (f + 1) 60 ls st h k n = (oI (lget ls 2) (WP 65 G S f) 61 ls st h k n) := by rw [wp_s dd_65_60 rfl hs]; rfl
theorem dd_65_61 : decode (mB 65) 61 = .ok (.putfield 18, 3) := by decide +kernel
theorem u_65_61 {G : aG} {S : Nat → Bool} {f : Nat} {st : List Value} {ls : aL} {h : aH} {k n : Nat} {a : Nat} {x : Int32} (hs : S 61 = false) : WP 65 G S (f + 1) 61 ls (.int x :: .ref a :: st) h k n = (oH (fput h a 2 12 (.int x)) (WP 65 G S f) 64 ls st k n) := by rw [wp_s dd_65_61 rfl hs]; rfl
theorem dd_65_64 : decode (mB 65) 64 = .ok (.aload_n 1, 1) := by decide +kernel
theorem u_65_64 {G : aG} {S : Nat → Bool} {f : Nat} {st : List Value} {ls : aL} {h : aH} {k n : Nat} (hs : S 64 = false) : WP 65 G S (f + 1) 64 ls st h k n = (oA (lget ls 1) (WP 65 G S f) 65 ls st h k n) := by rw [wp_s dd_65_64 rfl hs]; rfl
theorem dd_65_65 : decode (mB 65) 65 = .ok (.getfield 28, 3) := by decide +kernel
theorem u_65_65 {G : aG} {S : Nat → Bool} {f : Nat} {st : List Value} {ls : aL} {h : aH} {k n : Nat} {a : Nat} (hs : S 65 = false) : WP 65 G S (f + 1) 65 ls (.ref a :: st) h k n = (oV (fget h a 2 11) (WP 65 G S f) 68 ls st h k n) := by rw [wp_s dd_65_65 rfl hs]; rfl
theorem dd_65_68 : decode (mB 65) 68 = .ok (.iload_n 2, 1) := by decide +kernel
theorem u_65_68 {G : aG} {S : Nat → Bool} {f : Nat} {st : List Value} {ls : aL} {h : aH} {k n : Nat} (hs : S 68 = false) : WP 65 G S (f + 1) 68 ls st h k n = (oI (lget ls 2) (WP 65 G S f) 69 ls st h k n) := by rw [wp_s dd_65_68 rfl hs]; rfl
theorem dd_65_69 : decode (mB 65) 69 = .ok (.iaload, 1) := by decide +kernel
theorem u_65_69 {G : aG} {S : Nat → Bool} {f : Nat} {st : List Value} {ls : aL} {h : aH} {k n : Nat} {i : Int32} {a : Nat} (hs : S 69 = false) : WP 65 G S (f + 1) 69 ls (.int i :: .ref a :: st) h k n = (oIld (iget h a 1) i (WP 65 G S f) 70 ls st h k n) := by rw [wp_s dd_65_69 rfl hs]; rfl
theorem dd_65_70 : decode (mB 65) 70 = .ok (.ireturn, 1) := by decide +kernel
theorem u_65_70 {G : aG} {S : Nat → Bool} {f : Nat} {ls : aL} {h : aH} {k n : Nat} {x : Int32} (hs : S 70 = false) : WP 65 G S (f + 1) 70 ls [.int x] h k n = (RET G (some (.int x)) h k n) := by rw [wp_s dd_65_70 rfl hs]; rfl
theorem dd_66_0 : decode (mB 66) 0 = .ok (.aload_n 0, 1) := by decide +kernel
theorem u_66_0 {G : aG} {S : Nat → Bool} {f : Nat} {st : List Value} {ls : aL} {h : aH} {k n : Nat} (hs : S 0 = false) : WP 66 G S (f + 1) 0 ls st h k n = (oA (lget ls 0) (WP 66 G S f) 1 ls st h k n) := by rw [wp_s dd_66_0 rfl hs]; rfl
theorem dd_66_1 : decode (mB 66) 1 = .ok (.getfield 11, 3) := by decide +kernel
theorem u_66_1 {G : aG} {S : Nat → Bool} {f : Nat} {st : List Value} {ls : aL} {h : aH} {k n : Nat} {a : Nat} (hs : S 1 = false) : WP 66 G S (f + 1) 1 ls (.ref a :: st) h k n = (oV (fget h a 6 0) (WP 66 G S f) 4 ls st h k n) := by rw [wp_s dd_66_1 rfl hs]; rfl
theorem dd_66_4 : decode (mB 66) 4 = .ok (.iconst 0, 1) := by decide +kernel
theorem u_66_4 {G : aG} {S : Nat → Bool} {f : Nat} {st : List Value} {ls : aL} {h : aH} {k n : Nat} (hs : S 4 = false) : WP 66 G S (f + 1) 4 ls st h k n = (WP 66 G S f 5 ls (.int (nI 0) :: st) h k n) := by rw [wp_s dd_66_4 rfl hs]; rfl
theorem dd_66_5 : decode (mB 66) 5 = .ok (.invokestatic 38, 3) := by decide +kernel
theorem u_66_5 {G : aG} {S : Nat → Bool} {f : Nat} {st : List Value} {ls : aL} {h : aH} {k n : Nat} {v1 v2 : Value} (hs : S 5 = false) : WP 66 G S (f + 1) 5 ls (v2 :: v1 :: st) h k n = (CAL G (WP 66 G S f) 26 [v1, v2] 8 ls st h k n) := by rw [wp_s dd_66_5 rfl hs]; rfl
theorem dd_66_8 : decode (mB 66) 8 = .ok (.aload_n 0, 1) := by decide +kernel
theorem u_66_8 {G : aG} {S : Nat → Bool} {f : Nat} {st : List Value} {ls : aL} {h : aH} {k n : Nat} (hs : S 8 = false) : WP 66 G S (f + 1) 8 ls st h k n = (oA (lget ls 0) (WP 66 G S f) 9 ls st h k n) := by rw [wp_s dd_66_8 rfl hs]; rfl
theorem dd_66_9 : decode (mB 66) 9 = .ok (.getfield 11, 3) := by decide +kernel
theorem u_66_9 {G : aG} {S : Nat → Bool} {f : Nat} {st : List Value} {ls : aL} {h : aH} {k n : Nat} {a : Nat} (hs : S 9 = false) : WP 66 G S (f + 1) 9 ls (.ref a :: st) h k n = (oV (fget h a 6 0) (WP 66 G S f) 12 ls st h k n) := by rw [wp_s dd_66_9 rfl hs]; rfl
theorem dd_66_12 : decode (mB 66) 12 = .ok (.iconst 0, 1) := by decide +kernel
theorem u_66_12 {G : aG} {S : Nat → Bool} {f : Nat} {st : List Value} {ls : aL} {h : aH} {k n : Nat} (hs : S 12 = false) : WP 66 G S (f + 1) 12 ls st h k n = (WP 66 G S f 13 ls (.int (nI 0) :: st) h k n) := by rw [wp_s dd_66_12 rfl hs]; rfl
theorem dd_66_13 : decode (mB 66) 13 = .ok (.iconst 1, 1) := by decide +kernel
theorem u_66_13 {G : aG} {S : Nat → Bool} {f : Nat} {st : List Value} {ls : aL} {h : aH} {k n : Nat} (hs : S 13 = false) : WP 66 G S (f + 1) 13 ls st h k n = (WP 66 G S f 14 ls (.int (nI 1) :: st) h k n) := by rw [wp_s dd_66_13 rfl hs]; rfl
theorem dd_66_14 : decode (mB 66) 14 = .ok (.iastore, 1) := by decide +kernel
theorem u_66_14 {G : aG} {S : Nat → Bool} {f : Nat} {st : List Value} {ls : aL} {h : aH} {k n : Nat} {i x : Int32} {a : Nat} (hs : S 14 = false) : WP 66 G S (f + 1) 14 ls (.int x :: .int i :: .ref a :: st) h k n = (oIst (iget h a 1) a i x (WP 66 G S f) 15 ls st h k n) := by rw [wp_s dd_66_14 rfl hs]; rfl
theorem dd_66_15 : decode (mB 66) 15 = .ok (.aload_n 1, 1) := by decide +kernel
theorem u_66_15 {G : aG} {S : Nat → Bool} {f : Nat} {st : List Value} {ls : aL} {h : aH} {k n : Nat} (hs : S 15 = false) : WP 66 G S (f + 1) 15 ls st h k n = (oA (lget ls 1) (WP 66 G S f) 16 ls st h k n) := by rw [wp_s dd_66_15 rfl hs]; rfl
theorem dd_66_16 : decode (mB 66) 16 = .ok (.getfield 28, 3) := by decide +kernel
theorem u_66_16 {G : aG} {S : Nat → Bool} {f : Nat} {st : List Value} {ls : aL} {h : aH} {k n : Nat} {a : Nat} (hs : S 16 = false) : WP 66 G S (f + 1) 16 ls (.ref a :: st) h k n = (oV (fget h a 2 11) (WP 66 G S f) 19 ls st h k n) := by rw [wp_s dd_66_16 rfl hs]; rfl
theorem dd_66_19 : decode (mB 66) 19 = .ok (.iconst 0, 1) := by decide +kernel
theorem u_66_19 {G : aG} {S : Nat → Bool} {f : Nat} {st : List Value} {ls : aL} {h : aH} {k n : Nat} (hs : S 19 = false) : WP 66 G S (f + 1) 19 ls st h k n = (WP 66 G S f 20 ls (.int (nI 0) :: st) h k n) := by rw [wp_s dd_66_19 rfl hs]; rfl
theorem dd_66_20 : decode (mB 66) 20 = .ok (.aload_n 1, 1) := by decide +kernel
theorem u_66_20 {G : aG} {S : Nat → Bool} {f : Nat} {st : List Value} {ls : aL} {h : aH} {k n : Nat} (hs : S 20 = false) : WP 66 G S (f + 1) 20 ls st h k n = (oA (lget ls 1) (WP 66 G S f) 21 ls st h k n) := by rw [wp_s dd_66_20 rfl hs]; rfl
theorem dd_66_21 : decode (mB 66) 21 = .ok (.iconst 0, 1) := by decide +kernel
theorem u_66_21 {G : aG} {S : Nat → Bool} {f : Nat} {st : List Value} {ls : aL} {h : aH} {k n : Nat} (hs : S 21 = false) : WP 66 G S (f + 1) 21 ls st h k n = (WP 66 G S f 22 ls (.int (nI 0) :: st) h k n) := by rw [wp_s dd_66_21 rfl hs]; rfl
theorem dd_66_22 : decode (mB 66) 22 = .ok (.invokevirtual 44, 3) := by decide +kernel
theorem u_66_22 {G : aG} {S : Nat → Bool} {f : Nat} {st : List Value} {ls : aL} {h : aH} {k n : Nat} {v1 : Value} {b : Nat} (hs : S 22 = false) : WP 66 G S (f + 1) 22 ls (v1 :: .ref b :: st) h k n = (rcv (hget h b) 2 ∧ CAL G (WP 66 G S f) 60 [.ref b, v1] 25 ls st h k n) := by rw [wp_s dd_66_22 rfl hs]; rfl
theorem dd_66_25 : decode (mB 66) 25 = .ok (.ifCond .eq 7, 3) := by decide +kernel
theorem u_66_25 {G : aG} {S : Nat → Bool} {f : Nat} {st : List Value} {ls : aL} {h : aH} {k n : Nat} {x : Int32} (hs : S 25 = false) : WP 66 G S (f + 1) 25 ls (.int x :: st) h k n = (if x = nI 0 then WP 66 G S f 32 ls st h k n else WP 66 G S f 28 ls st h k n) := by rw [wp_s dd_66_25 rfl hs]; exact br_ite (c := x = nI 0)
theorem dd_66_28 : decode (mB 66) 28 = .ok (.iconst 1, 1) := by decide +kernel
theorem u_66_28 {G : aG} {S : Nat → Bool} {f : Nat} {st : List Value} {ls : aL} {h : aH} {k n : Nat} (hs : S 28 = false) : WP 66 G S (f + 1) 28 ls st h k n = (WP 66 G S f 29 ls (.int (nI 1) :: st) h k n) := by rw [wp_s dd_66_28 rfl hs]; rfl
theorem dd_66_29 : decode (mB 66) 29 = .ok (.goto 4, 3) := by decide +kernel
theorem u_66_29 {G : aG} {S : Nat → Bool} {f : Nat} {st : List Value} {ls : aL} {h : aH} {k n : Nat} (hs : S 29 = false) : WP 66 G S (f + 1) 29 ls st h k n = (WP 66 G S f 33 ls st h k n) := by rw [wp_s dd_66_29 rfl hs]; rfl
theorem dd_66_32 : decode (mB 66) 32 = .ok (.iconst 0, 1) := by decide +kernel
theorem u_66_32 {G : aG} {S : Nat → Bool} {f : Nat} {st : List Value} {ls : aL} {h : aH} {k n : Nat} (hs : S 32 = false) : WP 66 G S (f + 1) 32 ls st h k n = (WP 66 G S f 33 ls (.int (nI 0) :: st) h k n) := by rw [wp_s dd_66_32 rfl hs]; rfl
theorem dd_66_33 : decode (mB 66) 33 = .ok (.iastore, 1) := by decide +kernel
theorem u_66_33 {G : aG} {S : Nat → Bool} {f : Nat} {st : List Value} {ls : aL} {h : aH} {k n : Nat} {i x : Int32} {a : Nat} (hs : S 33 = false) : WP 66 G S (f + 1) 33 ls (.int x :: .int i :: .ref a :: st) h k n = (oIst (iget h a 1) a i x (WP 66 G S f) 34 ls st h k n) := by rw [wp_s dd_66_33 rfl hs]; rfl
theorem dd_66_34 : decode (mB 66) 34 = .ok (.return_, 1) := by decide +kernel
theorem u_66_34 {G : aG} {S : Nat → Bool} {f : Nat} {ls : aL} {h : aH} {k n : Nat} (hs : S 34 = false) : WP 66 G S (f + 1) 34 ls [] h k n = (RET G none h k n) := by rw [wp_s dd_66_34 rfl hs]; rfl
theorem dd_67_0 : decode (mB 67) 0 = .ok (.iconst 0, 1) := by decide +kernel
theorem u_67_0 {G : aG} {S : Nat → Bool} {f : Nat} {st : List Value} {ls : aL} {h : aH} {k n : Nat} (hs : S 0 = false) : WP 67 G S (f + 1) 0 ls st h k n = (WP 67 G S f 1 ls (.int (nI 0) :: st) h k n) := by rw [wp_s dd_67_0 rfl hs]; rfl
theorem dd_67_1 : decode (mB 67) 1 = .ok (.istore_n 2, 1) := by decide +kernel
theorem u_67_1 {G : aG} {S : Nat → Bool} {f : Nat} {st : List Value} {ls : aL} {h : aH} {k n : Nat} {x : Int32} (hs : S 1 = false) : WP 67 G S (f + 1) 1 ls (.int x :: st) h k n = (WP 67 G S f 2 (lput1 ls 2 (.int x)) st h k n) := by rw [wp_s dd_67_1 rfl hs]; rfl
theorem dd_67_2 : decode (mB 67) 2 = .ok (.iconst 0, 1) := by decide +kernel
theorem u_67_2 {G : aG} {S : Nat → Bool} {f : Nat} {st : List Value} {ls : aL} {h : aH} {k n : Nat} (hs : S 2 = false) : WP 67 G S (f + 1) 2 ls st h k n = (WP 67 G S f 3 ls (.int (nI 0) :: st) h k n) := by rw [wp_s dd_67_2 rfl hs]; rfl
theorem dd_67_3 : decode (mB 67) 3 = .ok (.istore_n 3, 1) := by decide +kernel
theorem u_67_3 {G : aG} {S : Nat → Bool} {f : Nat} {st : List Value} {ls : aL} {h : aH} {k n : Nat} {x : Int32} (hs : S 3 = false) : WP 67 G S (f + 1) 3 ls (.int x :: st) h k n = (WP 67 G S f 4 (lput1 ls 3 (.int x)) st h k n) := by rw [wp_s dd_67_3 rfl hs]; rfl
theorem dd_67_4 : decode (mB 67) 4 = .ok (.iload_n 3, 1) := by decide +kernel
theorem u_67_4 {G : aG} {S : Nat → Bool} {f : Nat} {st : List Value} {ls : aL} {h : aH} {k n : Nat} (hs : S 4 = false) : WP 67 G S (f + 1) 4 ls st h k n = (oI (lget ls 3) (WP 67 G S f) 5 ls st h k n) := by rw [wp_s dd_67_4 rfl hs]; rfl
theorem v_67_4 {G : aG} {S : Nat → Bool} {f : Nat} {st : List Value} {ls : aL} {h : aH} {k n : Nat} : WQ 67 G S f 4 ls st h k n = (oI (lget ls 3) (WP 67 G S f) 5 ls st h k n) := by rw [wq_s dd_67_4 rfl]; rfl
theorem dd_67_5 : decode (mB 67) 5 = .ok (.aload_n 1, 1) := by decide +kernel
theorem u_67_5 {G : aG} {S : Nat → Bool} {f : Nat} {st : List Value} {ls : aL} {h : aH} {k n : Nat} (hs : S 5 = false) : WP 67 G S (f + 1) 5 ls st h k n = (oA (lget ls 1) (WP 67 G S f) 6 ls st h k n) := by rw [wp_s dd_67_5 rfl hs]; rfl
theorem dd_67_6 : decode (mB 67) 6 = .ok (.getfield 48, 3) := by decide +kernel
theorem u_67_6 {G : aG} {S : Nat → Bool} {f : Nat} {st : List Value} {ls : aL} {h : aH} {k n : Nat} {a : Nat} (hs : S 6 = false) : WP 67 G S (f + 1) 6 ls (.ref a :: st) h k n = (oV (fget h a 2 3) (WP 67 G S f) 9 ls st h k n) := by rw [wp_s dd_67_6 rfl hs]; rfl
theorem dd_67_9 : decode (mB 67) 9 = .ok (.if_icmp .ge 42, 3) := by decide +kernel
theorem u_67_9 {G : aG} {S : Nat → Bool} {f : Nat} {st : List Value} {ls : aL} {h : aH} {k n : Nat} {x y : Int32} (hs : S 9 = false) : WP 67 G S (f + 1) 9 ls (.int y :: .int x :: st) h k n = (if y ≤ x then WP 67 G S f 51 ls st h k n else WP 67 G S f 12 ls st h k n) := by rw [wp_s dd_67_9 rfl hs]; exact br_ite (c := y ≤ x)
theorem dd_67_12 : decode (mB 67) 12 = .ok (.iload_n 3, 1) := by decide +kernel
theorem u_67_12 {G : aG} {S : Nat → Bool} {f : Nat} {st : List Value} {ls : aL} {h : aH} {k n : Nat} (hs : S 12 = false) : WP 67 G S (f + 1) 12 ls st h k n = (oI (lget ls 3) (WP 67 G S f) 13 ls st h k n) := by rw [wp_s dd_67_12 rfl hs]; rfl
theorem dd_67_13 : decode (mB 67) 13 = .ok (.aload_n 0, 1) := by decide +kernel
theorem u_67_13 {G : aG} {S : Nat → Bool} {f : Nat} {st : List Value} {ls : aL} {h : aH} {k n : Nat} (hs : S 13 = false) : WP 67 G S (f + 1) 13 ls st h k n = (oA (lget ls 0) (WP 67 G S f) 14 ls st h k n) := by rw [wp_s dd_67_13 rfl hs]; rfl
theorem dd_67_14 : decode (mB 67) 14 = .ok (.getfield 11, 3) := by decide +kernel
theorem u_67_14 {G : aG} {S : Nat → Bool} {f : Nat} {st : List Value} {ls : aL} {h : aH} {k n : Nat} {a : Nat} (hs : S 14 = false) : WP 67 G S (f + 1) 14 ls (.ref a :: st) h k n = (oV (fget h a 6 0) (WP 67 G S f) 17 ls st h k n) := by rw [wp_s dd_67_14 rfl hs]; rfl
theorem dd_67_17 : decode (mB 67) 17 = .ok (.arraylength, 1) := by decide +kernel
theorem u_67_17 {G : aG} {S : Nat → Bool} {f : Nat} {st : List Value} {ls : aL} {h : aH} {k n : Nat} {a : Nat} (hs : S 17 = false) : WP 67 G S (f + 1) 17 ls (.ref a :: st) h k n = (oLen (alen h a) (WP 67 G S f) 18 ls st h k n) := by rw [wp_s dd_67_17 rfl hs]; rfl
theorem dd_67_18 : decode (mB 67) 18 = .ok (.if_icmp .ge 33, 3) := by decide +kernel
theorem u_67_18 {G : aG} {S : Nat → Bool} {f : Nat} {st : List Value} {ls : aL} {h : aH} {k n : Nat} {x y : Int32} (hs : S 18 = false) : WP 67 G S (f + 1) 18 ls (.int y :: .int x :: st) h k n = (if y ≤ x then WP 67 G S f 51 ls st h k n else WP 67 G S f 21 ls st h k n) := by rw [wp_s dd_67_18 rfl hs]; exact br_ite (c := y ≤ x)
theorem dd_67_21 : decode (mB 67) 21 = .ok (.aload_n 0, 1) := by decide +kernel
theorem u_67_21 {G : aG} {S : Nat → Bool} {f : Nat} {st : List Value} {ls : aL} {h : aH} {k n : Nat} (hs : S 21 = false) : WP 67 G S (f + 1) 21 ls st h k n = (oA (lget ls 0) (WP 67 G S f) 22 ls st h k n) := by rw [wp_s dd_67_21 rfl hs]; rfl
theorem dd_67_22 : decode (mB 67) 22 = .ok (.getfield 11, 3) := by decide +kernel
theorem u_67_22 {G : aG} {S : Nat → Bool} {f : Nat} {st : List Value} {ls : aL} {h : aH} {k n : Nat} {a : Nat} (hs : S 22 = false) : WP 67 G S (f + 1) 22 ls (.ref a :: st) h k n = (oV (fget h a 6 0) (WP 67 G S f) 25 ls st h k n) := by rw [wp_s dd_67_22 rfl hs]; rfl
theorem dd_67_25 : decode (mB 67) 25 = .ok (.iload_n 3, 1) := by decide +kernel
theorem u_67_25 {G : aG} {S : Nat → Bool} {f : Nat} {st : List Value} {ls : aL} {h : aH} {k n : Nat} (hs : S 25 = false) : WP 67 G S (f + 1) 25 ls st h k n = (oI (lget ls 3) (WP 67 G S f) 26 ls st h k n) := by rw [wp_s dd_67_25 rfl hs]; rfl
theorem dd_67_26 : decode (mB 67) 26 = .ok (.iaload, 1) := by decide +kernel
theorem u_67_26 {G : aG} {S : Nat → Bool} {f : Nat} {st : List Value} {ls : aL} {h : aH} {k n : Nat} {i : Int32} {a : Nat} (hs : S 26 = false) : WP 67 G S (f + 1) 26 ls (.int i :: .ref a :: st) h k n = (oIld (iget h a 1) i (WP 67 G S f) 27 ls st h k n) := by rw [wp_s dd_67_26 rfl hs]; rfl
theorem dd_67_27 : decode (mB 67) 27 = .ok (.ifCond .eq 18, 3) := by decide +kernel
theorem u_67_27 {G : aG} {S : Nat → Bool} {f : Nat} {st : List Value} {ls : aL} {h : aH} {k n : Nat} {x : Int32} (hs : S 27 = false) : WP 67 G S (f + 1) 27 ls (.int x :: st) h k n = (if x = nI 0 then WP 67 G S f 45 ls st h k n else WP 67 G S f 30 ls st h k n) := by rw [wp_s dd_67_27 rfl hs]; exact br_ite (c := x = nI 0)
theorem dd_67_30 : decode (mB 67) 30 = .ok (.iload_n 2, 1) := by decide +kernel
theorem u_67_30 {G : aG} {S : Nat → Bool} {f : Nat} {st : List Value} {ls : aL} {h : aH} {k n : Nat} (hs : S 30 = false) : WP 67 G S (f + 1) 30 ls st h k n = (oI (lget ls 2) (WP 67 G S f) 31 ls st h k n) := by rw [wp_s dd_67_30 rfl hs]; rfl
theorem dd_67_31 : decode (mB 67) 31 = .ok (.aload_n 0, 1) := by decide +kernel
theorem u_67_31 {G : aG} {S : Nat → Bool} {f : Nat} {st : List Value} {ls : aL} {h : aH} {k n : Nat} (hs : S 31 = false) : WP 67 G S (f + 1) 31 ls st h k n = (oA (lget ls 0) (WP 67 G S f) 32 ls st h k n) := by rw [wp_s dd_67_31 rfl hs]; rfl
theorem dd_67_32 : decode (mB 67) 32 = .ok (.getfield 11, 3) := by decide +kernel
theorem u_67_32 {G : aG} {S : Nat → Bool} {f : Nat} {st : List Value} {ls : aL} {h : aH} {k n : Nat} {a : Nat} (hs : S 32 = false) : WP 67 G S (f + 1) 32 ls (.ref a :: st) h k n = (oV (fget h a 6 0) (WP 67 G S f) 35 ls st h k n) := by rw [wp_s dd_67_32 rfl hs]; rfl
theorem dd_67_35 : decode (mB 67) 35 = .ok (.iload_n 3, 1) := by decide +kernel
theorem u_67_35 {G : aG} {S : Nat → Bool} {f : Nat} {st : List Value} {ls : aL} {h : aH} {k n : Nat} (hs : S 35 = false) : WP 67 G S (f + 1) 35 ls st h k n = (oI (lget ls 3) (WP 67 G S f) 36 ls st h k n) := by rw [wp_s dd_67_35 rfl hs]; rfl
theorem dd_67_36 : decode (mB 67) 36 = .ok (.iaload, 1) := by decide +kernel
theorem u_67_36 {G : aG} {S : Nat → Bool} {f : Nat} {st : List Value} {ls : aL} {h : aH} {k n : Nat} {i : Int32} {a : Nat} (hs : S 36 = false) : WP 67 G S (f + 1) 36 ls (.int i :: .ref a :: st) h k n = (oIld (iget h a 1) i (WP 67 G S f) 37 ls st h k n) := by rw [wp_s dd_67_36 rfl hs]; rfl
theorem dd_67_37 : decode (mB 67) 37 = .ok (.aload_n 1, 1) := by decide +kernel
theorem u_67_37 {G : aG} {S : Nat → Bool} {f : Nat} {st : List Value} {ls : aL} {h : aH} {k n : Nat} (hs : S 37 = false) : WP 67 G S (f + 1) 37 ls st h k n = (oA (lget ls 1) (WP 67 G S f) 38 ls st h k n) := by rw [wp_s dd_67_37 rfl hs]; rfl
theorem dd_67_38 : decode (mB 67) 38 = .ok (.iload_n 3, 1) := by decide +kernel
theorem u_67_38 {G : aG} {S : Nat → Bool} {f : Nat} {st : List Value} {ls : aL} {h : aH} {k n : Nat} (hs : S 38 = false) : WP 67 G S (f + 1) 38 ls st h k n = (oI (lget ls 3) (WP 67 G S f) 39 ls st h k n) := by rw [wp_s dd_67_38 rfl hs]; rfl
theorem dd_67_39 : decode (mB 67) 39 = .ok (.invokevirtual 51, 3) := by decide +kernel
theorem u_67_39 {G : aG} {S : Nat → Bool} {f : Nat} {st : List Value} {ls : aL} {h : aH} {k n : Nat} {v1 : Value} {b : Nat} (hs : S 39 = false) : WP 67 G S (f + 1) 39 ls (v1 :: .ref b :: st) h k n = (rcv (hget h b) 2 ∧ CAL G (WP 67 G S f) 68 [.ref b, v1] 42 ls st h k n) := by rw [wp_s dd_67_39 rfl hs]; rfl
theorem dd_67_42 : decode (mB 67) 42 = .ok (.imul, 1) := by decide +kernel
theorem u_67_42 {G : aG} {S : Nat → Bool} {f : Nat} {st : List Value} {ls : aL} {h : aH} {k n : Nat} {x y : Int32} (hs : S 42 = false) : WP 67 G S (f + 1) 42 ls (.int y :: .int x :: st) h k n = (WP 67 G S f 43 ls (.int (x * y) :: st) h k n) := by rw [wp_s dd_67_42 rfl hs]; rfl
theorem dd_67_43 : decode (mB 67) 43 = .ok (.iadd, 1) := by decide +kernel
theorem u_67_43 {G : aG} {S : Nat → Bool} {f : Nat} {st : List Value} {ls : aL} {h : aH} {k n : Nat} {x y : Int32} (hs : S 43 = false) : WP 67 G S (f + 1) 43 ls (.int y :: .int x :: st) h k n = (WP 67 G S f 44 ls (.int (x + y) :: st) h k n) := by rw [wp_s dd_67_43 rfl hs]; rfl
theorem dd_67_44 : decode (mB 67) 44 = .ok (.istore_n 2, 1) := by decide +kernel
theorem u_67_44 {G : aG} {S : Nat → Bool} {f : Nat} {st : List Value} {ls : aL} {h : aH} {k n : Nat} {x : Int32} (hs : S 44 = false) : WP 67 G S (f + 1) 44 ls (.int x :: st) h k n = (WP 67 G S f 45 (lput1 ls 2 (.int x)) st h k n) := by rw [wp_s dd_67_44 rfl hs]; rfl
theorem dd_67_45 : decode (mB 67) 45 = .ok (.iinc 3 1, 3) := by decide +kernel
theorem u_67_45 {G : aG} {S : Nat → Bool} {f : Nat} {st : List Value} {ls : aL} {h : aH} {k n : Nat} (hs : S 45 = false) : WP 67 G S (f + 1) 45 ls st h k n = (oInc (lget ls 3) (nI 1) (WP 67 G S f) 3 48 ls st h k n) := by rw [wp_s dd_67_45 rfl hs]; rfl
theorem dd_67_48 : decode (mB 67) 48 = .ok (.goto (-44), 3) := by decide +kernel
theorem u_67_48 {G : aG} {S : Nat → Bool} {f : Nat} {st : List Value} {ls : aL} {h : aH} {k n : Nat} (hs : S 48 = false) : WP 67 G S (f + 1) 48 ls st h k n = (WP 67 G S f 4 ls st h k n) := by rw [wp_s dd_67_48 rfl hs]; rfl
theorem dd_67_51 : decode (mB 67) 51 = .ok (.iload_n 2, 1) := by decide +kernel
theorem u_67_51 {G : aG} {S : Nat → Bool} {f : Nat} {st : List Value} {ls : aL} {h : aH} {k n : Nat} (hs : S 51 = false) : WP 67 G S (f + 1) 51 ls st h k n = (oI (lget ls 2) (WP 67 G S f) 52 ls st h k n) := by rw [wp_s dd_67_51 rfl hs]; rfl
theorem dd_67_52 : decode (mB 67) 52 = .ok (.ireturn, 1) := by decide +kernel
theorem u_67_52 {G : aG} {S : Nat → Bool} {f : Nat} {ls : aL} {h : aH} {k n : Nat} {x : Int32} (hs : S 52 = false) : WP 67 G S (f + 1) 52 ls [.int x] h k n = (RET G (some (.int x)) h k n) := by rw [wp_s dd_67_52 rfl hs]; rfl
theorem dd_68_0 : decode (mB 68) 0 = .ok (.aload_n 0, 1) := by decide +kernel
theorem u_68_0 {G : aG} {S : Nat → Bool} {f : Nat} {st : List Value} {ls : aL} {h : aH} {k n : Nat} (hs : S 0 = false) : WP 68 G S (f + 1) 0 ls st h k n = (oA (lget ls 0) (WP 68 G S f) 1 ls st h k n) := by rw [wp_s dd_68_0 rfl hs]; rfl
theorem dd_68_1 : decode (mB 68) 1 = .ok (.iload_n 1, 1) := by decide +kernel
theorem u_68_1 {G : aG} {S : Nat → Bool} {f : Nat} {st : List Value} {ls : aL} {h : aH} {k n : Nat} (hs : S 1 = false) : WP 68 G S (f + 1) 1 ls st h k n = (oI (lget ls 1) (WP 68 G S f) 2 ls st h k n) := by rw [wp_s dd_68_1 rfl hs]; rfl
theorem dd_68_2 : decode (mB 68) 2 = .ok (.invokevirtual 94, 3) := by decide +kernel
theorem u_68_2 {G : aG} {S : Nat → Bool} {f : Nat} {st : List Value} {ls : aL} {h : aH} {k n : Nat} {v1 : Value} {b : Nat} (hs : S 2 = false) : WP 68 G S (f + 1) 2 ls (v1 :: .ref b :: st) h k n = (rcv (hget h b) 2 ∧ CAL G (WP 68 G S f) 61 [.ref b, v1] 5 ls st h k n) := by rw [wp_s dd_68_2 rfl hs]; rfl
theorem dd_68_5 : decode (mB 68) 5 = .ok (.bipush 9, 2) := by decide +kernel
theorem u_68_5 {G : aG} {S : Nat → Bool} {f : Nat} {st : List Value} {ls : aL} {h : aH} {k n : Nat} (hs : S 5 = false) : WP 68 G S (f + 1) 5 ls st h k n = (WP 68 G S f 7 ls (.int (nI 9) :: st) h k n) := by rw [wp_s dd_68_5 rfl hs]; rfl
theorem dd_68_7 : decode (mB 68) 7 = .ok (.ishr, 1) := by decide +kernel
theorem u_68_7 {G : aG} {S : Nat → Bool} {f : Nat} {st : List Value} {ls : aL} {h : aH} {k n : Nat} {x y : Int32} (hs : S 7 = false) : WP 68 G S (f + 1) 7 ls (.int y :: .int x :: st) h k n = (WP 68 G S f 8 ls (.int (x >>> (y &&& 31)) :: st) h k n) := by rw [wp_s dd_68_7 rfl hs]; rfl
theorem dd_68_8 : decode (mB 68) 8 = .ok (.invokestatic 98, 3) := by decide +kernel
theorem u_68_8 {G : aG} {S : Nat → Bool} {f : Nat} {st : List Value} {ls : aL} {h : aH} {k n : Nat} {v1 : Value} (hs : S 8 = false) : WP 68 G S (f + 1) 8 ls (v1 :: st) h k n = (CAL G (WP 68 G S f) 69 [v1] 11 ls st h k n) := by rw [wp_s dd_68_8 rfl hs]; rfl
theorem dd_68_11 : decode (mB 68) 11 = .ok (.ireturn, 1) := by decide +kernel
theorem u_68_11 {G : aG} {S : Nat → Bool} {f : Nat} {ls : aL} {h : aH} {k n : Nat} {x : Int32} (hs : S 11 = false) : WP 68 G S (f + 1) 11 ls [.int x] h k n = (RET G (some (.int x)) h k n) := by rw [wp_s dd_68_11 rfl hs]; rfl
theorem dd_70_0 : decode (mB 70) 0 = .ok (.aload_n 0, 1) := by decide +kernel
theorem u_70_0 {G : aG} {S : Nat → Bool} {f : Nat} {st : List Value} {ls : aL} {h : aH} {k n : Nat} (hs : S 0 = false) : WP 70 G S (f + 1) 0 ls st h k n = (oA (lget ls 0) (WP 70 G S f) 1 ls st h k n) := by rw [wp_s dd_70_0 rfl hs]; rfl
theorem dd_70_1 : decode (mB 70) 1 = .ok (.getfield 15, 3) := by decide +kernel
theorem u_70_1 {G : aG} {S : Nat → Bool} {f : Nat} {st : List Value} {ls : aL} {h : aH} {k n : Nat} {a : Nat} (hs : S 1 = false) : WP 70 G S (f + 1) 1 ls (.ref a :: st) h k n = (oV (fget h a 6 1) (WP 70 G S f) 4 ls st h k n) := by rw [wp_s dd_70_1 rfl hs]; rfl
theorem dd_70_4 : decode (mB 70) 4 = .ok (.iconst 0, 1) := by decide +kernel
theorem u_70_4 {G : aG} {S : Nat → Bool} {f : Nat} {st : List Value} {ls : aL} {h : aH} {k n : Nat} (hs : S 4 = false) : WP 70 G S (f + 1) 4 ls st h k n = (WP 70 G S f 5 ls (.int (nI 0) :: st) h k n) := by rw [wp_s dd_70_4 rfl hs]; rfl
theorem dd_70_5 : decode (mB 70) 5 = .ok (.invokestatic 38, 3) := by decide +kernel
theorem u_70_5 {G : aG} {S : Nat → Bool} {f : Nat} {st : List Value} {ls : aL} {h : aH} {k n : Nat} {v1 v2 : Value} (hs : S 5 = false) : WP 70 G S (f + 1) 5 ls (v2 :: v1 :: st) h k n = (CAL G (WP 70 G S f) 26 [v1, v2] 8 ls st h k n) := by rw [wp_s dd_70_5 rfl hs]; rfl
theorem dd_70_8 : decode (mB 70) 8 = .ok (.aload_n 1, 1) := by decide +kernel
theorem u_70_8 {G : aG} {S : Nat → Bool} {f : Nat} {st : List Value} {ls : aL} {h : aH} {k n : Nat} (hs : S 8 = false) : WP 70 G S (f + 1) 8 ls st h k n = (oA (lget ls 1) (WP 70 G S f) 9 ls st h k n) := by rw [wp_s dd_70_8 rfl hs]; rfl
theorem dd_70_9 : decode (mB 70) 9 = .ok (.getfield 48, 3) := by decide +kernel
theorem u_70_9 {G : aG} {S : Nat → Bool} {f : Nat} {st : List Value} {ls : aL} {h : aH} {k n : Nat} {a : Nat} (hs : S 9 = false) : WP 70 G S (f + 1) 9 ls (.ref a :: st) h k n = (oV (fget h a 2 3) (WP 70 G S f) 12 ls st h k n) := by rw [wp_s dd_70_9 rfl hs]; rfl
theorem dd_70_12 : decode (mB 70) 12 = .ok (.aload_n 0, 1) := by decide +kernel
theorem u_70_12 {G : aG} {S : Nat → Bool} {f : Nat} {st : List Value} {ls : aL} {h : aH} {k n : Nat} (hs : S 12 = false) : WP 70 G S (f + 1) 12 ls st h k n = (oA (lget ls 0) (WP 70 G S f) 13 ls st h k n) := by rw [wp_s dd_70_12 rfl hs]; rfl
theorem dd_70_13 : decode (mB 70) 13 = .ok (.getfield 11, 3) := by decide +kernel
theorem u_70_13 {G : aG} {S : Nat → Bool} {f : Nat} {st : List Value} {ls : aL} {h : aH} {k n : Nat} {a : Nat} (hs : S 13 = false) : WP 70 G S (f + 1) 13 ls (.ref a :: st) h k n = (oV (fget h a 6 0) (WP 70 G S f) 16 ls st h k n) := by rw [wp_s dd_70_13 rfl hs]; rfl
theorem dd_70_16 : decode (mB 70) 16 = .ok (.arraylength, 1) := by decide +kernel
theorem u_70_16 {G : aG} {S : Nat → Bool} {f : Nat} {st : List Value} {ls : aL} {h : aH} {k n : Nat} {a : Nat} (hs : S 16 = false) : WP 70 G S (f + 1) 16 ls (.ref a :: st) h k n = (oLen (alen h a) (WP 70 G S f) 17 ls st h k n) := by rw [wp_s dd_70_16 rfl hs]; rfl
theorem dd_70_17 : decode (mB 70) 17 = .ok (.invokestatic 54, 3) := by decide +kernel
theorem u_70_17 {G : aG} {S : Nat → Bool} {f : Nat} {st : List Value} {ls : aL} {h : aH} {k n : Nat} {v1 v2 : Value} (hs : S 17 = false) : WP 70 G S (f + 1) 17 ls (v2 :: v1 :: st) h k n = (CAL G (WP 70 G S f) 15 [v1, v2] 20 ls st h k n) := by rw [wp_s dd_70_17 rfl hs]; rfl
theorem dd_70_20 : decode (mB 70) 20 = .ok (.istore_n 2, 1) := by decide +kernel
theorem u_70_20 {G : aG} {S : Nat → Bool} {f : Nat} {st : List Value} {ls : aL} {h : aH} {k n : Nat} {x : Int32} (hs : S 20 = false) : WP 70 G S (f + 1) 20 ls (.int x :: st) h k n = (WP 70 G S f 21 (lput1 ls 2 (.int x)) st h k n) := by rw [wp_s dd_70_20 rfl hs]; rfl
theorem dd_70_21 : decode (mB 70) 21 = .ok (.iconst 0, 1) := by decide +kernel
theorem u_70_21 {G : aG} {S : Nat → Bool} {f : Nat} {st : List Value} {ls : aL} {h : aH} {k n : Nat} (hs : S 21 = false) : WP 70 G S (f + 1) 21 ls st h k n = (WP 70 G S f 22 ls (.int (nI 0) :: st) h k n) := by rw [wp_s dd_70_21 rfl hs]; rfl
theorem dd_70_22 : decode (mB 70) 22 = .ok (.istore_n 3, 1) := by decide +kernel
theorem u_70_22 {G : aG} {S : Nat → Bool} {f : Nat} {st : List Value} {ls : aL} {h : aH} {k n : Nat} {x : Int32} (hs : S 22 = false) : WP 70 G S (f + 1) 22 ls (.int x :: st) h k n = (WP 70 G S f 23 (lput1 ls 3 (.int x)) st h k n) := by rw [wp_s dd_70_22 rfl hs]; rfl
theorem dd_70_23 : decode (mB 70) 23 = .ok (.iload_n 3, 1) := by decide +kernel
theorem u_70_23 {G : aG} {S : Nat → Bool} {f : Nat} {st : List Value} {ls : aL} {h : aH} {k n : Nat} (hs : S 23 = false) : WP 70 G S (f + 1) 23 ls st h k n = (oI (lget ls 3) (WP 70 G S f) 24 ls st h k n) := by rw [wp_s dd_70_23 rfl hs]; rfl
theorem v_70_23 {G : aG} {S : Nat → Bool} {f : Nat} {st : List Value} {ls : aL} {h : aH} {k n : Nat} : WQ 70 G S f 23 ls st h k n = (oI (lget ls 3) (WP 70 G S f) 24 ls st h k n) := by rw [wq_s dd_70_23 rfl]; rfl
theorem dd_70_24 : decode (mB 70) 24 = .ok (.iload_n 2, 1) := by decide +kernel
theorem u_70_24 {G : aG} {S : Nat → Bool} {f : Nat} {st : List Value} {ls : aL} {h : aH} {k n : Nat} (hs : S 24 = false) : WP 70 G S (f + 1) 24 ls st h k n = (oI (lget ls 2) (WP 70 G S f) 25 ls st h k n) := by rw [wp_s dd_70_24 rfl hs]; rfl
theorem dd_70_25 : decode (mB 70) 25 = .ok (.if_icmp .ge 89, 3) := by decide +kernel
theorem u_70_25 {G : aG} {S : Nat → Bool} {f : Nat} {st : List Value} {ls : aL} {h : aH} {k n : Nat} {x y : Int32} (hs : S 25 = false) : WP 70 G S (f + 1) 25 ls (.int y :: .int x :: st) h k n = (if y ≤ x then WP 70 G S f 114 ls st h k n else WP 70 G S f 28 ls st h k n) := by rw [wp_s dd_70_25 rfl hs]; exact br_ite (c := y ≤ x)
theorem dd_70_28 : decode (mB 70) 28 = .ok (.iconst 0, 1) := by decide +kernel
theorem u_70_28 {G : aG} {S : Nat → Bool} {f : Nat} {st : List Value} {ls : aL} {h : aH} {k n : Nat} (hs : S 28 = false) : WP 70 G S (f + 1) 28 ls st h k n = (WP 70 G S f 29 ls (.int (nI 0) :: st) h k n) := by rw [wp_s dd_70_28 rfl hs]; rfl
theorem dd_70_29 : decode (mB 70) 29 = .ok (.istore 4, 2) := by decide +kernel
theorem u_70_29 {G : aG} {S : Nat → Bool} {f : Nat} {st : List Value} {ls : aL} {h : aH} {k n : Nat} {x : Int32} (hs : S 29 = false) : WP 70 G S (f + 1) 29 ls (.int x :: st) h k n = (WP 70 G S f 31 (lput1 ls 4 (.int x)) st h k n) := by rw [wp_s dd_70_29 rfl hs]; rfl
theorem dd_70_31 : decode (mB 70) 31 = .ok (.iload 4, 2) := by decide +kernel
theorem u_70_31 {G : aG} {S : Nat → Bool} {f : Nat} {st : List Value} {ls : aL} {h : aH} {k n : Nat} (hs : S 31 = false) : WP 70 G S (f + 1) 31 ls st h k n = (oI (lget ls 4) (WP 70 G S f) 33 ls st h k n) := by rw [wp_s dd_70_31 rfl hs]; rfl
theorem v_70_31 {G : aG} {S : Nat → Bool} {f : Nat} {st : List Value} {ls : aL} {h : aH} {k n : Nat} : WQ 70 G S f 31 ls st h k n = (oI (lget ls 4) (WP 70 G S f) 33 ls st h k n) := by rw [wq_s dd_70_31 rfl]; rfl
theorem dd_70_33 : decode (mB 70) 33 = .ok (.bipush 8, 2) := by decide +kernel
theorem u_70_33 {G : aG} {S : Nat → Bool} {f : Nat} {st : List Value} {ls : aL} {h : aH} {k n : Nat} (hs : S 33 = false) : WP 70 G S (f + 1) 33 ls st h k n = (WP 70 G S f 35 ls (.int (nI 8) :: st) h k n) := by rw [wp_s dd_70_33 rfl hs]; rfl
theorem dd_70_35 : decode (mB 70) 35 = .ok (.if_icmp .ge 73, 3) := by decide +kernel
theorem u_70_35 {G : aG} {S : Nat → Bool} {f : Nat} {st : List Value} {ls : aL} {h : aH} {k n : Nat} {x y : Int32} (hs : S 35 = false) : WP 70 G S (f + 1) 35 ls (.int y :: .int x :: st) h k n = (if y ≤ x then WP 70 G S f 108 ls st h k n else WP 70 G S f 38 ls st h k n) := by rw [wp_s dd_70_35 rfl hs]; exact br_ite (c := y ≤ x)
theorem dd_70_38 : decode (mB 70) 38 = .ok (.aload_n 0, 1) := by decide +kernel
theorem u_70_38 {G : aG} {S : Nat → Bool} {f : Nat} {st : List Value} {ls : aL} {h : aH} {k n : Nat} (hs : S 38 = false) : WP 70 G S (f + 1) 38 ls st h k n = (oA (lget ls 0) (WP 70 G S f) 39 ls st h k n) := by rw [wp_s dd_70_38 rfl hs]; rfl
theorem dd_70_39 : decode (mB 70) 39 = .ok (.getfield 11, 3) := by decide +kernel
theorem u_70_39 {G : aG} {S : Nat → Bool} {f : Nat} {st : List Value} {ls : aL} {h : aH} {k n : Nat} {a : Nat} (hs : S 39 = false) : WP 70 G S (f + 1) 39 ls (.ref a :: st) h k n = (oV (fget h a 6 0) (WP 70 G S f) 42 ls st h k n) := by rw [wp_s dd_70_39 rfl hs]; rfl
theorem dd_70_42 : decode (mB 70) 42 = .ok (.iload_n 3, 1) := by decide +kernel
theorem u_70_42 {G : aG} {S : Nat → Bool} {f : Nat} {st : List Value} {ls : aL} {h : aH} {k n : Nat} (hs : S 42 = false) : WP 70 G S (f + 1) 42 ls st h k n = (oI (lget ls 3) (WP 70 G S f) 43 ls st h k n) := by rw [wp_s dd_70_42 rfl hs]; rfl
theorem dd_70_43 : decode (mB 70) 43 = .ok (.iaload, 1) := by decide +kernel
theorem u_70_43 {G : aG} {S : Nat → Bool} {f : Nat} {st : List Value} {ls : aL} {h : aH} {k n : Nat} {i : Int32} {a : Nat} (hs : S 43 = false) : WP 70 G S (f + 1) 43 ls (.int i :: .ref a :: st) h k n = (oIld (iget h a 1) i (WP 70 G S f) 44 ls st h k n) := by rw [wp_s dd_70_43 rfl hs]; rfl
theorem dd_70_44 : decode (mB 70) 44 = .ok (.ifCond .eq 64, 3) := by decide +kernel
theorem u_70_44 {G : aG} {S : Nat → Bool} {f : Nat} {st : List Value} {ls : aL} {h : aH} {k n : Nat} {x : Int32} (hs : S 44 = false) : WP 70 G S (f + 1) 44 ls (.int x :: st) h k n = (if x = nI 0 then WP 70 G S f 108 ls st h k n else WP 70 G S f 47 ls st h k n) := by rw [wp_s dd_70_44 rfl hs]; exact br_ite (c := x = nI 0)
theorem dd_70_47 : decode (mB 70) 47 = .ok (.aload_n 1, 1) := by decide +kernel
theorem u_70_47 {G : aG} {S : Nat → Bool} {f : Nat} {st : List Value} {ls : aL} {h : aH} {k n : Nat} (hs : S 47 = false) : WP 70 G S (f + 1) 47 ls st h k n = (oA (lget ls 1) (WP 70 G S f) 48 ls st h k n) := by rw [wp_s dd_70_47 rfl hs]; rfl
theorem dd_70_48 : decode (mB 70) 48 = .ok (.iload_n 3, 1) := by decide +kernel
theorem u_70_48 {G : aG} {S : Nat → Bool} {f : Nat} {st : List Value} {ls : aL} {h : aH} {k n : Nat} (hs : S 48 = false) : WP 70 G S (f + 1) 48 ls st h k n = (oI (lget ls 3) (WP 70 G S f) 49 ls st h k n) := by rw [wp_s dd_70_48 rfl hs]; rfl
theorem dd_70_49 : decode (mB 70) 49 = .ok (.iload 4, 2) := by decide +kernel
theorem u_70_49 {G : aG} {S : Nat → Bool} {f : Nat} {st : List Value} {ls : aL} {h : aH} {k n : Nat} (hs : S 49 = false) : WP 70 G S (f + 1) 49 ls st h k n = (oI (lget ls 4) (WP 70 G S f) 51 ls st h k n) := by rw [wp_s dd_70_49 rfl hs]; rfl
theorem dd_70_51 : decode (mB 70) 51 = .ok (.invokevirtual 60, 3) := by decide +kernel
theorem u_70_51 {G : aG} {S : Nat → Bool} {f : Nat} {st : List Value} {ls : aL} {h : aH} {k n : Nat} {v1 v2 : Value} {b : Nat} (hs : S 51 = false) : WP 70 G S (f + 1) 51 ls (v2 :: v1 :: .ref b :: st) h k n = (rcv (hget h b) 2 ∧ CAL G (WP 70 G S f) 71 [.ref b, v1, v2] 54 ls st h k n) := by rw [wp_s dd_70_51 rfl hs]; rfl
theorem dd_70_54 : decode (mB 70) 54 = .ok (.istore 5, 2) := by decide +kernel
theorem u_70_54 {G : aG} {S : Nat → Bool} {f : Nat} {st : List Value} {ls : aL} {h : aH} {k n : Nat} {x : Int32} (hs : S 54 = false) : WP 70 G S (f + 1) 54 ls (.int x :: st) h k n = (WP 70 G S f 56 (lput1 ls 5 (.int x)) st h k n) := by rw [wp_s dd_70_54 rfl hs]; rfl
theorem dd_70_56 : decode (mB 70) 56 = .ok (.iload 5, 2) := by decide +kernel
theorem u_70_56 {G : aG} {S : Nat → Bool} {f : Nat} {st : List Value} {ls : aL} {h : aH} {k n : Nat} (hs : S 56 = false) : WP 70 G S (f + 1) 56 ls st h k n = (oI (lget ls 5) (WP 70 G S f) 58 ls st h k n) := by rw [wp_s dd_70_56 rfl hs]; rfl
theorem dd_70_58 : decode (mB 70) 58 = .ok (.aload_n 0, 1) := by decide +kernel
theorem u_70_58 {G : aG} {S : Nat → Bool} {f : Nat} {st : List Value} {ls : aL} {h : aH} {k n : Nat} (hs : S 58 = false) : WP 70 G S (f + 1) 58 ls st h k n = (oA (lget ls 0) (WP 70 G S f) 59 ls st h k n) := by rw [wp_s dd_70_58 rfl hs]; rfl
theorem dd_70_59 : decode (mB 70) 59 = .ok (.getfield 15, 3) := by decide +kernel
theorem u_70_59 {G : aG} {S : Nat → Bool} {f : Nat} {st : List Value} {ls : aL} {h : aH} {k n : Nat} {a : Nat} (hs : S 59 = false) : WP 70 G S (f + 1) 59 ls (.ref a :: st) h k n = (oV (fget h a 6 1) (WP 70 G S f) 62 ls st h k n) := by rw [wp_s dd_70_59 rfl hs]; rfl
theorem dd_70_62 : decode (mB 70) 62 = .ok (.arraylength, 1) := by decide +kernel
theorem u_70_62 {G : aG} {S : Nat → Bool} {f : Nat} {st : List Value} {ls : aL} {h : aH} {k n : Nat} {a : Nat} (hs : S 62 = false) : WP 70 G S (f + 1) 62 ls (.ref a :: st) h k n = (oLen (alen h a) (WP 70 G S f) 63 ls st h k n) := by rw [wp_s dd_70_62 rfl hs]; rfl
theorem dd_70_63 : decode (mB 70) 63 = .ok (.if_icmp .lt 18, 3) := by decide +kernel
theorem u_70_63 {G : aG} {S : Nat → Bool} {f : Nat} {st : List Value} {ls : aL} {h : aH} {k n : Nat} {x y : Int32} (hs : S 63 = false) : WP 70 G S (f + 1) 63 ls (.int y :: .int x :: st) h k n = (if x < y then WP 70 G S f 81 ls st h k n else WP 70 G S f 66 ls st h k n) := by rw [wp_s dd_70_63 rfl hs]; exact br_ite (c := x < y)
theorem dd_70_66 : decode (mB 70) 66 = .ok (.aload_n 0, 1) := by decide +kernel
theorem u_70_66 {G : aG} {S : Nat → Bool} {f : Nat} {st : List Value} {ls : aL} {h : aH} {k n : Nat} (hs : S 66 = false) : WP 70 G S (f + 1) 66 ls st h k n = (oA (lget ls 0) (WP 70 G S f) 67 ls st h k n) := by rw [wp_s dd_70_66 rfl hs]; rfl
theorem dd_70_67 : decode (mB 70) 67 = .ok (.aload_n 0, 1) := by decide +kernel
theorem u_70_67 {G : aG} {S : Nat → Bool} {f : Nat} {st : List Value} {ls : aL} {h : aH} {k n : Nat} (hs : S 67 = false) : WP 70 G S (f + 1) 67 ls st h k n = (oA (lget ls 0) (WP 70 G S f) 68 ls st h k n) := by rw [wp_s dd_70_67 rfl hs]; rfl
theorem dd_70_68 : decode (mB 70) 68 = .ok (.getfield 15, 3) := by decide +kernel
theorem u_70_68 {G : aG} {S : Nat → Bool} {f : Nat} {st : List Value} {ls : aL} {h : aH} {k n : Nat} {a : Nat} (hs : S 68 = false) : WP 70 G S (f + 1) 68 ls (.ref a :: st) h k n = (oV (fget h a 6 1) (WP 70 G S f) 71 ls st h k n) := by rw [wp_s dd_70_68 rfl hs]; rfl
theorem dd_70_71 : decode (mB 70) 71 = .ok (.iconst 2, 1) := by decide +kernel
theorem u_70_71 {G : aG} {S : Nat → Bool} {f : Nat} {st : List Value} {ls : aL} {h : aH} {k n : Nat} (hs : S 71 = false) : WP 70 G S (f + 1) 71 ls st h k n = (WP 70 G S f 72 ls (.int (nI 2) :: st) h k n) := by rw [wp_s dd_70_71 rfl hs]; rfl
theorem dd_70_72 : decode (mB 70) 72 = .ok (.iload 5, 2) := by decide +kernel
theorem u_70_72 {G : aG} {S : Nat → Bool} {f : Nat} {st : List Value} {ls : aL} {h : aH} {k n : Nat} (hs : S 72 = false) : WP 70 G S (f + 1) 72 ls st h k n = (oI (lget ls 5) (WP 70 G S f) 74 ls st h k n) := by rw [wp_s dd_70_72 rfl hs]; rfl
theorem dd_70_74 : decode (mB 70) 74 = .ok (.imul, 1) := by decide +kernel
theorem u_70_74 {G : aG} {S : Nat → Bool} {f : Nat} {st : List Value} {ls : aL} {h : aH} {k n : Nat} {x y : Int32} (hs : S 74 = false) : WP 70 G S (f + 1) 74 ls (.int y :: .int x :: st) h k n = (WP 70 G S f 75 ls (.int (x * y) :: st) h k n) := by rw [wp_s dd_70_74 rfl hs]; rfl
theorem dd_70_75 : decode (mB 70) 75 = .ok (.invokestatic 63, 3) := by decide +kernel
theorem u_70_75 {G : aG} {S : Nat → Bool} {f : Nat} {st : List Value} {ls : aL} {h : aH} {k n : Nat} {v1 v2 : Value} (hs : S 75 = false) : WP 70 G S (f + 1) 75 ls (v2 :: v1 :: st) h k n = (CAL G (WP 70 G S f) 21 [v1, v2] 78 ls st h k n) := by rw [wp_s dd_70_75 rfl hs]; rfl
theorem dd_70_78 : decode (mB 70) 78 = .ok (.putfield 15, 3) := by decide +kernel
theorem u_70_78 {G : aG} {S : Nat → Bool} {f : Nat} {st : List Value} {ls : aL} {h : aH} {k n : Nat} {a : Nat} {x : Nat} (hs : S 78 = false) : WP 70 G S (f + 1) 78 ls (.ref x :: .ref a :: st) h k n = (oH (fput h a 6 1 (.ref x)) (WP 70 G S f) 81 ls st k n) := by rw [wp_s dd_70_78 rfl hs]; rfl
theorem dd_70_81 : decode (mB 70) 81 = .ok (.iload 5, 2) := by decide +kernel
theorem u_70_81 {G : aG} {S : Nat → Bool} {f : Nat} {st : List Value} {ls : aL} {h : aH} {k n : Nat} (hs : S 81 = false) : WP 70 G S (f + 1) 81 ls st h k n = (oI (lget ls 5) (WP 70 G S f) 83 ls st h k n) := by rw [wp_s dd_70_81 rfl hs]; rfl
theorem dd_70_83 : decode (mB 70) 83 = .ok (.ifCond .lt 19, 3) := by decide +kernel
theorem u_70_83 {G : aG} {S : Nat → Bool} {f : Nat} {st : List Value} {ls : aL} {h : aH} {k n : Nat} {x : Int32} (hs : S 83 = false) : WP 70 G S (f + 1) 83 ls (.int x :: st) h k n = (if x < nI 0 then WP 70 G S f 102 ls st h k n else WP 70 G S f 86 ls st h k n) := by rw [wp_s dd_70_83 rfl hs]; exact br_ite (c := x < nI 0)
theorem dd_70_86 : decode (mB 70) 86 = .ok (.aload_n 0, 1) := by decide +kernel
theorem u_70_86 {G : aG} {S : Nat → Bool} {f : Nat} {st : List Value} {ls : aL} {h : aH} {k n : Nat} (hs : S 86 = false) : WP 70 G S (f + 1) 86 ls st h k n = (oA (lget ls 0) (WP 70 G S f) 87 ls st h k n) := by rw [wp_s dd_70_86 rfl hs]; rfl
theorem dd_70_87 : decode (mB 70) 87 = .ok (.getfield 15, 3) := by decide +kernel
theorem u_70_87 {G : aG} {S : Nat → Bool} {f : Nat} {st : List Value} {ls : aL} {h : aH} {k n : Nat} {a : Nat} (hs : S 87 = false) : WP 70 G S (f + 1) 87 ls (.ref a :: st) h k n = (oV (fget h a 6 1) (WP 70 G S f) 90 ls st h k n) := by rw [wp_s dd_70_87 rfl hs]; rfl
theorem dd_70_90 : decode (mB 70) 90 = .ok (.iload 5, 2) := by decide +kernel
theorem u_70_90 {G : aG} {S : Nat → Bool} {f : Nat} {st : List Value} {ls : aL} {h : aH} {k n : Nat} (hs : S 90 = false) : WP 70 G S (f + 1) 90 ls st h k n = (oI (lget ls 5) (WP 70 G S f) 92 ls st h k n) := by rw [wp_s dd_70_90 rfl hs]; rfl
theorem dd_70_92 : decode (mB 70) 92 = .ok (.dup2, 1) := by decide +kernel
theorem u_70_92 {G : aG} {S : Nat → Bool} {f : Nat} {st : List Value} {ls : aL} {h : aH} {k n : Nat} {v v2 : Value} (hs : S 92 = false) : WP 70 G S (f + 1) 92 ls (v :: v2 :: st) h k n = (cond (cat1 v && cat1 v2) (WP 70 G S f 93 ls (v :: v2 :: v :: v2 :: st) h k n) False) := by rw [wp_s dd_70_92 rfl hs]; rfl
theorem dd_70_93 : decode (mB 70) 93 = .ok (.iaload, 1) := by decide +kernel
theorem u_70_93 {G : aG} {S : Nat → Bool} {f : Nat} {st : List Value} {ls : aL} {h : aH} {k n : Nat} {i : Int32} {a : Nat} (hs : S 93 = false) : WP 70 G S (f + 1) 93 ls (.int i :: .ref a :: st) h k n = (oIld (iget h a 1) i (WP 70 G S f) 94 ls st h k n) := by rw [wp_s dd_70_93 rfl hs]; rfl
theorem dd_70_94 : decode (mB 70) 94 = .ok (.aload_n 0, 1) := by decide +kernel
theorem u_70_94 {G : aG} {S : Nat → Bool} {f : Nat} {st : List Value} {ls : aL} {h : aH} {k n : Nat} (hs : S 94 = false) : WP 70 G S (f + 1) 94 ls st h k n = (oA (lget ls 0) (WP 70 G S f) 95 ls st h k n) := by rw [wp_s dd_70_94 rfl hs]; rfl
theorem dd_70_95 : decode (mB 70) 95 = .ok (.getfield 11, 3) := by decide +kernel
theorem u_70_95 {G : aG} {S : Nat → Bool} {f : Nat} {st : List Value} {ls : aL} {h : aH} {k n : Nat} {a : Nat} (hs : S 95 = false) : WP 70 G S (f + 1) 95 ls (.ref a :: st) h k n = (oV (fget h a 6 0) (WP 70 G S f) 98 ls st h k n) := by rw [wp_s dd_70_95 rfl hs]; rfl
theorem dd_70_98 : decode (mB 70) 98 = .ok (.iload_n 3, 1) := by decide +kernel
theorem u_70_98 {G : aG} {S : Nat → Bool} {f : Nat} {st : List Value} {ls : aL} {h : aH} {k n : Nat} (hs : S 98 = false) : WP 70 G S (f + 1) 98 ls st h k n = (oI (lget ls 3) (WP 70 G S f) 99 ls st h k n) := by rw [wp_s dd_70_98 rfl hs]; rfl
theorem dd_70_99 : decode (mB 70) 99 = .ok (.iaload, 1) := by decide +kernel
theorem u_70_99 {G : aG} {S : Nat → Bool} {f : Nat} {st : List Value} {ls : aL} {h : aH} {k n : Nat} {i : Int32} {a : Nat} (hs : S 99 = false) : WP 70 G S (f + 1) 99 ls (.int i :: .ref a :: st) h k n = (oIld (iget h a 1) i (WP 70 G S f) 100 ls st h k n) := by rw [wp_s dd_70_99 rfl hs]; rfl
theorem dd_70_100 : decode (mB 70) 100 = .ok (.iadd, 1) := by decide +kernel
theorem u_70_100 {G : aG} {S : Nat → Bool} {f : Nat} {st : List Value} {ls : aL} {h : aH} {k n : Nat} {x y : Int32} (hs : S 100 = false) : WP 70 G S (f + 1) 100 ls (.int y :: .int x :: st) h k n = (WP 70 G S f 101 ls (.int (x + y) :: st) h k n) := by rw [wp_s dd_70_100 rfl hs]; rfl
theorem dd_70_101 : decode (mB 70) 101 = .ok (.iastore, 1) := by decide +kernel
theorem u_70_101 {G : aG} {S : Nat → Bool} {f : Nat} {st : List Value} {ls : aL} {h : aH} {k n : Nat} {i x : Int32} {a : Nat} (hs : S 101 = false) : WP 70 G S (f + 1) 101 ls (.int x :: .int i :: .ref a :: st) h k n = (oIst (iget h a 1) a i x (WP 70 G S f) 102 ls st h k n) := by rw [wp_s dd_70_101 rfl hs]; rfl
theorem dd_70_102 : decode (mB 70) 102 = .ok (.iinc 4 1, 3) := by decide +kernel
theorem u_70_102 {G : aG} {S : Nat → Bool} {f : Nat} {st : List Value} {ls : aL} {h : aH} {k n : Nat} (hs : S 102 = false) : WP 70 G S (f + 1) 102 ls st h k n = (oInc (lget ls 4) (nI 1) (WP 70 G S f) 4 105 ls st h k n) := by rw [wp_s dd_70_102 rfl hs]; rfl
theorem dd_70_105 : decode (mB 70) 105 = .ok (.goto (-74), 3) := by decide +kernel
theorem u_70_105 {G : aG} {S : Nat → Bool} {f : Nat} {st : List Value} {ls : aL} {h : aH} {k n : Nat} (hs : S 105 = false) : WP 70 G S (f + 1) 105 ls st h k n = (WP 70 G S f 31 ls st h k n) := by rw [wp_s dd_70_105 rfl hs]; rfl
theorem dd_70_108 : decode (mB 70) 108 = .ok (.iinc 3 1, 3) := by decide +kernel
theorem u_70_108 {G : aG} {S : Nat → Bool} {f : Nat} {st : List Value} {ls : aL} {h : aH} {k n : Nat} (hs : S 108 = false) : WP 70 G S (f + 1) 108 ls st h k n = (oInc (lget ls 3) (nI 1) (WP 70 G S f) 3 111 ls st h k n) := by rw [wp_s dd_70_108 rfl hs]; rfl
theorem dd_70_111 : decode (mB 70) 111 = .ok (.goto (-88), 3) := by decide +kernel
theorem u_70_111 {G : aG} {S : Nat → Bool} {f : Nat} {st : List Value} {ls : aL} {h : aH} {k n : Nat} (hs : S 111 = false) : WP 70 G S (f + 1) 111 ls st h k n = (WP 70 G S f 23 ls st h k n) := by rw [wp_s dd_70_111 rfl hs]; rfl
theorem dd_70_114 : decode (mB 70) 114 = .ok (.aload_n 0, 1) := by decide +kernel
theorem u_70_114 {G : aG} {S : Nat → Bool} {f : Nat} {st : List Value} {ls : aL} {h : aH} {k n : Nat} (hs : S 114 = false) : WP 70 G S (f + 1) 114 ls st h k n = (oA (lget ls 0) (WP 70 G S f) 115 ls st h k n) := by rw [wp_s dd_70_114 rfl hs]; rfl
theorem dd_70_115 : decode (mB 70) 115 = .ok (.getfield 11, 3) := by decide +kernel
theorem u_70_115 {G : aG} {S : Nat → Bool} {f : Nat} {st : List Value} {ls : aL} {h : aH} {k n : Nat} {a : Nat} (hs : S 115 = false) : WP 70 G S (f + 1) 115 ls (.ref a :: st) h k n = (oV (fget h a 6 0) (WP 70 G S f) 118 ls st h k n) := by rw [wp_s dd_70_115 rfl hs]; rfl
theorem dd_70_118 : decode (mB 70) 118 = .ok (.astore_n 3, 1) := by decide +kernel
theorem u_70_118 {G : aG} {S : Nat → Bool} {f : Nat} {st : List Value} {ls : aL} {h : aH} {k n : Nat} {x : Nat} (hs : S 118 = false) : WP 70 G S (f + 1) 118 ls (.ref x :: st) h k n = (WP 70 G S f 119 (lput1 ls 3 (.ref x)) st h k n) := by rw [wp_s dd_70_118 rfl hs]; rfl
theorem dd_70_119 : decode (mB 70) 119 = .ok (.aload_n 0, 1) := by decide +kernel
theorem u_70_119 {G : aG} {S : Nat → Bool} {f : Nat} {st : List Value} {ls : aL} {h : aH} {k n : Nat} (hs : S 119 = false) : WP 70 G S (f + 1) 119 ls st h k n = (oA (lget ls 0) (WP 70 G S f) 120 ls st h k n) := by rw [wp_s dd_70_119 rfl hs]; rfl
theorem dd_70_120 : decode (mB 70) 120 = .ok (.aload_n 0, 1) := by decide +kernel
theorem u_70_120 {G : aG} {S : Nat → Bool} {f : Nat} {st : List Value} {ls : aL} {h : aH} {k n : Nat} (hs : S 120 = false) : WP 70 G S (f + 1) 120 ls st h k n = (oA (lget ls 0) (WP 70 G S f) 121 ls st h k n) := by rw [wp_s dd_70_120 rfl hs]; rfl
theorem dd_70_121 : decode (mB 70) 121 = .ok (.getfield 15, 3) := by decide +kernel
theorem u_70_121 {G : aG} {S : Nat → Bool} {f : Nat} {st : List Value} {ls : aL} {h : aH} {k n : Nat} {a : Nat} (hs : S 121 = false) : WP 70 G S (f + 1) 121 ls (.ref a :: st) h k n = (oV (fget h a 6 1) (WP 70 G S f) 124 ls st h k n) := by rw [wp_s dd_70_121 rfl hs]; rfl
theorem dd_70_124 : decode (mB 70) 124 = .ok (.putfield 11, 3) := by decide +kernel
theorem u_70_124 {G : aG} {S : Nat → Bool} {f : Nat} {st : List Value} {ls : aL} {h : aH} {k n : Nat} {a : Nat} {x : Nat} (hs : S 124 = false) : WP 70 G S (f + 1) 124 ls (.ref x :: .ref a :: st) h k n = (oH (fput h a 6 0 (.ref x)) (WP 70 G S f) 127 ls st k n) := by rw [wp_s dd_70_124 rfl hs]; rfl
theorem dd_70_127 : decode (mB 70) 127 = .ok (.aload_n 0, 1) := by decide +kernel
theorem u_70_127 {G : aG} {S : Nat → Bool} {f : Nat} {st : List Value} {ls : aL} {h : aH} {k n : Nat} (hs : S 127 = false) : WP 70 G S (f + 1) 127 ls st h k n = (oA (lget ls 0) (WP 70 G S f) 128 ls st h k n) := by rw [wp_s dd_70_127 rfl hs]; rfl
theorem dd_70_128 : decode (mB 70) 128 = .ok (.aload_n 3, 1) := by decide +kernel
theorem u_70_128 {G : aG} {S : Nat → Bool} {f : Nat} {st : List Value} {ls : aL} {h : aH} {k n : Nat} (hs : S 128 = false) : WP 70 G S (f + 1) 128 ls st h k n = (oA (lget ls 3) (WP 70 G S f) 129 ls st h k n) := by rw [wp_s dd_70_128 rfl hs]; rfl
theorem dd_70_129 : decode (mB 70) 129 = .ok (.putfield 15, 3) := by decide +kernel
theorem u_70_129 {G : aG} {S : Nat → Bool} {f : Nat} {st : List Value} {ls : aL} {h : aH} {k n : Nat} {a : Nat} {x : Nat} (hs : S 129 = false) : WP 70 G S (f + 1) 129 ls (.ref x :: .ref a :: st) h k n = (oH (fput h a 6 1 (.ref x)) (WP 70 G S f) 132 ls st k n) := by rw [wp_s dd_70_129 rfl hs]; rfl
theorem dd_70_132 : decode (mB 70) 132 = .ok (.return_, 1) := by decide +kernel
theorem u_70_132 {G : aG} {S : Nat → Bool} {f : Nat} {ls : aL} {h : aH} {k n : Nat} (hs : S 132 = false) : WP 70 G S (f + 1) 132 ls [] h k n = (RET G none h k n) := by rw [wp_s dd_70_132 rfl hs]; rfl
theorem dd_71_0 : decode (mB 71) 0 = .ok (.iload_n 2, 1) := by decide +kernel
theorem u_71_0 {G : aG} {S : Nat → Bool} {f : Nat} {st : List Value} {ls : aL} {h : aH} {k n : Nat} (hs : S 0 = false) : WP 71 G S (f + 1) 0 ls st h k n = (oI (lget ls 2) (WP 71 G S f) 1 ls st h k n) := by rw [wp_s dd_71_0 rfl hs]; rfl
theorem dd_71_1 : decode (mB 71) 1 = .ok (.ifCond .lt 21, 3) := by decide +kernel
theorem u_71_1 {G : aG} {S : Nat → Bool} {f : Nat} {st : List Value} {ls : aL} {h : aH} {k n : Nat} {x : Int32} (hs : S 1 = false) : WP 71 G S (f + 1) 1 ls (.int x :: st) h k n = (if x < nI 0 then WP 71 G S f 22 ls st h k n else WP 71 G S f 4 ls st h k n) := by rw [wp_s dd_71_1 rfl hs]; exact br_ite (c := x < nI 0)
theorem dd_71_4 : decode (mB 71) 4 = .ok (.iload_n 2, 1) := by decide +kernel
theorem u_71_4 {G : aG} {S : Nat → Bool} {f : Nat} {st : List Value} {ls : aL} {h : aH} {k n : Nat} (hs : S 4 = false) : WP 71 G S (f + 1) 4 ls st h k n = (oI (lget ls 2) (WP 71 G S f) 5 ls st h k n) := by rw [wp_s dd_71_4 rfl hs]; rfl
theorem dd_71_5 : decode (mB 71) 5 = .ok (.bipush 8, 2) := by decide +kernel
theorem u_71_5 {G : aG} {S : Nat → Bool} {f : Nat} {st : List Value} {ls : aL} {h : aH} {k n : Nat} (hs : S 5 = false) : WP 71 G S (f + 1) 5 ls st h k n = (WP 71 G S f 7 ls (.int (nI 8) :: st) h k n) := by rw [wp_s dd_71_5 rfl hs]; rfl
theorem dd_71_7 : decode (mB 71) 7 = .ok (.if_icmp .ge 15, 3) := by decide +kernel
theorem u_71_7 {G : aG} {S : Nat → Bool} {f : Nat} {st : List Value} {ls : aL} {h : aH} {k n : Nat} {x y : Int32} (hs : S 7 = false) : WP 71 G S (f + 1) 7 ls (.int y :: .int x :: st) h k n = (if y ≤ x then WP 71 G S f 22 ls st h k n else WP 71 G S f 10 ls st h k n) := by rw [wp_s dd_71_7 rfl hs]; exact br_ite (c := y ≤ x)
theorem dd_71_10 : decode (mB 71) 10 = .ok (.aload_n 0, 1) := by decide +kernel
theorem u_71_10 {G : aG} {S : Nat → Bool} {f : Nat} {st : List Value} {ls : aL} {h : aH} {k n : Nat} (hs : S 10 = false) : WP 71 G S (f + 1) 10 ls st h k n = (oA (lget ls 0) (WP 71 G S f) 11 ls st h k n) := by rw [wp_s dd_71_10 rfl hs]; rfl
theorem dd_71_11 : decode (mB 71) 11 = .ok (.iload_n 1, 1) := by decide +kernel
theorem u_71_11 {G : aG} {S : Nat → Bool} {f : Nat} {st : List Value} {ls : aL} {h : aH} {k n : Nat} (hs : S 11 = false) : WP 71 G S (f + 1) 11 ls st h k n = (oI (lget ls 1) (WP 71 G S f) 12 ls st h k n) := by rw [wp_s dd_71_11 rfl hs]; rfl
theorem dd_71_12 : decode (mB 71) 12 = .ok (.invokevirtual 103, 3) := by decide +kernel
theorem u_71_12 {G : aG} {S : Nat → Bool} {f : Nat} {st : List Value} {ls : aL} {h : aH} {k n : Nat} {v1 : Value} {b : Nat} (hs : S 12 = false) : WP 71 G S (f + 1) 12 ls (v1 :: .ref b :: st) h k n = (rcv (hget h b) 2 ∧ CAL G (WP 71 G S f) 62 [.ref b, v1] 15 ls st h k n) := by rw [wp_s dd_71_12 rfl hs]; rfl
theorem dd_71_15 : decode (mB 71) 15 = .ok (.iconst 1, 1) := by decide +kernel
theorem u_71_15 {G : aG} {S : Nat → Bool} {f : Nat} {st : List Value} {ls : aL} {h : aH} {k n : Nat} (hs : S 15 = false) : WP 71 G S (f + 1) 15 ls st h k n = (WP 71 G S f 16 ls (.int (nI 1) :: st) h k n) := by rw [wp_s dd_71_15 rfl hs]; rfl
theorem dd_71_16 : decode (mB 71) 16 = .ok (.iload_n 2, 1) := by decide +kernel
theorem u_71_16 {G : aG} {S : Nat → Bool} {f : Nat} {st : List Value} {ls : aL} {h : aH} {k n : Nat} (hs : S 16 = false) : WP 71 G S (f + 1) 16 ls st h k n = (oI (lget ls 2) (WP 71 G S f) 17 ls st h k n) := by rw [wp_s dd_71_16 rfl hs]; rfl
theorem dd_71_17 : decode (mB 71) 17 = .ok (.ishl, 1) := by decide +kernel
theorem u_71_17 {G : aG} {S : Nat → Bool} {f : Nat} {st : List Value} {ls : aL} {h : aH} {k n : Nat} {x y : Int32} (hs : S 17 = false) : WP 71 G S (f + 1) 17 ls (.int y :: .int x :: st) h k n = (WP 71 G S f 18 ls (.int (x <<< (y &&& 31)) :: st) h k n) := by rw [wp_s dd_71_17 rfl hs]; rfl
theorem dd_71_18 : decode (mB 71) 18 = .ok (.iand, 1) := by decide +kernel
theorem u_71_18 {G : aG} {S : Nat → Bool} {f : Nat} {st : List Value} {ls : aL} {h : aH} {k n : Nat} {x y : Int32} (hs : S 18 = false) : WP 71 G S (f + 1) 18 ls (.int y :: .int x :: st) h k n = (WP 71 G S f 19 ls (.int (x &&& y) :: st) h k n) := by rw [wp_s dd_71_18 rfl hs]; rfl
theorem dd_71_19 : decode (mB 71) 19 = .ok (.ifCond .ne 5, 3) := by decide +kernel
theorem u_71_19 {G : aG} {S : Nat → Bool} {f : Nat} {st : List Value} {ls : aL} {h : aH} {k n : Nat} {x : Int32} (hs : S 19 = false) : WP 71 G S (f + 1) 19 ls (.int x :: st) h k n = (if x = nI 0 then WP 71 G S f 22 ls st h k n else WP 71 G S f 24 ls st h k n) := by rw [wp_s dd_71_19 rfl hs]; exact br_iten (c := x = nI 0)
theorem dd_71_22 : decode (mB 71) 22 = .ok (.iconst (-1), 1) := by decide +kernel
theorem u_71_22 {G : aG} {S : Nat → Bool} {f : Nat} {st : List Value} {ls : aL} {h : aH} {k n : Nat} (hs : S 22 = false) : WP 71 G S (f + 1) 22 ls st h k n = (WP 71 G S f 23 ls (.int (-1) :: st) h k n) := by rw [wp_s dd_71_22 rfl hs]; rfl
theorem dd_71_23 : decode (mB 71) 23 = .ok (.ireturn, 1) := by decide +kernel
theorem u_71_23 {G : aG} {S : Nat → Bool} {f : Nat} {ls : aL} {h : aH} {k n : Nat} {x : Int32} (hs : S 23 = false) : WP 71 G S (f + 1) 23 ls [.int x] h k n = (RET G (some (.int x)) h k n) := by rw [wp_s dd_71_23 rfl hs]; rfl
theorem dd_71_24 : decode (mB 71) 24 = .ok (.aload_n 0, 1) := by decide +kernel
theorem u_71_24 {G : aG} {S : Nat → Bool} {f : Nat} {st : List Value} {ls : aL} {h : aH} {k n : Nat} (hs : S 24 = false) : WP 71 G S (f + 1) 24 ls st h k n = (oA (lget ls 0) (WP 71 G S f) 25 ls st h k n) := by rw [wp_s dd_71_24 rfl hs]; rfl
theorem dd_71_25 : decode (mB 71) 25 = .ok (.getfield 22, 3) := by decide +kernel
theorem u_71_25 {G : aG} {S : Nat → Bool} {f : Nat} {st : List Value} {ls : aL} {h : aH} {k n : Nat} {a : Nat} (hs : S 25 = false) : WP 71 G S (f + 1) 25 ls (.ref a :: st) h k n = (oV (fget h a 2 5) (WP 71 G S f) 28 ls st h k n) := by rw [wp_s dd_71_25 rfl hs]; rfl
theorem dd_71_28 : decode (mB 71) 28 = .ok (.iload_n 1, 1) := by decide +kernel
theorem u_71_28 {G : aG} {S : Nat → Bool} {f : Nat} {st : List Value} {ls : aL} {h : aH} {k n : Nat} (hs : S 28 = false) : WP 71 G S (f + 1) 28 ls st h k n = (oI (lget ls 1) (WP 71 G S f) 29 ls st h k n) := by rw [wp_s dd_71_28 rfl hs]; rfl
theorem dd_71_29 : decode (mB 71) 29 = .ok (.bipush 8, 2) := by decide +kernel
theorem u_71_29 {G : aG} {S : Nat → Bool} {f : Nat} {st : List Value} {ls : aL} {h : aH} {k n : Nat} (hs : S 29 = false) : WP 71 G S (f + 1) 29 ls st h k n = (WP 71 G S f 31 ls (.int (nI 8) :: st) h k n) := by rw [wp_s dd_71_29 rfl hs]; rfl
theorem dd_71_31 : decode (mB 71) 31 = .ok (.imul, 1) := by decide +kernel
theorem u_71_31 {G : aG} {S : Nat → Bool} {f : Nat} {st : List Value} {ls : aL} {h : aH} {k n : Nat} {x y : Int32} (hs : S 31 = false) : WP 71 G S (f + 1) 31 ls (.int y :: .int x :: st) h k n = (WP 71 G S f 32 ls (.int (x * y) :: st) h k n) := by rw [wp_s dd_71_31 rfl hs]; rfl
theorem dd_71_32 : decode (mB 71) 32 = .ok (.iload_n 2, 1) := by decide +kernel
theorem u_71_32 {G : aG} {S : Nat → Bool} {f : Nat} {st : List Value} {ls : aL} {h : aH} {k n : Nat} (hs : S 32 = false) : WP 71 G S (f + 1) 32 ls st h k n = (oI (lget ls 2) (WP 71 G S f) 33 ls st h k n) := by rw [wp_s dd_71_32 rfl hs]; rfl
theorem dd_71_33 : decode (mB 71) 33 = .ok (.iadd, 1) := by decide +kernel
theorem u_71_33 {G : aG} {S : Nat → Bool} {f : Nat} {st : List Value} {ls : aL} {h : aH} {k n : Nat} {x y : Int32} (hs : S 33 = false) : WP 71 G S (f + 1) 33 ls (.int y :: .int x :: st) h k n = (WP 71 G S f 34 ls (.int (x + y) :: st) h k n) := by rw [wp_s dd_71_33 rfl hs]; rfl
theorem dd_71_34 : decode (mB 71) 34 = .ok (.iaload, 1) := by decide +kernel
theorem u_71_34 {G : aG} {S : Nat → Bool} {f : Nat} {st : List Value} {ls : aL} {h : aH} {k n : Nat} {i : Int32} {a : Nat} (hs : S 34 = false) : WP 71 G S (f + 1) 34 ls (.int i :: .ref a :: st) h k n = (oIld (iget h a 1) i (WP 71 G S f) 35 ls st h k n) := by rw [wp_s dd_71_34 rfl hs]; rfl
theorem dd_71_35 : decode (mB 71) 35 = .ok (.istore_n 3, 1) := by decide +kernel
theorem u_71_35 {G : aG} {S : Nat → Bool} {f : Nat} {st : List Value} {ls : aL} {h : aH} {k n : Nat} {x : Int32} (hs : S 35 = false) : WP 71 G S (f + 1) 35 ls (.int x :: st) h k n = (WP 71 G S f 36 (lput1 ls 3 (.int x)) st h k n) := by rw [wp_s dd_71_35 rfl hs]; rfl
theorem dd_71_36 : decode (mB 71) 36 = .ok (.iload_n 3, 1) := by decide +kernel
theorem u_71_36 {G : aG} {S : Nat → Bool} {f : Nat} {st : List Value} {ls : aL} {h : aH} {k n : Nat} (hs : S 36 = false) : WP 71 G S (f + 1) 36 ls st h k n = (oI (lget ls 3) (WP 71 G S f) 37 ls st h k n) := by rw [wp_s dd_71_36 rfl hs]; rfl
theorem dd_71_37 : decode (mB 71) 37 = .ok (.bipush (-2), 2) := by decide +kernel
theorem u_71_37 {G : aG} {S : Nat → Bool} {f : Nat} {st : List Value} {ls : aL} {h : aH} {k n : Nat} (hs : S 37 = false) : WP 71 G S (f + 1) 37 ls st h k n = (WP 71 G S f 39 ls (.int (-2) :: st) h k n) := by rw [wp_s dd_71_37 rfl hs]; rfl
theorem dd_71_39 : decode (mB 71) 39 = .ok (.if_icmp .ne 26, 3) := by decide +kernel
theorem u_71_39 {G : aG} {S : Nat → Bool} {f : Nat} {st : List Value} {ls : aL} {h : aH} {k n : Nat} {x y : Int32} (hs : S 39 = false) : WP 71 G S (f + 1) 39 ls (.int y :: .int x :: st) h k n = (if x = y then WP 71 G S f 42 ls st h k n else WP 71 G S f 65 ls st h k n) := by rw [wp_s dd_71_39 rfl hs]; exact br_iten (c := x = y)
theorem dd_71_42 : decode (mB 71) 42 = .ok (.aload_n 0, 1) := by decide +kernel
theorem u_71_42 {G : aG} {S : Nat → Bool} {f : Nat} {st : List Value} {ls : aL} {h : aH} {k n : Nat} (hs : S 42 = false) : WP 71 G S (f + 1) 42 ls st h k n = (oA (lget ls 0) (WP 71 G S f) 43 ls st h k n) := by rw [wp_s dd_71_42 rfl hs]; rfl
theorem dd_71_43 : decode (mB 71) 43 = .ok (.iload_n 1, 1) := by decide +kernel
theorem u_71_43 {G : aG} {S : Nat → Bool} {f : Nat} {st : List Value} {ls : aL} {h : aH} {k n : Nat} (hs : S 43 = false) : WP 71 G S (f + 1) 43 ls st h k n = (oI (lget ls 1) (WP 71 G S f) 44 ls st h k n) := by rw [wp_s dd_71_43 rfl hs]; rfl
theorem dd_71_44 : decode (mB 71) 44 = .ok (.iload_n 2, 1) := by decide +kernel
theorem u_71_44 {G : aG} {S : Nat → Bool} {f : Nat} {st : List Value} {ls : aL} {h : aH} {k n : Nat} (hs : S 44 = false) : WP 71 G S (f + 1) 44 ls st h k n = (oI (lget ls 2) (WP 71 G S f) 45 ls st h k n) := by rw [wp_s dd_71_44 rfl hs]; rfl
theorem dd_71_45 : decode (mB 71) 45 = .ok (.invokevirtual 106, 3) := by decide +kernel
theorem u_71_45 {G : aG} {S : Nat → Bool} {f : Nat} {st : List Value} {ls : aL} {h : aH} {k n : Nat} {v1 v2 : Value} {b : Nat} (hs : S 45 = false) : WP 71 G S (f + 1) 45 ls (v2 :: v1 :: .ref b :: st) h k n = (rcv (hget h b) 2 ∧ CAL G (WP 71 G S f) 72 [.ref b, v1, v2] 48 ls st h k n) := by rw [wp_s dd_71_45 rfl hs]; rfl
theorem dd_71_48 : decode (mB 71) 48 = .ok (.aload_n 0, 1) := by decide +kernel
theorem u_71_48 {G : aG} {S : Nat → Bool} {f : Nat} {st : List Value} {ls : aL} {h : aH} {k n : Nat} (hs : S 48 = false) : WP 71 G S (f + 1) 48 ls st h k n = (oA (lget ls 0) (WP 71 G S f) 49 ls st h k n) := by rw [wp_s dd_71_48 rfl hs]; rfl
theorem dd_71_49 : decode (mB 71) 49 = .ok (.invokevirtual 90, 3) := by decide +kernel
theorem u_71_49 {G : aG} {S : Nat → Bool} {f : Nat} {st : List Value} {ls : aL} {h : aH} {k n : Nat} {b : Nat} (hs : S 49 = false) : WP 71 G S (f + 1) 49 ls (.ref b :: st) h k n = (rcv (hget h b) 2 ∧ CAL G (WP 71 G S f) 27 [.ref b] 52 ls st h k n) := by rw [wp_s dd_71_49 rfl hs]; rfl
theorem dd_71_52 : decode (mB 71) 52 = .ok (.istore_n 3, 1) := by decide +kernel
theorem u_71_52 {G : aG} {S : Nat → Bool} {f : Nat} {st : List Value} {ls : aL} {h : aH} {k n : Nat} {x : Int32} (hs : S 52 = false) : WP 71 G S (f + 1) 52 ls (.int x :: st) h k n = (WP 71 G S f 53 (lput1 ls 3 (.int x)) st h k n) := by rw [wp_s dd_71_52 rfl hs]; rfl
theorem dd_71_53 : decode (mB 71) 53 = .ok (.aload_n 0, 1) := by decide +kernel
theorem u_71_53 {G : aG} {S : Nat → Bool} {f : Nat} {st : List Value} {ls : aL} {h : aH} {k n : Nat} (hs : S 53 = false) : WP 71 G S (f + 1) 53 ls st h k n = (oA (lget ls 0) (WP 71 G S f) 54 ls st h k n) := by rw [wp_s dd_71_53 rfl hs]; rfl
theorem dd_71_54 : decode (mB 71) 54 = .ok (.getfield 22, 3) := by decide +kernel
theorem u_71_54 {G : aG} {S : Nat → Bool} {f : Nat} {st : List Value} {ls : aL} {h : aH} {k n : Nat} {a : Nat} (hs : S 54 = false) : WP 71 G S (f + 1) 54 ls (.ref a :: st) h k n = (oV (fget h a 2 5) (WP 71 G S f) 57 ls st h k n) := by rw [wp_s dd_71_54 rfl hs]; rfl
theorem dd_71_57 : decode (mB 71) 57 = .ok (.iload_n 1, 1) := by decide +kernel
theorem u_71_57 {G : aG} {S : Nat → Bool} {f : Nat} {st : List Value} {ls : aL} {h : aH} {k n : Nat} (hs : S 57 = false) : WP 71 G S (f + 1) 57 ls st h k n = (oI (lget ls 1) (WP 71 G S f) 58 ls st h k n) := by rw [wp_s dd_71_57 rfl hs]; rfl
theorem dd_71_58 : decode (mB 71) 58 = .ok (.bipush 8, 2) := by decide +kernel
theorem u_71_58 {G : aG} {S : Nat → Bool} {f : Nat} {st : List Value} {ls : aL} {h : aH} {k n : Nat} (hs : S 58 = false) : WP 71 G S (f + 1) 58 ls st h k n = (WP 71 G S f 60 ls (.int (nI 8) :: st) h k n) := by rw [wp_s dd_71_58 rfl hs]; rfl
theorem dd_71_60 : decode (mB 71) 60 = .ok (.imul, 1) := by decide +kernel
theorem u_71_60 {G : aG} {S : Nat → Bool} {f : Nat} {st : List Value} {ls : aL} {h : aH} {k n : Nat} {x y : Int32} (hs : S 60 = false) : WP 71 G S (f + 1) 60 ls (.int y :: .int x :: st) h k n = (WP 71 G S f 61 ls (.int (x * y) :: st) h k n) := by rw [wp_s dd_71_60 rfl hs]; rfl
theorem dd_71_61 : decode (mB 71) 61 = .ok (.iload_n 2, 1) := by decide +kernel
theorem u_71_61 {G : aG} {S : Nat → Bool} {f : Nat} {st : List Value} {ls : aL} {h : aH} {k n : Nat} (hs : S 61 = false) : WP 71 G S (f + 1) 61 ls st h k n = (oI (lget ls 2) (WP 71 G S f) 62 ls st h k n) := by rw [wp_s dd_71_61 rfl hs]; rfl
theorem dd_71_62 : decode (mB 71) 62 = .ok (.iadd, 1) := by decide +kernel
theorem u_71_62 {G : aG} {S : Nat → Bool} {f : Nat} {st : List Value} {ls : aL} {h : aH} {k n : Nat} {x y : Int32} (hs : S 62 = false) : WP 71 G S (f + 1) 62 ls (.int y :: .int x :: st) h k n = (WP 71 G S f 63 ls (.int (x + y) :: st) h k n) := by rw [wp_s dd_71_62 rfl hs]; rfl
theorem dd_71_63 : decode (mB 71) 63 = .ok (.iload_n 3, 1) := by decide +kernel
theorem u_71_63 {G : aG} {S : Nat → Bool} {f : Nat} {st : List Value} {ls : aL} {h : aH} {k n : Nat} (hs : S 63 = false) : WP 71 G S (f + 1) 63 ls st h k n = (oI (lget ls 3) (WP 71 G S f) 64 ls st h k n) := by rw [wp_s dd_71_63 rfl hs]; rfl
theorem dd_71_64 : decode (mB 71) 64 = .ok (.iastore, 1) := by decide +kernel
theorem u_71_64 {G : aG} {S : Nat → Bool} {f : Nat} {st : List Value} {ls : aL} {h : aH} {k n : Nat} {i x : Int32} {a : Nat} (hs : S 64 = false) : WP 71 G S (f + 1) 64 ls (.int x :: .int i :: .ref a :: st) h k n = (oIst (iget h a 1) a i x (WP 71 G S f) 65 ls st h k n) := by rw [wp_s dd_71_64 rfl hs]; rfl
theorem dd_71_65 : decode (mB 71) 65 = .ok (.iload_n 3, 1) := by decide +kernel
theorem u_71_65 {G : aG} {S : Nat → Bool} {f : Nat} {st : List Value} {ls : aL} {h : aH} {k n : Nat} (hs : S 65 = false) : WP 71 G S (f + 1) 65 ls st h k n = (oI (lget ls 3) (WP 71 G S f) 66 ls st h k n) := by rw [wp_s dd_71_65 rfl hs]; rfl
theorem dd_71_66 : decode (mB 71) 66 = .ok (.ireturn, 1) := by decide +kernel
theorem u_71_66 {G : aG} {S : Nat → Bool} {f : Nat} {ls : aL} {h : aH} {k n : Nat} {x : Int32} (hs : S 66 = false) : WP 71 G S (f + 1) 66 ls [.int x] h k n = (RET G (some (.int x)) h k n) := by rw [wp_s dd_71_66 rfl hs]; rfl
theorem dd_72_0 : decode (mB 72) 0 = .ok (.aload_n 0, 1) := by decide +kernel
theorem u_72_0 {G : aG} {S : Nat → Bool} {f : Nat} {st : List Value} {ls : aL} {h : aH} {k n : Nat} (hs : S 0 = false) : WP 72 G S (f + 1) 0 ls st h k n = (oA (lget ls 0) (WP 72 G S f) 1 ls st h k n) := by rw [wp_s dd_72_0 rfl hs]; rfl
theorem dd_72_1 : decode (mB 72) 1 = .ok (.getfield 35, 3) := by decide +kernel
theorem u_72_1 {G : aG} {S : Nat → Bool} {f : Nat} {st : List Value} {ls : aL} {h : aH} {k n : Nat} {a : Nat} (hs : S 1 = false) : WP 72 G S (f + 1) 1 ls (.ref a :: st) h k n = (oV (fget h a 2 9) (WP 72 G S f) 4 ls st h k n) := by rw [wp_s dd_72_1 rfl hs]; rfl
theorem dd_72_4 : decode (mB 72) 4 = .ok (.lconst 0, 1) := by decide +kernel
theorem u_72_4 {G : aG} {S : Nat → Bool} {f : Nat} {st : List Value} {ls : aL} {h : aH} {k n : Nat} (hs : S 4 = false) : WP 72 G S (f + 1) 4 ls st h k n = (WP 72 G S f 5 ls (.long (lN 0) :: st) h k n) := by rw [wp_s dd_72_4 rfl hs]; rfl
theorem dd_72_5 : decode (mB 72) 5 = .ok (.invokestatic 83, 3) := by decide +kernel
theorem u_72_5 {G : aG} {S : Nat → Bool} {f : Nat} {st : List Value} {ls : aL} {h : aH} {k n : Nat} {v1 v2 : Value} (hs : S 5 = false) : WP 72 G S (f + 1) 5 ls (v2 :: v1 :: st) h k n = (CAL G (WP 72 G S f) 3 [v1, v2] 8 ls st h k n) := by rw [wp_s dd_72_5 rfl hs]; rfl
theorem dd_72_8 : decode (mB 72) 8 = .ok (.aload_n 0, 1) := by decide +kernel
theorem u_72_8 {G : aG} {S : Nat → Bool} {f : Nat} {st : List Value} {ls : aL} {h : aH} {k n : Nat} (hs : S 8 = false) : WP 72 G S (f + 1) 8 ls st h k n = (oA (lget ls 0) (WP 72 G S f) 9 ls st h k n) := by rw [wp_s dd_72_8 rfl hs]; rfl
theorem dd_72_9 : decode (mB 72) 9 = .ok (.iconst 0, 1) := by decide +kernel
theorem u_72_9 {G : aG} {S : Nat → Bool} {f : Nat} {st : List Value} {ls : aL} {h : aH} {k n : Nat} (hs : S 9 = false) : WP 72 G S (f + 1) 9 ls st h k n = (WP 72 G S f 10 ls (.int (nI 0) :: st) h k n) := by rw [wp_s dd_72_9 rfl hs]; rfl
theorem dd_72_10 : decode (mB 72) 10 = .ok (.putfield 87, 3) := by decide +kernel
theorem u_72_10 {G : aG} {S : Nat → Bool} {f : Nat} {st : List Value} {ls : aL} {h : aH} {k n : Nat} {a : Nat} {x : Int32} (hs : S 10 = false) : WP 72 G S (f + 1) 10 ls (.int x :: .ref a :: st) h k n = (oH (fput h a 2 10 (.int x)) (WP 72 G S f) 13 ls st k n) := by rw [wp_s dd_72_10 rfl hs]; rfl
theorem dd_72_13 : decode (mB 72) 13 = .ok (.iconst 0, 1) := by decide +kernel
theorem u_72_13 {G : aG} {S : Nat → Bool} {f : Nat} {st : List Value} {ls : aL} {h : aH} {k n : Nat} (hs : S 13 = false) : WP 72 G S (f + 1) 13 ls st h k n = (WP 72 G S f 14 ls (.int (nI 0) :: st) h k n) := by rw [wp_s dd_72_13 rfl hs]; rfl
theorem dd_72_14 : decode (mB 72) 14 = .ok (.istore_n 3, 1) := by decide +kernel
theorem u_72_14 {G : aG} {S : Nat → Bool} {f : Nat} {st : List Value} {ls : aL} {h : aH} {k n : Nat} {x : Int32} (hs : S 14 = false) : WP 72 G S (f + 1) 14 ls (.int x :: st) h k n = (WP 72 G S f 15 (lput1 ls 3 (.int x)) st h k n) := by rw [wp_s dd_72_14 rfl hs]; rfl
theorem dd_72_15 : decode (mB 72) 15 = .ok (.iload_n 3, 1) := by decide +kernel
theorem u_72_15 {G : aG} {S : Nat → Bool} {f : Nat} {st : List Value} {ls : aL} {h : aH} {k n : Nat} (hs : S 15 = false) : WP 72 G S (f + 1) 15 ls st h k n = (oI (lget ls 3) (WP 72 G S f) 16 ls st h k n) := by rw [wp_s dd_72_15 rfl hs]; rfl
theorem v_72_15 {G : aG} {S : Nat → Bool} {f : Nat} {st : List Value} {ls : aL} {h : aH} {k n : Nat} : WQ 72 G S f 15 ls st h k n = (oI (lget ls 3) (WP 72 G S f) 16 ls st h k n) := by rw [wq_s dd_72_15 rfl]; rfl
theorem dd_72_16 : decode (mB 72) 16 = .ok (.aload_n 0, 1) := by decide +kernel
theorem u_72_16 {G : aG} {S : Nat → Bool} {f : Nat} {st : List Value} {ls : aL} {h : aH} {k n : Nat} (hs : S 16 = false) : WP 72 G S (f + 1) 16 ls st h k n = (oA (lget ls 0) (WP 72 G S f) 17 ls st h k n) := by rw [wp_s dd_72_16 rfl hs]; rfl
theorem dd_72_17 : decode (mB 72) 17 = .ok (.getfield 68, 3) := by decide +kernel
theorem u_72_17 {G : aG} {S : Nat → Bool} {f : Nat} {st : List Value} {ls : aL} {h : aH} {k n : Nat} {a : Nat} (hs : S 17 = false) : WP 72 G S (f + 1) 17 ls (.ref a :: st) h k n = (oV (fget h a 2 2) (WP 72 G S f) 20 ls st h k n) := by rw [wp_s dd_72_17 rfl hs]; rfl
theorem dd_72_20 : decode (mB 72) 20 = .ok (.if_icmp .ge 92, 3) := by decide +kernel
theorem u_72_20 {G : aG} {S : Nat → Bool} {f : Nat} {st : List Value} {ls : aL} {h : aH} {k n : Nat} {x y : Int32} (hs : S 20 = false) : WP 72 G S (f + 1) 20 ls (.int y :: .int x :: st) h k n = (if y ≤ x then WP 72 G S f 112 ls st h k n else WP 72 G S f 23 ls st h k n) := by rw [wp_s dd_72_20 rfl hs]; exact br_ite (c := y ≤ x)
theorem dd_72_23 : decode (mB 72) 23 = .ok (.aload_n 0, 1) := by decide +kernel
theorem u_72_23 {G : aG} {S : Nat → Bool} {f : Nat} {st : List Value} {ls : aL} {h : aH} {k n : Nat} (hs : S 23 = false) : WP 72 G S (f + 1) 23 ls st h k n = (oA (lget ls 0) (WP 72 G S f) 24 ls st h k n) := by rw [wp_s dd_72_23 rfl hs]; rfl
theorem dd_72_24 : decode (mB 72) 24 = .ok (.getfield 18, 3) := by decide +kernel
theorem u_72_24 {G : aG} {S : Nat → Bool} {f : Nat} {st : List Value} {ls : aL} {h : aH} {k n : Nat} {a : Nat} (hs : S 24 = false) : WP 72 G S (f + 1) 24 ls (.ref a :: st) h k n = (oV (fget h a 2 4) (WP 72 G S f) 27 ls st h k n) := by rw [wp_s dd_72_24 rfl hs]; rfl
theorem dd_72_27 : decode (mB 72) 27 = .ok (.iload_n 1, 1) := by decide +kernel
theorem u_72_27 {G : aG} {S : Nat → Bool} {f : Nat} {st : List Value} {ls : aL} {h : aH} {k n : Nat} (hs : S 27 = false) : WP 72 G S (f + 1) 27 ls st h k n = (oI (lget ls 1) (WP 72 G S f) 28 ls st h k n) := by rw [wp_s dd_72_27 rfl hs]; rfl
theorem dd_72_28 : decode (mB 72) 28 = .ok (.aload_n 0, 1) := by decide +kernel
theorem u_72_28 {G : aG} {S : Nat → Bool} {f : Nat} {st : List Value} {ls : aL} {h : aH} {k n : Nat} (hs : S 28 = false) : WP 72 G S (f + 1) 28 ls st h k n = (oA (lget ls 0) (WP 72 G S f) 29 ls st h k n) := by rw [wp_s dd_72_28 rfl hs]; rfl
theorem dd_72_29 : decode (mB 72) 29 = .ok (.getfield 68, 3) := by decide +kernel
theorem u_72_29 {G : aG} {S : Nat → Bool} {f : Nat} {st : List Value} {ls : aL} {h : aH} {k n : Nat} {a : Nat} (hs : S 29 = false) : WP 72 G S (f + 1) 29 ls (.ref a :: st) h k n = (oV (fget h a 2 2) (WP 72 G S f) 32 ls st h k n) := by rw [wp_s dd_72_29 rfl hs]; rfl
theorem dd_72_32 : decode (mB 72) 32 = .ok (.imul, 1) := by decide +kernel
theorem u_72_32 {G : aG} {S : Nat → Bool} {f : Nat} {st : List Value} {ls : aL} {h : aH} {k n : Nat} {x y : Int32} (hs : S 32 = false) : WP 72 G S (f + 1) 32 ls (.int y :: .int x :: st) h k n = (WP 72 G S f 33 ls (.int (x * y) :: st) h k n) := by rw [wp_s dd_72_32 rfl hs]; rfl
theorem dd_72_33 : decode (mB 72) 33 = .ok (.iload_n 3, 1) := by decide +kernel
theorem u_72_33 {G : aG} {S : Nat → Bool} {f : Nat} {st : List Value} {ls : aL} {h : aH} {k n : Nat} (hs : S 33 = false) : WP 72 G S (f + 1) 33 ls st h k n = (oI (lget ls 3) (WP 72 G S f) 34 ls st h k n) := by rw [wp_s dd_72_33 rfl hs]; rfl
theorem dd_72_34 : decode (mB 72) 34 = .ok (.iadd, 1) := by decide +kernel
theorem u_72_34 {G : aG} {S : Nat → Bool} {f : Nat} {st : List Value} {ls : aL} {h : aH} {k n : Nat} {x y : Int32} (hs : S 34 = false) : WP 72 G S (f + 1) 34 ls (.int y :: .int x :: st) h k n = (WP 72 G S f 35 ls (.int (x + y) :: st) h k n) := by rw [wp_s dd_72_34 rfl hs]; rfl
theorem dd_72_35 : decode (mB 72) 35 = .ok (.laload, 1) := by decide +kernel
theorem u_72_35 {G : aG} {S : Nat → Bool} {f : Nat} {st : List Value} {ls : aL} {h : aH} {k n : Nat} {i : Int32} {a : Nat} (hs : S 35 = false) : WP 72 G S (f + 1) 35 ls (.int i :: .ref a :: st) h k n = (oJld (jget h a) i (WP 72 G S f) 36 ls st h k n) := by rw [wp_s dd_72_35 rfl hs]; rfl
theorem dd_72_36 : decode (mB 72) 36 = .ok (.lstore 4, 2) := by decide +kernel
theorem u_72_36 {G : aG} {S : Nat → Bool} {f : Nat} {st : List Value} {ls : aL} {h : aH} {k n : Nat} {x : Int64} (hs : S 36 = false) : WP 72 G S (f + 1) 36 ls (.long x :: st) h k n = (WP 72 G S f 38 (lput2 ls 4 (.long x)) st h k n) := by rw [wp_s dd_72_36 rfl hs]; rfl
theorem dd_72_38 : decode (mB 72) 38 = .ok (.lload 4, 2) := by decide +kernel
theorem u_72_38 {G : aG} {S : Nat → Bool} {f : Nat} {st : List Value} {ls : aL} {h : aH} {k n : Nat} (hs : S 38 = false) : WP 72 G S (f + 1) 38 ls st h k n = (oJ (lget ls 4) (WP 72 G S f) 40 ls st h k n) := by rw [wp_s dd_72_38 rfl hs]; rfl
theorem dd_72_40 : decode (mB 72) 40 = .ok (.invokestatic 110, 3) := by decide +kernel
theorem u_72_40 {G : aG} {S : Nat → Bool} {f : Nat} {st : List Value} {ls : aL} {h : aH} {k n : Nat} {v1 : Value} (hs : S 40 = false) : WP 72 G S (f + 1) 40 ls (v1 :: st) h k n = (CAL G (WP 72 G S f) 73 [v1] 43 ls st h k n) := by rw [wp_s dd_72_40 rfl hs]; rfl
theorem dd_72_43 : decode (mB 72) 43 = .ok (.istore 6, 2) := by decide +kernel
theorem u_72_43 {G : aG} {S : Nat → Bool} {f : Nat} {st : List Value} {ls : aL} {h : aH} {k n : Nat} {x : Int32} (hs : S 43 = false) : WP 72 G S (f + 1) 43 ls (.int x :: st) h k n = (WP 72 G S f 45 (lput1 ls 6 (.int x)) st h k n) := by rw [wp_s dd_72_43 rfl hs]; rfl
theorem dd_72_45 : decode (mB 72) 45 = .ok (.iload 6, 2) := by decide +kernel
theorem u_72_45 {G : aG} {S : Nat → Bool} {f : Nat} {st : List Value} {ls : aL} {h : aH} {k n : Nat} (hs : S 45 = false) : WP 72 G S (f + 1) 45 ls st h k n = (oI (lget ls 6) (WP 72 G S f) 47 ls st h k n) := by rw [wp_s dd_72_45 rfl hs]; rfl
theorem v_72_45 {G : aG} {S : Nat → Bool} {f : Nat} {st : List Value} {ls : aL} {h : aH} {k n : Nat} : WQ 72 G S f 45 ls st h k n = (oI (lget ls 6) (WP 72 G S f) 47 ls st h k n) := by rw [wq_s dd_72_45 rfl]; rfl
theorem dd_72_47 : decode (mB 72) 47 = .ok (.ifCond .le 59, 3) := by decide +kernel
theorem u_72_47 {G : aG} {S : Nat → Bool} {f : Nat} {st : List Value} {ls : aL} {h : aH} {k n : Nat} {x : Int32} (hs : S 47 = false) : WP 72 G S (f + 1) 47 ls (.int x :: st) h k n = (if x ≤ nI 0 then WP 72 G S f 106 ls st h k n else WP 72 G S f 50 ls st h k n) := by rw [wp_s dd_72_47 rfl hs]; exact br_ite (c := x ≤ nI 0)
theorem dd_72_50 : decode (mB 72) 50 = .ok (.lload 4, 2) := by decide +kernel
theorem u_72_50 {G : aG} {S : Nat → Bool} {f : Nat} {st : List Value} {ls : aL} {h : aH} {k n : Nat} (hs : S 50 = false) : WP 72 G S (f + 1) 50 ls st h k n = (oJ (lget ls 4) (WP 72 G S f) 52 ls st h k n) := by rw [wp_s dd_72_50 rfl hs]; rfl
theorem dd_72_52 : decode (mB 72) 52 = .ok (.lload 4, 2) := by decide +kernel
theorem u_72_52 {G : aG} {S : Nat → Bool} {f : Nat} {st : List Value} {ls : aL} {h : aH} {k n : Nat} (hs : S 52 = false) : WP 72 G S (f + 1) 52 ls st h k n = (oJ (lget ls 4) (WP 72 G S f) 54 ls st h k n) := by rw [wp_s dd_72_52 rfl hs]; rfl
theorem dd_72_54 : decode (mB 72) 54 = .ok (.lneg, 1) := by decide +kernel
theorem u_72_54 {G : aG} {S : Nat → Bool} {f : Nat} {st : List Value} {ls : aL} {h : aH} {k n : Nat} {x : Int64} (hs : S 54 = false) : WP 72 G S (f + 1) 54 ls (.long x :: st) h k n = (WP 72 G S f 55 ls (.long (-x) :: st) h k n) := by rw [wp_s dd_72_54 rfl hs]; rfl
theorem dd_72_55 : decode (mB 72) 55 = .ok (.land, 1) := by decide +kernel
theorem u_72_55 {G : aG} {S : Nat → Bool} {f : Nat} {st : List Value} {ls : aL} {h : aH} {k n : Nat} {x y : Int64} (hs : S 55 = false) : WP 72 G S (f + 1) 55 ls (.long y :: .long x :: st) h k n = (WP 72 G S f 56 ls (.long (x &&& y) :: st) h k n) := by rw [wp_s dd_72_55 rfl hs]; rfl
theorem dd_72_56 : decode (mB 72) 56 = .ok (.lconst 1, 1) := by decide +kernel
theorem u_72_56 {G : aG} {S : Nat → Bool} {f : Nat} {st : List Value} {ls : aL} {h : aH} {k n : Nat} (hs : S 56 = false) : WP 72 G S (f + 1) 56 ls st h k n = (WP 72 G S f 57 ls (.long (lN 1) :: st) h k n) := by rw [wp_s dd_72_56 rfl hs]; rfl
theorem dd_72_57 : decode (mB 72) 57 = .ok (.lsub, 1) := by decide +kernel
theorem u_72_57 {G : aG} {S : Nat → Bool} {f : Nat} {st : List Value} {ls : aL} {h : aH} {k n : Nat} {x y : Int64} (hs : S 57 = false) : WP 72 G S (f + 1) 57 ls (.long y :: .long x :: st) h k n = (WP 72 G S f 58 ls (.long (x - y) :: st) h k n) := by rw [wp_s dd_72_57 rfl hs]; rfl
theorem dd_72_58 : decode (mB 72) 58 = .ok (.invokestatic 110, 3) := by decide +kernel
theorem u_72_58 {G : aG} {S : Nat → Bool} {f : Nat} {st : List Value} {ls : aL} {h : aH} {k n : Nat} {v1 : Value} (hs : S 58 = false) : WP 72 G S (f + 1) 58 ls (v1 :: st) h k n = (CAL G (WP 72 G S f) 73 [v1] 61 ls st h k n) := by rw [wp_s dd_72_58 rfl hs]; rfl
theorem dd_72_61 : decode (mB 72) 61 = .ok (.istore 7, 2) := by decide +kernel
theorem u_72_61 {G : aG} {S : Nat → Bool} {f : Nat} {st : List Value} {ls : aL} {h : aH} {k n : Nat} {x : Int32} (hs : S 61 = false) : WP 72 G S (f + 1) 61 ls (.int x :: st) h k n = (WP 72 G S f 63 (lput1 ls 7 (.int x)) st h k n) := by rw [wp_s dd_72_61 rfl hs]; rfl
theorem dd_72_63 : decode (mB 72) 63 = .ok (.aload_n 0, 1) := by decide +kernel
theorem u_72_63 {G : aG} {S : Nat → Bool} {f : Nat} {st : List Value} {ls : aL} {h : aH} {k n : Nat} (hs : S 63 = false) : WP 72 G S (f + 1) 63 ls st h k n = (oA (lget ls 0) (WP 72 G S f) 64 ls st h k n) := by rw [wp_s dd_72_63 rfl hs]; rfl
theorem dd_72_64 : decode (mB 72) 64 = .ok (.dup, 1) := by decide +kernel
theorem u_72_64 {G : aG} {S : Nat → Bool} {f : Nat} {st : List Value} {ls : aL} {h : aH} {k n : Nat} {v : Value} (hs : S 64 = false) : WP 72 G S (f + 1) 64 ls (v :: st) h k n = (cond (cat1 v) (WP 72 G S f 65 ls (v :: v :: st) h k n) False) := by rw [wp_s dd_72_64 rfl hs]; rfl
theorem dd_72_65 : decode (mB 72) 65 = .ok (.getfield 87, 3) := by decide +kernel
theorem u_72_65 {G : aG} {S : Nat → Bool} {f : Nat} {st : List Value} {ls : aL} {h : aH} {k n : Nat} {a : Nat} (hs : S 65 = false) : WP 72 G S (f + 1) 65 ls (.ref a :: st) h k n = (oV (fget h a 2 10) (WP 72 G S f) 68 ls st h k n) := by rw [wp_s dd_72_65 rfl hs]; rfl
theorem dd_72_68 : decode (mB 72) 68 = .ok (.aload_n 0, 1) := by decide +kernel
theorem u_72_68 {G : aG} {S : Nat → Bool} {f : Nat} {st : List Value} {ls : aL} {h : aH} {k n : Nat} (hs : S 68 = false) : WP 72 G S (f + 1) 68 ls st h k n = (oA (lget ls 0) (WP 72 G S f) 69 ls st h k n) := by rw [wp_s dd_72_68 rfl hs]; rfl
theorem dd_72_69 : decode (mB 72) 69 = .ok (.getfield 12, 3) := by decide +kernel
theorem u_72_69 {G : aG} {S : Nat → Bool} {f : Nat} {st : List Value} {ls : aL} {h : aH} {k n : Nat} {a : Nat} (hs : S 69 = false) : WP 72 G S (f + 1) 69 ls (.ref a :: st) h k n = (oV (fget h a 2 0) (WP 72 G S f) 72 ls st h k n) := by rw [wp_s dd_72_69 rfl hs]; rfl
theorem dd_72_72 : decode (mB 72) 72 = .ok (.iload_n 3, 1) := by decide +kernel
theorem u_72_72 {G : aG} {S : Nat → Bool} {f : Nat} {st : List Value} {ls : aL} {h : aH} {k n : Nat} (hs : S 72 = false) : WP 72 G S (f + 1) 72 ls st h k n = (oI (lget ls 3) (WP 72 G S f) 73 ls st h k n) := by rw [wp_s dd_72_72 rfl hs]; rfl
theorem dd_72_73 : decode (mB 72) 73 = .ok (.bipush 64, 2) := by decide +kernel
theorem u_72_73 {G : aG} {S : Nat → Bool} {f : Nat} {st : List Value} {ls : aL} {h : aH} {k n : Nat} (hs : S 73 = false) : WP 72 G S (f + 1) 73 ls st h k n = (WP 72 G S f 75 ls (.int (nI 64) :: st) h k n) := by rw [wp_s dd_72_73 rfl hs]; rfl
theorem dd_72_75 : decode (mB 72) 75 = .ok (.imul, 1) := by decide +kernel
theorem u_72_75 {G : aG} {S : Nat → Bool} {f : Nat} {st : List Value} {ls : aL} {h : aH} {k n : Nat} {x y : Int32} (hs : S 75 = false) : WP 72 G S (f + 1) 75 ls (.int y :: .int x :: st) h k n = (WP 72 G S f 76 ls (.int (x * y) :: st) h k n) := by rw [wp_s dd_72_75 rfl hs]; rfl
theorem dd_72_76 : decode (mB 72) 76 = .ok (.iload 7, 2) := by decide +kernel
theorem u_72_76 {G : aG} {S : Nat → Bool} {f : Nat} {st : List Value} {ls : aL} {h : aH} {k n : Nat} (hs : S 76 = false) : WP 72 G S (f + 1) 76 ls st h k n = (oI (lget ls 7) (WP 72 G S f) 78 ls st h k n) := by rw [wp_s dd_72_76 rfl hs]; rfl
theorem dd_72_78 : decode (mB 72) 78 = .ok (.iadd, 1) := by decide +kernel
theorem u_72_78 {G : aG} {S : Nat → Bool} {f : Nat} {st : List Value} {ls : aL} {h : aH} {k n : Nat} {x y : Int32} (hs : S 78 = false) : WP 72 G S (f + 1) 78 ls (.int y :: .int x :: st) h k n = (WP 72 G S f 79 ls (.int (x + y) :: st) h k n) := by rw [wp_s dd_72_78 rfl hs]; rfl
theorem dd_72_79 : decode (mB 72) 79 = .ok (.iload_n 2, 1) := by decide +kernel
theorem u_72_79 {G : aG} {S : Nat → Bool} {f : Nat} {st : List Value} {ls : aL} {h : aH} {k n : Nat} (hs : S 79 = false) : WP 72 G S (f + 1) 79 ls st h k n = (oI (lget ls 2) (WP 72 G S f) 80 ls st h k n) := by rw [wp_s dd_72_79 rfl hs]; rfl
theorem dd_72_80 : decode (mB 72) 80 = .ok (.aload_n 0, 1) := by decide +kernel
theorem u_72_80 {G : aG} {S : Nat → Bool} {f : Nat} {st : List Value} {ls : aL} {h : aH} {k n : Nat} (hs : S 80 = false) : WP 72 G S (f + 1) 80 ls st h k n = (oA (lget ls 0) (WP 72 G S f) 81 ls st h k n) := by rw [wp_s dd_72_80 rfl hs]; rfl
theorem dd_72_81 : decode (mB 72) 81 = .ok (.getfield 35, 3) := by decide +kernel
theorem u_72_81 {G : aG} {S : Nat → Bool} {f : Nat} {st : List Value} {ls : aL} {h : aH} {k n : Nat} {a : Nat} (hs : S 81 = false) : WP 72 G S (f + 1) 81 ls (.ref a :: st) h k n = (oV (fget h a 2 9) (WP 72 G S f) 84 ls st h k n) := by rw [wp_s dd_72_81 rfl hs]; rfl
theorem dd_72_84 : decode (mB 72) 84 = .ok (.invokevirtual 115, 3) := by decide +kernel
theorem u_72_84 {G : aG} {S : Nat → Bool} {f : Nat} {st : List Value} {ls : aL} {h : aH} {k n : Nat} {v1 v2 v3 : Value} {b : Nat} (hs : S 84 = false) : WP 72 G S (f + 1) 84 ls (v3 :: v2 :: v1 :: .ref b :: st) h k n = (rcv (hget h b) 5 ∧ CAL G (WP 72 G S f) 74 [.ref b, v1, v2, v3] 87 ls st h k n) := by rw [wp_s dd_72_84 rfl hs]; rfl
theorem dd_72_87 : decode (mB 72) 87 = .ok (.ior, 1) := by decide +kernel
theorem u_72_87 {G : aG} {S : Nat → Bool} {f : Nat} {st : List Value} {ls : aL} {h : aH} {k n : Nat} {x y : Int32} (hs : S 87 = false) : WP 72 G S (f + 1) 87 ls (.int y :: .int x :: st) h k n = (WP 72 G S f 88 ls (.int (x ||| y) :: st) h k n) := by rw [wp_s dd_72_87 rfl hs]; rfl
theorem dd_72_88 : decode (mB 72) 88 = .ok (.putfield 87, 3) := by decide +kernel
theorem u_72_88 {G : aG} {S : Nat → Bool} {f : Nat} {st : List Value} {ls : aL} {h : aH} {k n : Nat} {a : Nat} {x : Int32} (hs : S 88 = false) : WP 72 G S (f + 1) 88 ls (.int x :: .ref a :: st) h k n = (oH (fput h a 2 10 (.int x)) (WP 72 G S f) 91 ls st k n) := by rw [wp_s dd_72_88 rfl hs]; rfl
theorem dd_72_91 : decode (mB 72) 91 = .ok (.lload 4, 2) := by decide +kernel
theorem u_72_91 {G : aG} {S : Nat → Bool} {f : Nat} {st : List Value} {ls : aL} {h : aH} {k n : Nat} (hs : S 91 = false) : WP 72 G S (f + 1) 91 ls st h k n = (oJ (lget ls 4) (WP 72 G S f) 93 ls st h k n) := by rw [wp_s dd_72_91 rfl hs]; rfl
theorem dd_72_93 : decode (mB 72) 93 = .ok (.lload 4, 2) := by decide +kernel
theorem u_72_93 {G : aG} {S : Nat → Bool} {f : Nat} {st : List Value} {ls : aL} {h : aH} {k n : Nat} (hs : S 93 = false) : WP 72 G S (f + 1) 93 ls st h k n = (oJ (lget ls 4) (WP 72 G S f) 95 ls st h k n) := by rw [wp_s dd_72_93 rfl hs]; rfl
theorem dd_72_95 : decode (mB 72) 95 = .ok (.lconst 1, 1) := by decide +kernel
theorem u_72_95 {G : aG} {S : Nat → Bool} {f : Nat} {st : List Value} {ls : aL} {h : aH} {k n : Nat} (hs : S 95 = false) : WP 72 G S (f + 1) 95 ls st h k n = (WP 72 G S f 96 ls (.long (lN 1) :: st) h k n) := by rw [wp_s dd_72_95 rfl hs]; rfl
theorem dd_72_96 : decode (mB 72) 96 = .ok (.lsub, 1) := by decide +kernel
theorem u_72_96 {G : aG} {S : Nat → Bool} {f : Nat} {st : List Value} {ls : aL} {h : aH} {k n : Nat} {x y : Int64} (hs : S 96 = false) : WP 72 G S (f + 1) 96 ls (.long y :: .long x :: st) h k n = (WP 72 G S f 97 ls (.long (x - y) :: st) h k n) := by rw [wp_s dd_72_96 rfl hs]; rfl
theorem dd_72_97 : decode (mB 72) 97 = .ok (.land, 1) := by decide +kernel
theorem u_72_97 {G : aG} {S : Nat → Bool} {f : Nat} {st : List Value} {ls : aL} {h : aH} {k n : Nat} {x y : Int64} (hs : S 97 = false) : WP 72 G S (f + 1) 97 ls (.long y :: .long x :: st) h k n = (WP 72 G S f 98 ls (.long (x &&& y) :: st) h k n) := by rw [wp_s dd_72_97 rfl hs]; rfl
theorem dd_72_98 : decode (mB 72) 98 = .ok (.lstore 4, 2) := by decide +kernel
theorem u_72_98 {G : aG} {S : Nat → Bool} {f : Nat} {st : List Value} {ls : aL} {h : aH} {k n : Nat} {x : Int64} (hs : S 98 = false) : WP 72 G S (f + 1) 98 ls (.long x :: st) h k n = (WP 72 G S f 100 (lput2 ls 4 (.long x)) st h k n) := by rw [wp_s dd_72_98 rfl hs]; rfl
theorem dd_72_100 : decode (mB 72) 100 = .ok (.iinc 6 (-1), 3) := by decide +kernel
theorem u_72_100 {G : aG} {S : Nat → Bool} {f : Nat} {st : List Value} {ls : aL} {h : aH} {k n : Nat} (hs : S 100 = false) : WP 72 G S (f + 1) 100 ls st h k n = (oInc (lget ls 6) (-1) (WP 72 G S f) 6 103 ls st h k n) := by rw [wp_s dd_72_100 rfl hs]; rfl
theorem dd_72_103 : decode (mB 72) 103 = .ok (.goto (-58), 3) := by decide +kernel
theorem u_72_103 {G : aG} {S : Nat → Bool} {f : Nat} {st : List Value} {ls : aL} {h : aH} {k n : Nat} (hs : S 103 = false) : WP 72 G S (f + 1) 103 ls st h k n = (WP 72 G S f 45 ls st h k n) := by rw [wp_s dd_72_103 rfl hs]; rfl
theorem dd_72_106 : decode (mB 72) 106 = .ok (.iinc 3 1, 3) := by decide +kernel
theorem u_72_106 {G : aG} {S : Nat → Bool} {f : Nat} {st : List Value} {ls : aL} {h : aH} {k n : Nat} (hs : S 106 = false) : WP 72 G S (f + 1) 106 ls st h k n = (oInc (lget ls 3) (nI 1) (WP 72 G S f) 3 109 ls st h k n) := by rw [wp_s dd_72_106 rfl hs]; rfl
theorem dd_72_109 : decode (mB 72) 109 = .ok (.goto (-94), 3) := by decide +kernel
theorem u_72_109 {G : aG} {S : Nat → Bool} {f : Nat} {st : List Value} {ls : aL} {h : aH} {k n : Nat} (hs : S 109 = false) : WP 72 G S (f + 1) 109 ls st h k n = (WP 72 G S f 15 ls st h k n) := by rw [wp_s dd_72_109 rfl hs]; rfl
theorem dd_72_112 : decode (mB 72) 112 = .ok (.return_, 1) := by decide +kernel
theorem u_72_112 {G : aG} {S : Nat → Bool} {f : Nat} {ls : aL} {h : aH} {k n : Nat} (hs : S 112 = false) : WP 72 G S (f + 1) 112 ls [] h k n = (RET G none h k n) := by rw [wp_s dd_72_112 rfl hs]; rfl
