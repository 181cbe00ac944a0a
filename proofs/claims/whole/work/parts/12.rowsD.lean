/-! rows of 5 Reader.init, 10 Book.init, 38 Reader.readOrders, 40 Reader.takes, 41 Reader.takesOwner, 43 Reader.takesUnit, 44 Reader.waitsFor, 45 Reader.countsNode, 46 Reader.places, 47 Reader.takesBehindUnit, 48 Reader.takesBetween, 49 Reader.placeWaiting, 50 Reader.takesClosing, 51 Reader.takesEnd, 76 Book.goThrough, 77 Book.begin, 78 Book.takeLetter, 79 Book.endBare, 80 Book.endAt, 81 Book.tellFlaw, 82 Book.takeOpening, 83 Book.takeClosing, 84 Book.endRow, 87 Book.share -/
theorem dd_5_0 : decode (mB 5) 0 = .ok (.aload_n 0, 1) := by decide +kernel
theorem u_5_0 {G : aG} {S : Nat → Bool} {f : Nat} {st : List Value} {ls : aL} {h : aH} {k n : Nat} (hs : S 0 = false) : WP 5 G S (f + 1) 0 ls st h k n = (oA (lget ls 0) (WP 5 G S f) 1 ls st h k n) := by rw [wp_s dd_5_0 rfl hs]; rfl
theorem dd_5_1 : decode (mB 5) 1 = .ok (.invokespecial 3, 3) := by decide +kernel
theorem u_5_1 {G : aG} {S : Nat → Bool} {f : Nat} {st : List Value} {ls : aL} {h : aH} {k n : Nat} {a : Nat} (hs : S 1 = false) : WP 5 G S (f + 1) 1 ls (.ref a :: st) h k n = ((st.map fun v => v.category).sum ≤ 8 ∧ 1 ≤ gD G ∧ WP 5 G S f 4 ls st h k n) := by rw [wp_s dd_5_1 rfl hs]; rfl
theorem dd_5_4 : decode (mB 5) 4 = .ok (.aload_n 0, 1) := by decide +kernel
theorem u_5_4 {G : aG} {S : Nat → Bool} {f : Nat} {st : List Value} {ls : aL} {h : aH} {k n : Nat} (hs : S 4 = false) : WP 5 G S (f + 1) 4 ls st h k n = (oA (lget ls 0) (WP 5 G S f) 5 ls st h k n) := by rw [wp_s dd_5_4 rfl hs]; rfl
theorem dd_5_5 : decode (mB 5) 5 = .ok (.bipush 9, 2) := by decide +kernel
theorem u_5_5 {G : aG} {S : Nat → Bool} {f : Nat} {st : List Value} {ls : aL} {h : aH} {k n : Nat} (hs : S 5 = false) : WP 5 G S (f + 1) 5 ls st h k n = (WP 5 G S f 7 ls (.int (nI 9) :: st) h k n) := by rw [wp_s dd_5_5 rfl hs]; rfl
theorem dd_5_7 : decode (mB 5) 7 = .ok (.newarray .long, 2) := by decide +kernel
theorem u_5_7 {G : aG} {S : Nat → Bool} {f : Nat} {st : List Value} {ls : aL} {h : aH} {k n : Nat} {x : Int32} (hs : S 7 = false) : WP 5 G S (f + 1) 7 ls (.int x :: st) h k n = (¬ x < 0 ∧ x.toNatClampNeg * 8 ≤ 536870912 ∧ oNew G (cJ x.toNatClampNeg) x.toNatClampNeg (WP 5 G S f) 9 ls st h k n) := by rw [wp_s dd_5_7 rfl hs]; rfl
theorem dd_5_9 : decode (mB 5) 9 = .ok (.putfield 9, 3) := by decide +kernel
theorem u_5_9 {G : aG} {S : Nat → Bool} {f : Nat} {st : List Value} {ls : aL} {h : aH} {k n : Nat} {a : Nat} {x : Nat} (hs : S 9 = false) : WP 5 G S (f + 1) 9 ls (.ref x :: .ref a :: st) h k n = (oH (fput h a 1 0 (.ref x)) (WP 5 G S f) 12 ls st k n) := by rw [wp_s dd_5_9 rfl hs]; rfl
theorem dd_5_12 : decode (mB 5) 12 = .ok (.aload_n 0, 1) := by decide +kernel
theorem u_5_12 {G : aG} {S : Nat → Bool} {f : Nat} {st : List Value} {ls : aL} {h : aH} {k n : Nat} (hs : S 12 = false) : WP 5 G S (f + 1) 12 ls st h k n = (oA (lget ls 0) (WP 5 G S f) 13 ls st h k n) := by rw [wp_s dd_5_12 rfl hs]; rfl
theorem dd_5_13 : decode (mB 5) 13 = .ok (.bipush 24, 2) := by decide +kernel
theorem u_5_13 {G : aG} {S : Nat → Bool} {f : Nat} {st : List Value} {ls : aL} {h : aH} {k n : Nat} (hs : S 13 = false) : WP 5 G S (f + 1) 13 ls st h k n = (WP 5 G S f 15 ls (.int (nI 24) :: st) h k n) := by rw [wp_s dd_5_13 rfl hs]; rfl
theorem dd_5_15 : decode (mB 5) 15 = .ok (.newarray .int, 2) := by decide +kernel
theorem u_5_15 {G : aG} {S : Nat → Bool} {f : Nat} {st : List Value} {ls : aL} {h : aH} {k n : Nat} {x : Int32} (hs : S 15 = false) : WP 5 G S (f + 1) 15 ls (.int x :: st) h k n = (¬ x < 0 ∧ x.toNatClampNeg * 4 ≤ 536870912 ∧ oNew G (cI x.toNatClampNeg) x.toNatClampNeg (WP 5 G S f) 17 ls st h k n) := by rw [wp_s dd_5_15 rfl hs]; rfl
theorem dd_5_17 : decode (mB 5) 17 = .ok (.putfield 15, 3) := by decide +kernel
theorem u_5_17 {G : aG} {S : Nat → Bool} {f : Nat} {st : List Value} {ls : aL} {h : aH} {k n : Nat} {a : Nat} {x : Nat} (hs : S 17 = false) : WP 5 G S (f + 1) 17 ls (.ref x :: .ref a :: st) h k n = (oH (fput h a 1 1 (.ref x)) (WP 5 G S f) 20 ls st k n) := by rw [wp_s dd_5_17 rfl hs]; rfl
theorem dd_5_20 : decode (mB 5) 20 = .ok (.return_, 1) := by decide +kernel
theorem u_5_20 {G : aG} {S : Nat → Bool} {f : Nat} {ls : aL} {h : aH} {k n : Nat} (hs : S 20 = false) : WP 5 G S (f + 1) 20 ls [] h k n = (RET G none h k n) := by rw [wp_s dd_5_20 rfl hs]; rfl
theorem dd_10_0 : decode (mB 10) 0 = .ok (.aload_n 0, 1) := by decide +kernel
theorem u_10_0 {G : aG} {S : Nat → Bool} {f : Nat} {st : List Value} {ls : aL} {h : aH} {k n : Nat} (hs : S 0 = false) : WP 10 G S (f + 1) 0 ls st h k n = (oA (lget ls 0) (WP 10 G S f) 1 ls st h k n) := by rw [wp_s dd_10_0 rfl hs]; rfl
theorem dd_10_1 : decode (mB 10) 1 = .ok (.invokespecial 3, 3) := by decide +kernel
theorem u_10_1 {G : aG} {S : Nat → Bool} {f : Nat} {st : List Value} {ls : aL} {h : aH} {k n : Nat} {a : Nat} (hs : S 1 = false) : WP 10 G S (f + 1) 1 ls (.ref a :: st) h k n = ((st.map fun v => v.category).sum ≤ 8 ∧ 1 ≤ gD G ∧ WP 10 G S f 4 ls st h k n) := by rw [wp_s dd_10_1 rfl hs]; rfl
theorem dd_10_4 : decode (mB 10) 4 = .ok (.aload_n 0, 1) := by decide +kernel
theorem u_10_4 {G : aG} {S : Nat → Bool} {f : Nat} {st : List Value} {ls : aL} {h : aH} {k n : Nat} (hs : S 4 = false) : WP 10 G S (f + 1) 4 ls st h k n = (oA (lget ls 0) (WP 10 G S f) 5 ls st h k n) := by rw [wp_s dd_10_4 rfl hs]; rfl
theorem dd_10_5 : decode (mB 10) 5 = .ok (.bipush 9, 2) := by decide +kernel
theorem u_10_5 {G : aG} {S : Nat → Bool} {f : Nat} {st : List Value} {ls : aL} {h : aH} {k n : Nat} (hs : S 5 = false) : WP 10 G S (f + 1) 5 ls st h k n = (WP 10 G S f 7 ls (.int (nI 9) :: st) h k n) := by rw [wp_s dd_10_5 rfl hs]; rfl
theorem dd_10_7 : decode (mB 10) 7 = .ok (.newarray .int, 2) := by decide +kernel
theorem u_10_7 {G : aG} {S : Nat → Bool} {f : Nat} {st : List Value} {ls : aL} {h : aH} {k n : Nat} {x : Int32} (hs : S 7 = false) : WP 10 G S (f + 1) 7 ls (.int x :: st) h k n = (¬ x < 0 ∧ x.toNatClampNeg * 4 ≤ 536870912 ∧ oNew G (cI x.toNatClampNeg) x.toNatClampNeg (WP 10 G S f) 9 ls st h k n) := by rw [wp_s dd_10_7 rfl hs]; rfl
theorem dd_10_9 : decode (mB 10) 9 = .ok (.putfield 9, 3) := by decide +kernel
theorem u_10_9 {G : aG} {S : Nat → Bool} {f : Nat} {st : List Value} {ls : aL} {h : aH} {k n : Nat} {a : Nat} {x : Nat} (hs : S 9 = false) : WP 10 G S (f + 1) 9 ls (.ref x :: .ref a :: st) h k n = (oH (fput h a 0 1 (.ref x)) (WP 10 G S f) 12 ls st k n) := by rw [wp_s dd_10_9 rfl hs]; rfl
theorem dd_10_12 : decode (mB 10) 12 = .ok (.aload_n 0, 1) := by decide +kernel
theorem u_10_12 {G : aG} {S : Nat → Bool} {f : Nat} {st : List Value} {ls : aL} {h : aH} {k n : Nat} (hs : S 12 = false) : WP 10 G S (f + 1) 12 ls st h k n = (oA (lget ls 0) (WP 10 G S f) 13 ls st h k n) := by rw [wp_s dd_10_12 rfl hs]; rfl
theorem dd_10_13 : decode (mB 10) 13 = .ok (.bipush 9, 2) := by decide +kernel
theorem u_10_13 {G : aG} {S : Nat → Bool} {f : Nat} {st : List Value} {ls : aL} {h : aH} {k n : Nat} (hs : S 13 = false) : WP 10 G S (f + 1) 13 ls st h k n = (WP 10 G S f 15 ls (.int (nI 9) :: st) h k n) := by rw [wp_s dd_10_13 rfl hs]; rfl
theorem dd_10_15 : decode (mB 10) 15 = .ok (.newarray .int, 2) := by decide +kernel
theorem u_10_15 {G : aG} {S : Nat → Bool} {f : Nat} {st : List Value} {ls : aL} {h : aH} {k n : Nat} {x : Int32} (hs : S 15 = false) : WP 10 G S (f + 1) 15 ls (.int x :: st) h k n = (¬ x < 0 ∧ x.toNatClampNeg * 4 ≤ 536870912 ∧ oNew G (cI x.toNatClampNeg) x.toNatClampNeg (WP 10 G S f) 17 ls st h k n) := by rw [wp_s dd_10_15 rfl hs]; rfl
theorem dd_10_17 : decode (mB 10) 17 = .ok (.putfield 15, 3) := by decide +kernel
theorem u_10_17 {G : aG} {S : Nat → Bool} {f : Nat} {st : List Value} {ls : aL} {h : aH} {k n : Nat} {a : Nat} {x : Nat} (hs : S 17 = false) : WP 10 G S (f + 1) 17 ls (.ref x :: .ref a :: st) h k n = (oH (fput h a 0 2 (.ref x)) (WP 10 G S f) 20 ls st k n) := by rw [wp_s dd_10_17 rfl hs]; rfl
theorem dd_10_20 : decode (mB 10) 20 = .ok (.aload_n 0, 1) := by decide +kernel
theorem u_10_20 {G : aG} {S : Nat → Bool} {f : Nat} {st : List Value} {ls : aL} {h : aH} {k n : Nat} (hs : S 20 = false) : WP 10 G S (f + 1) 20 ls st h k n = (oA (lget ls 0) (WP 10 G S f) 21 ls st h k n) := by rw [wp_s dd_10_20 rfl hs]; rfl
theorem dd_10_21 : decode (mB 10) 21 = .ok (.aload_n 1, 1) := by decide +kernel
theorem u_10_21 {G : aG} {S : Nat → Bool} {f : Nat} {st : List Value} {ls : aL} {h : aH} {k n : Nat} (hs : S 21 = false) : WP 10 G S (f + 1) 21 ls st h k n = (oA (lget ls 1) (WP 10 G S f) 22 ls st h k n) := by rw [wp_s dd_10_21 rfl hs]; rfl
theorem dd_10_22 : decode (mB 10) 22 = .ok (.putfield 18, 3) := by decide +kernel
theorem u_10_22 {G : aG} {S : Nat → Bool} {f : Nat} {st : List Value} {ls : aL} {h : aH} {k n : Nat} {a : Nat} {x : Nat} (hs : S 22 = false) : WP 10 G S (f + 1) 22 ls (.ref x :: .ref a :: st) h k n = (oH (fput h a 0 0 (.ref x)) (WP 10 G S f) 25 ls st k n) := by rw [wp_s dd_10_22 rfl hs]; rfl
theorem dd_10_25 : decode (mB 10) 25 = .ok (.return_, 1) := by decide +kernel
theorem u_10_25 {G : aG} {S : Nat → Bool} {f : Nat} {ls : aL} {h : aH} {k n : Nat} (hs : S 25 = false) : WP 10 G S (f + 1) 25 ls [] h k n = (RET G none h k n) := by rw [wp_s dd_10_25 rfl hs]; rfl
theorem dd_38_0 : decode (mB 38) 0 = .ok (.aload_n 2, 1) := by decide +kernel
theorem u_38_0 {G : aG} {S : Nat → Bool} {f : Nat} {st : List Value} {ls : aL} {h : aH} {k n : Nat} (hs : S 0 = false) : WP 38 G S (f + 1) 0 ls st h k n = (oA (lget ls 2) (WP 38 G S f) 1 ls st h k n) := by rw [wp_s dd_38_0 rfl hs]; rfl
theorem dd_38_1 : decode (mB 38) 1 = .ok (.iconst 0, 1) := by decide +kernel
theorem u_38_1 {G : aG} {S : Nat → Bool} {f : Nat} {st : List Value} {ls : aL} {h : aH} {k n : Nat} (hs : S 1 = false) : WP 38 G S (f + 1) 1 ls st h k n = (WP 38 G S f 2 ls (.int (nI 0) :: st) h k n) := by rw [wp_s dd_38_1 rfl hs]; rfl
theorem dd_38_2 : decode (mB 38) 2 = .ok (.aload_n 0, 1) := by decide +kernel
theorem u_38_2 {G : aG} {S : Nat → Bool} {f : Nat} {st : List Value} {ls : aL} {h : aH} {k n : Nat} (hs : S 2 = false) : WP 38 G S (f + 1) 2 ls st h k n = (oA (lget ls 0) (WP 38 G S f) 3 ls st h k n) := by rw [wp_s dd_38_2 rfl hs]; rfl
theorem dd_38_3 : decode (mB 38) 3 = .ok (.getfield 9, 3) := by decide +kernel
theorem u_38_3 {G : aG} {S : Nat → Bool} {f : Nat} {st : List Value} {ls : aL} {h : aH} {k n : Nat} {a : Nat} (hs : S 3 = false) : WP 38 G S (f + 1) 3 ls (.ref a :: st) h k n = (oV (fget h a 1 0) (WP 38 G S f) 6 ls st h k n) := by rw [wp_s dd_38_3 rfl hs]; rfl
theorem dd_38_6 : decode (mB 38) 6 = .ok (.iconst 0, 1) := by decide +kernel
theorem u_38_6 {G : aG} {S : Nat → Bool} {f : Nat} {st : List Value} {ls : aL} {h : aH} {k n : Nat} (hs : S 6 = false) : WP 38 G S (f + 1) 6 ls st h k n = (WP 38 G S f 7 ls (.int (nI 0) :: st) h k n) := by rw [wp_s dd_38_6 rfl hs]; rfl
theorem dd_38_7 : decode (mB 38) 7 = .ok (.bipush 9, 2) := by decide +kernel
theorem u_38_7 {G : aG} {S : Nat → Bool} {f : Nat} {st : List Value} {ls : aL} {h : aH} {k n : Nat} (hs : S 7 = false) : WP 38 G S (f + 1) 7 ls st h k n = (WP 38 G S f 9 ls (.int (nI 9) :: st) h k n) := by rw [wp_s dd_38_7 rfl hs]; rfl
theorem dd_38_9 : decode (mB 38) 9 = .ok (.invokestatic 19, 3) := by decide +kernel
theorem u_38_9 {G : aG} {S : Nat → Bool} {f : Nat} {st : List Value} {ls : aL} {h : aH} {k n : Nat} {x sp dp : Int32} {a0 a1 : Nat} (hs : S 9 = false) : WP 38 G S (f + 1) 9 ls (.int x :: .int dp :: .ref a1 :: .int sp :: .ref a0 :: st) h k n = ((st.map fun v => v.category).sum ≤ 8 ∧ 1 ≤ gD G ∧ oCp (iget h a0 1) a0 a1 sp dp x (WP 38 G S f) 12 ls st h k n) := by rw [wp_s dd_38_9 rfl hs]; rfl
theorem dd_38_12 : decode (mB 38) 12 = .ok (.aload_n 0, 1) := by decide +kernel
theorem u_38_12 {G : aG} {S : Nat → Bool} {f : Nat} {st : List Value} {ls : aL} {h : aH} {k n : Nat} (hs : S 12 = false) : WP 38 G S (f + 1) 12 ls st h k n = (oA (lget ls 0) (WP 38 G S f) 13 ls st h k n) := by rw [wp_s dd_38_12 rfl hs]; rfl
theorem dd_38_13 : decode (mB 38) 13 = .ok (.iconst 0, 1) := by decide +kernel
theorem u_38_13 {G : aG} {S : Nat → Bool} {f : Nat} {st : List Value} {ls : aL} {h : aH} {k n : Nat} (hs : S 13 = false) : WP 38 G S (f + 1) 13 ls st h k n = (WP 38 G S f 14 ls (.int (nI 0) :: st) h k n) := by rw [wp_s dd_38_13 rfl hs]; rfl
theorem dd_38_14 : decode (mB 38) 14 = .ok (.putfield 25, 3) := by decide +kernel
theorem u_38_14 {G : aG} {S : Nat → Bool} {f : Nat} {st : List Value} {ls : aL} {h : aH} {k n : Nat} {a : Nat} {x : Int32} (hs : S 14 = false) : WP 38 G S (f + 1) 14 ls (.int x :: .ref a :: st) h k n = (oH (fput h a 1 8 (.int x)) (WP 38 G S f) 17 ls st k n) := by rw [wp_s dd_38_14 rfl hs]; rfl
theorem dd_38_17 : decode (mB 38) 17 = .ok (.aload_n 0, 1) := by decide +kernel
theorem u_38_17 {G : aG} {S : Nat → Bool} {f : Nat} {st : List Value} {ls : aL} {h : aH} {k n : Nat} (hs : S 17 = false) : WP 38 G S (f + 1) 17 ls st h k n = (oA (lget ls 0) (WP 38 G S f) 18 ls st h k n) := by rw [wp_s dd_38_17 rfl hs]; rfl
theorem dd_38_18 : decode (mB 38) 18 = .ok (.iconst 0, 1) := by decide +kernel
theorem u_38_18 {G : aG} {S : Nat → Bool} {f : Nat} {st : List Value} {ls : aL} {h : aH} {k n : Nat} (hs : S 18 = false) : WP 38 G S (f + 1) 18 ls st h k n = (WP 38 G S f 19 ls (.int (nI 0) :: st) h k n) := by rw [wp_s dd_38_18 rfl hs]; rfl
theorem dd_38_19 : decode (mB 38) 19 = .ok (.putfield 29, 3) := by decide +kernel
theorem u_38_19 {G : aG} {S : Nat → Bool} {f : Nat} {st : List Value} {ls : aL} {h : aH} {k n : Nat} {a : Nat} {x : Int32} (hs : S 19 = false) : WP 38 G S (f + 1) 19 ls (.int x :: .ref a :: st) h k n = (oH (fput h a 1 9 (.int x)) (WP 38 G S f) 22 ls st k n) := by rw [wp_s dd_38_19 rfl hs]; rfl
theorem dd_38_22 : decode (mB 38) 22 = .ok (.iconst 0, 1) := by decide +kernel
theorem u_38_22 {G : aG} {S : Nat → Bool} {f : Nat} {st : List Value} {ls : aL} {h : aH} {k n : Nat} (hs : S 22 = false) : WP 38 G S (f + 1) 22 ls st h k n = (WP 38 G S f 23 ls (.int (nI 0) :: st) h k n) := by rw [wp_s dd_38_22 rfl hs]; rfl
theorem dd_38_23 : decode (mB 38) 23 = .ok (.istore_n 3, 1) := by decide +kernel
theorem u_38_23 {G : aG} {S : Nat → Bool} {f : Nat} {st : List Value} {ls : aL} {h : aH} {k n : Nat} {x : Int32} (hs : S 23 = false) : WP 38 G S (f + 1) 23 ls (.int x :: st) h k n = (WP 38 G S f 24 (lput1 ls 3 (.int x)) st h k n) := by rw [wp_s dd_38_23 rfl hs]; rfl
theorem dd_38_24 : decode (mB 38) 24 = .ok (.iload_n 3, 1) := by decide +kernel
theorem u_38_24 {G : aG} {S : Nat → Bool} {f : Nat} {st : List Value} {ls : aL} {h : aH} {k n : Nat} (hs : S 24 = false) : WP 38 G S (f + 1) 24 ls st h k n = (oI (lget ls 3) (WP 38 G S f) 25 ls st h k n) := by rw [wp_s dd_38_24 rfl hs]; rfl
theorem v_38_24 {G : aG} {S : Nat → Bool} {f : Nat} {st : List Value} {ls : aL} {h : aH} {k n : Nat} : WQ 38 G S f 24 ls st h k n = (oI (lget ls 3) (WP 38 G S f) 25 ls st h k n) := by rw [wq_s dd_38_24 rfl]; rfl
theorem dd_38_25 : decode (mB 38) 25 = .ok (.aload_n 1, 1) := by decide +kernel
theorem u_38_25 {G : aG} {S : Nat → Bool} {f : Nat} {st : List Value} {ls : aL} {h : aH} {k n : Nat} (hs : S 25 = false) : WP 38 G S (f + 1) 25 ls st h k n = (oA (lget ls 1) (WP 38 G S f) 26 ls st h k n) := by rw [wp_s dd_38_25 rfl hs]; rfl
theorem dd_38_26 : decode (mB 38) 26 = .ok (.getfield 32, 3) := by decide +kernel
theorem u_38_26 {G : aG} {S : Nat → Bool} {f : Nat} {st : List Value} {ls : aL} {h : aH} {k n : Nat} {a : Nat} (hs : S 26 = false) : WP 38 G S (f + 1) 26 ls (.ref a :: st) h k n = (oV (fget h a 8 1) (WP 38 G S f) 29 ls st h k n) := by rw [wp_s dd_38_26 rfl hs]; rfl
theorem dd_38_29 : decode (mB 38) 29 = .ok (.if_icmp .ge 37, 3) := by decide +kernel
theorem u_38_29 {G : aG} {S : Nat → Bool} {f : Nat} {st : List Value} {ls : aL} {h : aH} {k n : Nat} {x y : Int32} (hs : S 29 = false) : WP 38 G S (f + 1) 29 ls (.int y :: .int x :: st) h k n = (if y ≤ x then WP 38 G S f 66 ls st h k n else WP 38 G S f 32 ls st h k n) := by rw [wp_s dd_38_29 rfl hs]; exact br_ite (c := y ≤ x)
theorem dd_38_32 : decode (mB 38) 32 = .ok (.aload_n 1, 1) := by decide +kernel
theorem u_38_32 {G : aG} {S : Nat → Bool} {f : Nat} {st : List Value} {ls : aL} {h : aH} {k n : Nat} (hs : S 32 = false) : WP 38 G S (f + 1) 32 ls st h k n = (oA (lget ls 1) (WP 38 G S f) 33 ls st h k n) := by rw [wp_s dd_38_32 rfl hs]; rfl
theorem dd_38_33 : decode (mB 38) 33 = .ok (.iload_n 3, 1) := by decide +kernel
theorem u_38_33 {G : aG} {S : Nat → Bool} {f : Nat} {st : List Value} {ls : aL} {h : aH} {k n : Nat} (hs : S 33 = false) : WP 38 G S (f + 1) 33 ls st h k n = (oI (lget ls 3) (WP 38 G S f) 34 ls st h k n) := by rw [wp_s dd_38_33 rfl hs]; rfl
theorem dd_38_34 : decode (mB 38) 34 = .ok (.invokevirtual 37, 3) := by decide +kernel
theorem u_38_34 {G : aG} {S : Nat → Bool} {f : Nat} {st : List Value} {ls : aL} {h : aH} {k n : Nat} {v1 : Value} {b : Nat} (hs : S 34 = false) : WP 38 G S (f + 1) 34 ls (v1 :: .ref b :: st) h k n = (rcv (hget h b) 8 ∧ CAL G (WP 38 G S f) 39 [.ref b, v1] 37 ls st h k n) := by rw [wp_s dd_38_34 rfl hs]; rfl
theorem dd_38_37 : decode (mB 38) 37 = .ok (.istore 4, 2) := by decide +kernel
theorem u_38_37 {G : aG} {S : Nat → Bool} {f : Nat} {st : List Value} {ls : aL} {h : aH} {k n : Nat} {x : Int32} (hs : S 37 = false) : WP 38 G S (f + 1) 37 ls (.int x :: st) h k n = (WP 38 G S f 39 (lput1 ls 4 (.int x)) st h k n) := by rw [wp_s dd_38_37 rfl hs]; rfl
theorem dd_38_39 : decode (mB 38) 39 = .ok (.iload 4, 2) := by decide +kernel
theorem u_38_39 {G : aG} {S : Nat → Bool} {f : Nat} {st : List Value} {ls : aL} {h : aH} {k n : Nat} (hs : S 39 = false) : WP 38 G S (f + 1) 39 ls st h k n = (oI (lget ls 4) (WP 38 G S f) 41 ls st h k n) := by rw [wp_s dd_38_39 rfl hs]; rfl
theorem dd_38_41 : decode (mB 38) 41 = .ok (.bipush 32, 2) := by decide +kernel
theorem u_38_41 {G : aG} {S : Nat → Bool} {f : Nat} {st : List Value} {ls : aL} {h : aH} {k n : Nat} (hs : S 41 = false) : WP 38 G S (f + 1) 41 ls st h k n = (WP 38 G S f 43 ls (.int (nI 32) :: st) h k n) := by rw [wp_s dd_38_41 rfl hs]; rfl
theorem dd_38_43 : decode (mB 38) 43 = .ok (.if_icmp .eq 17, 3) := by decide +kernel
theorem u_38_43 {G : aG} {S : Nat → Bool} {f : Nat} {st : List Value} {ls : aL} {h : aH} {k n : Nat} {x y : Int32} (hs : S 43 = false) : WP 38 G S (f + 1) 43 ls (.int y :: .int x :: st) h k n = (if x = y then WP 38 G S f 60 ls st h k n else WP 38 G S f 46 ls st h k n) := by rw [wp_s dd_38_43 rfl hs]; exact br_ite (c := x = y)
theorem dd_38_46 : decode (mB 38) 46 = .ok (.aload_n 0, 1) := by decide +kernel
theorem u_38_46 {G : aG} {S : Nat → Bool} {f : Nat} {st : List Value} {ls : aL} {h : aH} {k n : Nat} (hs : S 46 = false) : WP 38 G S (f + 1) 46 ls st h k n = (oA (lget ls 0) (WP 38 G S f) 47 ls st h k n) := by rw [wp_s dd_38_46 rfl hs]; rfl
theorem dd_38_47 : decode (mB 38) 47 = .ok (.iload 4, 2) := by decide +kernel
theorem u_38_47 {G : aG} {S : Nat → Bool} {f : Nat} {st : List Value} {ls : aL} {h : aH} {k n : Nat} (hs : S 47 = false) : WP 38 G S (f + 1) 47 ls st h k n = (oI (lget ls 4) (WP 38 G S f) 49 ls st h k n) := by rw [wp_s dd_38_47 rfl hs]; rfl
theorem dd_38_49 : decode (mB 38) 49 = .ok (.invokevirtual 41, 3) := by decide +kernel
theorem u_38_49 {G : aG} {S : Nat → Bool} {f : Nat} {st : List Value} {ls : aL} {h : aH} {k n : Nat} {v1 : Value} {b : Nat} (hs : S 49 = false) : WP 38 G S (f + 1) 49 ls (v1 :: .ref b :: st) h k n = (rcv (hget h b) 1 ∧ CAL G (WP 38 G S f) 40 [.ref b, v1] 52 ls st h k n) := by rw [wp_s dd_38_49 rfl hs]; rfl
theorem dd_38_52 : decode (mB 38) 52 = .ok (.ifCond .ne 8, 3) := by decide +kernel
theorem u_38_52 {G : aG} {S : Nat → Bool} {f : Nat} {st : List Value} {ls : aL} {h : aH} {k n : Nat} {x : Int32} (hs : S 52 = false) : WP 38 G S (f + 1) 52 ls (.int x :: st) h k n = (if x = nI 0 then WP 38 G S f 55 ls st h k n else WP 38 G S f 60 ls st h k n) := by rw [wp_s dd_38_52 rfl hs]; exact br_iten (c := x = nI 0)
theorem dd_38_55 : decode (mB 38) 55 = .ok (.bipush (-10), 2) := by decide +kernel
theorem u_38_55 {G : aG} {S : Nat → Bool} {f : Nat} {st : List Value} {ls : aL} {h : aH} {k n : Nat} (hs : S 55 = false) : WP 38 G S (f + 1) 55 ls st h k n = (WP 38 G S f 57 ls (.int (-10) :: st) h k n) := by rw [wp_s dd_38_55 rfl hs]; rfl
theorem dd_38_57 : decode (mB 38) 57 = .ok (.iload_n 3, 1) := by decide +kernel
theorem u_38_57 {G : aG} {S : Nat → Bool} {f : Nat} {st : List Value} {ls : aL} {h : aH} {k n : Nat} (hs : S 57 = false) : WP 38 G S (f + 1) 57 ls st h k n = (oI (lget ls 3) (WP 38 G S f) 58 ls st h k n) := by rw [wp_s dd_38_57 rfl hs]; rfl
theorem dd_38_58 : decode (mB 38) 58 = .ok (.isub, 1) := by decide +kernel
theorem u_38_58 {G : aG} {S : Nat → Bool} {f : Nat} {st : List Value} {ls : aL} {h : aH} {k n : Nat} {x y : Int32} (hs : S 58 = false) : WP 38 G S (f + 1) 58 ls (.int y :: .int x :: st) h k n = (WP 38 G S f 59 ls (.int (x - y) :: st) h k n) := by rw [wp_s dd_38_58 rfl hs]; rfl
theorem dd_38_59 : decode (mB 38) 59 = .ok (.ireturn, 1) := by decide +kernel
theorem u_38_59 {G : aG} {S : Nat → Bool} {f : Nat} {ls : aL} {h : aH} {k n : Nat} {x : Int32} (hs : S 59 = false) : WP 38 G S (f + 1) 59 ls [.int x] h k n = (RET G (some (.int x)) h k n) := by rw [wp_s dd_38_59 rfl hs]; rfl
theorem dd_38_60 : decode (mB 38) 60 = .ok (.iinc 3 1, 3) := by decide +kernel
theorem u_38_60 {G : aG} {S : Nat → Bool} {f : Nat} {st : List Value} {ls : aL} {h : aH} {k n : Nat} (hs : S 60 = false) : WP 38 G S (f + 1) 60 ls st h k n = (oInc (lget ls 3) (nI 1) (WP 38 G S f) 3 63 ls st h k n) := by rw [wp_s dd_38_60 rfl hs]; rfl
theorem dd_38_63 : decode (mB 38) 63 = .ok (.goto (-39), 3) := by decide +kernel
theorem u_38_63 {G : aG} {S : Nat → Bool} {f : Nat} {st : List Value} {ls : aL} {h : aH} {k n : Nat} (hs : S 63 = false) : WP 38 G S (f + 1) 63 ls st h k n = (WP 38 G S f 24 ls st h k n) := by rw [wp_s dd_38_63 rfl hs]; rfl
theorem dd_38_66 : decode (mB 38) 66 = .ok (.aload_n 0, 1) := by decide +kernel
theorem u_38_66 {G : aG} {S : Nat → Bool} {f : Nat} {st : List Value} {ls : aL} {h : aH} {k n : Nat} (hs : S 66 = false) : WP 38 G S (f + 1) 66 ls st h k n = (oA (lget ls 0) (WP 38 G S f) 67 ls st h k n) := by rw [wp_s dd_38_66 rfl hs]; rfl
theorem dd_38_67 : decode (mB 38) 67 = .ok (.getfield 25, 3) := by decide +kernel
theorem u_38_67 {G : aG} {S : Nat → Bool} {f : Nat} {st : List Value} {ls : aL} {h : aH} {k n : Nat} {a : Nat} (hs : S 67 = false) : WP 38 G S (f + 1) 67 ls (.ref a :: st) h k n = (oV (fget h a 1 8) (WP 38 G S f) 70 ls st h k n) := by rw [wp_s dd_38_67 rfl hs]; rfl
theorem dd_38_70 : decode (mB 38) 70 = .ok (.ifCond .ne 17, 3) := by decide +kernel
theorem u_38_70 {G : aG} {S : Nat → Bool} {f : Nat} {st : List Value} {ls : aL} {h : aH} {k n : Nat} {x : Int32} (hs : S 70 = false) : WP 38 G S (f + 1) 70 ls (.int x :: st) h k n = (if x = nI 0 then WP 38 G S f 73 ls st h k n else WP 38 G S f 87 ls st h k n) := by rw [wp_s dd_38_70 rfl hs]; exact br_iten (c := x = nI 0)
theorem dd_38_73 : decode (mB 38) 73 = .ok (.aload_n 0, 1) := by decide +kernel
theorem u_38_73 {G : aG} {S : Nat → Bool} {f : Nat} {st : List Value} {ls : aL} {h : aH} {k n : Nat} (hs : S 73 = false) : WP 38 G S (f + 1) 73 ls st h k n = (oA (lget ls 0) (WP 38 G S f) 74 ls st h k n) := by rw [wp_s dd_38_73 rfl hs]; rfl
theorem dd_38_74 : decode (mB 38) 74 = .ok (.getfield 29, 3) := by decide +kernel
theorem u_38_74 {G : aG} {S : Nat → Bool} {f : Nat} {st : List Value} {ls : aL} {h : aH} {k n : Nat} {a : Nat} (hs : S 74 = false) : WP 38 G S (f + 1) 74 ls (.ref a :: st) h k n = (oV (fget h a 1 9) (WP 38 G S f) 77 ls st h k n) := by rw [wp_s dd_38_74 rfl hs]; rfl
theorem dd_38_77 : decode (mB 38) 77 = .ok (.ifCond .le 10, 3) := by decide +kernel
theorem u_38_77 {G : aG} {S : Nat → Bool} {f : Nat} {st : List Value} {ls : aL} {h : aH} {k n : Nat} {x : Int32} (hs : S 77 = false) : WP 38 G S (f + 1) 77 ls (.int x :: st) h k n = (if x ≤ nI 0 then WP 38 G S f 87 ls st h k n else WP 38 G S f 80 ls st h k n) := by rw [wp_s dd_38_77 rfl hs]; exact br_ite (c := x ≤ nI 0)
theorem dd_38_80 : decode (mB 38) 80 = .ok (.aload_n 0, 1) := by decide +kernel
theorem u_38_80 {G : aG} {S : Nat → Bool} {f : Nat} {st : List Value} {ls : aL} {h : aH} {k n : Nat} (hs : S 80 = false) : WP 38 G S (f + 1) 80 ls st h k n = (oA (lget ls 0) (WP 38 G S f) 81 ls st h k n) := by rw [wp_s dd_38_80 rfl hs]; rfl
theorem dd_38_81 : decode (mB 38) 81 = .ok (.getfield 29, 3) := by decide +kernel
theorem u_38_81 {G : aG} {S : Nat → Bool} {f : Nat} {st : List Value} {ls : aL} {h : aH} {k n : Nat} {a : Nat} (hs : S 81 = false) : WP 38 G S (f + 1) 81 ls (.ref a :: st) h k n = (oV (fget h a 1 9) (WP 38 G S f) 84 ls st h k n) := by rw [wp_s dd_38_81 rfl hs]; rfl
theorem dd_38_84 : decode (mB 38) 84 = .ok (.goto 10, 3) := by decide +kernel
theorem u_38_84 {G : aG} {S : Nat → Bool} {f : Nat} {st : List Value} {ls : aL} {h : aH} {k n : Nat} (hs : S 84 = false) : WP 38 G S (f + 1) 84 ls st h k n = (WP 38 G S f 94 ls st h k n) := by rw [wp_s dd_38_84 rfl hs]; rfl
theorem dd_38_87 : decode (mB 38) 87 = .ok (.bipush (-10), 2) := by decide +kernel
theorem u_38_87 {G : aG} {S : Nat → Bool} {f : Nat} {st : List Value} {ls : aL} {h : aH} {k n : Nat} (hs : S 87 = false) : WP 38 G S (f + 1) 87 ls st h k n = (WP 38 G S f 89 ls (.int (-10) :: st) h k n) := by rw [wp_s dd_38_87 rfl hs]; rfl
theorem dd_38_89 : decode (mB 38) 89 = .ok (.aload_n 1, 1) := by decide +kernel
theorem u_38_89 {G : aG} {S : Nat → Bool} {f : Nat} {st : List Value} {ls : aL} {h : aH} {k n : Nat} (hs : S 89 = false) : WP 38 G S (f + 1) 89 ls st h k n = (oA (lget ls 1) (WP 38 G S f) 90 ls st h k n) := by rw [wp_s dd_38_89 rfl hs]; rfl
theorem dd_38_90 : decode (mB 38) 90 = .ok (.getfield 32, 3) := by decide +kernel
theorem u_38_90 {G : aG} {S : Nat → Bool} {f : Nat} {st : List Value} {ls : aL} {h : aH} {k n : Nat} {a : Nat} (hs : S 90 = false) : WP 38 G S (f + 1) 90 ls (.ref a :: st) h k n = (oV (fget h a 8 1) (WP 38 G S f) 93 ls st h k n) := by rw [wp_s dd_38_90 rfl hs]; rfl
theorem dd_38_93 : decode (mB 38) 93 = .ok (.isub, 1) := by decide +kernel
theorem u_38_93 {G : aG} {S : Nat → Bool} {f : Nat} {st : List Value} {ls : aL} {h : aH} {k n : Nat} {x y : Int32} (hs : S 93 = false) : WP 38 G S (f + 1) 93 ls (.int y :: .int x :: st) h k n = (WP 38 G S f 94 ls (.int (x - y) :: st) h k n) := by rw [wp_s dd_38_93 rfl hs]; rfl
theorem dd_38_94 : decode (mB 38) 94 = .ok (.ireturn, 1) := by decide +kernel
theorem u_38_94 {G : aG} {S : Nat → Bool} {f : Nat} {ls : aL} {h : aH} {k n : Nat} {x : Int32} (hs : S 94 = false) : WP 38 G S (f + 1) 94 ls [.int x] h k n = (RET G (some (.int x)) h k n) := by rw [wp_s dd_38_94 rfl hs]; rfl
theorem dd_40_0 : decode (mB 40) 0 = .ok (.aload_n 0, 1) := by decide +kernel
theorem u_40_0 {G : aG} {S : Nat → Bool} {f : Nat} {st : List Value} {ls : aL} {h : aH} {k n : Nat} (hs : S 0 = false) : WP 40 G S (f + 1) 0 ls st h k n = (oA (lget ls 0) (WP 40 G S f) 1 ls st h k n) := by rw [wp_s dd_40_0 rfl hs]; rfl
theorem dd_40_1 : decode (mB 40) 1 = .ok (.getfield 25, 3) := by decide +kernel
theorem u_40_1 {G : aG} {S : Nat → Bool} {f : Nat} {st : List Value} {ls : aL} {h : aH} {k n : Nat} {a : Nat} (hs : S 1 = false) : WP 40 G S (f + 1) 1 ls (.ref a :: st) h k n = (oV (fget h a 1 8) (WP 40 G S f) 4 ls st h k n) := by rw [wp_s dd_40_1 rfl hs]; rfl
theorem dd_40_4 : decode (mB 40) 4 = .ok (.tableswitch 57 0 2 #[28, 34, 51], 28) := by decide +kernel
theorem u_40_4 {G : aG} {S : Nat → Bool} {f : Nat} {st : List Value} {ls : aL} {h : aH} {k n : Nat} {x : Int32} (hs : S 4 = false) : WP 40 G S (f + 1) 4 ls (.int x :: st) h k n = (if x = nI 0 then WP 40 G S f 32 ls st h k n else (if x = nI 1 then WP 40 G S f 38 ls st h k n else (if x = nI 2 then WP 40 G S f 55 ls st h k n else (WP 40 G S f 61 ls st h k n)))) := by rw [wp_s dd_40_4 rfl hs]; show WP 40 G S f (tgtT 4 0 2 [28, 34, 51] 57 x) ls st h k n = _; refine (ts_ite (K := fun q => WP 40 G S f q ls st h k n) (nI 0) rfl (by decide)).trans (if_cg ?_); refine (ts_ite (K := fun q => WP 40 G S f q ls st h k n) (nI 1) rfl (by decide)).trans (if_cg ?_); refine (ts_ite (K := fun q => WP 40 G S f q ls st h k n) (nI 2) rfl (by decide)).trans (if_cg ?_); exact ts_nil (K := fun q => WP 40 G S f q ls st h k n) (by decide)
theorem dd_40_32 : decode (mB 40) 32 = .ok (.aload_n 0, 1) := by decide +kernel
theorem u_40_32 {G : aG} {S : Nat → Bool} {f : Nat} {st : List Value} {ls : aL} {h : aH} {k n : Nat} (hs : S 32 = false) : WP 40 G S (f + 1) 32 ls st h k n = (oA (lget ls 0) (WP 40 G S f) 33 ls st h k n) := by rw [wp_s dd_40_32 rfl hs]; rfl
theorem dd_40_33 : decode (mB 40) 33 = .ok (.iload_n 1, 1) := by decide +kernel
theorem u_40_33 {G : aG} {S : Nat → Bool} {f : Nat} {st : List Value} {ls : aL} {h : aH} {k n : Nat} (hs : S 33 = false) : WP 40 G S (f + 1) 33 ls st h k n = (oI (lget ls 1) (WP 40 G S f) 34 ls st h k n) := by rw [wp_s dd_40_33 rfl hs]; rfl
theorem dd_40_34 : decode (mB 40) 34 = .ok (.invokevirtual 45, 3) := by decide +kernel
theorem u_40_34 {G : aG} {S : Nat → Bool} {f : Nat} {st : List Value} {ls : aL} {h : aH} {k n : Nat} {v1 : Value} {b : Nat} (hs : S 34 = false) : WP 40 G S (f + 1) 34 ls (v1 :: .ref b :: st) h k n = (rcv (hget h b) 1 ∧ CAL G (WP 40 G S f) 41 [.ref b, v1] 37 ls st h k n) := by rw [wp_s dd_40_34 rfl hs]; rfl
theorem dd_40_37 : decode (mB 40) 37 = .ok (.ireturn, 1) := by decide +kernel
theorem u_40_37 {G : aG} {S : Nat → Bool} {f : Nat} {ls : aL} {h : aH} {k n : Nat} {x : Int32} (hs : S 37 = false) : WP 40 G S (f + 1) 37 ls [.int x] h k n = (cond (x == nI 0 || x == nI 1) (RET G (some (.int x)) h k n) False) := by rw [wp_s dd_40_37 rfl hs]; rfl
theorem dd_40_38 : decode (mB 40) 38 = .ok (.aload_n 0, 1) := by decide +kernel
theorem u_40_38 {G : aG} {S : Nat → Bool} {f : Nat} {st : List Value} {ls : aL} {h : aH} {k n : Nat} (hs : S 38 = false) : WP 40 G S (f + 1) 38 ls st h k n = (oA (lget ls 0) (WP 40 G S f) 39 ls st h k n) := by rw [wp_s dd_40_38 rfl hs]; rfl
theorem dd_40_39 : decode (mB 40) 39 = .ok (.iconst 2, 1) := by decide +kernel
theorem u_40_39 {G : aG} {S : Nat → Bool} {f : Nat} {st : List Value} {ls : aL} {h : aH} {k n : Nat} (hs : S 39 = false) : WP 40 G S (f + 1) 39 ls st h k n = (WP 40 G S f 40 ls (.int (nI 2) :: st) h k n) := by rw [wp_s dd_40_39 rfl hs]; rfl
theorem dd_40_40 : decode (mB 40) 40 = .ok (.putfield 25, 3) := by decide +kernel
theorem u_40_40 {G : aG} {S : Nat → Bool} {f : Nat} {st : List Value} {ls : aL} {h : aH} {k n : Nat} {a : Nat} {x : Int32} (hs : S 40 = false) : WP 40 G S (f + 1) 40 ls (.int x :: .ref a :: st) h k n = (oH (fput h a 1 8 (.int x)) (WP 40 G S f) 43 ls st k n) := by rw [wp_s dd_40_40 rfl hs]; rfl
theorem dd_40_43 : decode (mB 40) 43 = .ok (.iload_n 1, 1) := by decide +kernel
theorem u_40_43 {G : aG} {S : Nat → Bool} {f : Nat} {st : List Value} {ls : aL} {h : aH} {k n : Nat} (hs : S 43 = false) : WP 40 G S (f + 1) 43 ls st h k n = (oI (lget ls 1) (WP 40 G S f) 44 ls st h k n) := by rw [wp_s dd_40_43 rfl hs]; rfl
theorem dd_40_44 : decode (mB 40) 44 = .ok (.bipush 61, 2) := by decide +kernel
theorem u_40_44 {G : aG} {S : Nat → Bool} {f : Nat} {st : List Value} {ls : aL} {h : aH} {k n : Nat} (hs : S 44 = false) : WP 40 G S (f + 1) 44 ls st h k n = (WP 40 G S f 46 ls (.int (nI 61) :: st) h k n) := by rw [wp_s dd_40_44 rfl hs]; rfl
theorem dd_40_46 : decode (mB 40) 46 = .ok (.if_icmp .ne 7, 3) := by decide +kernel
theorem u_40_46 {G : aG} {S : Nat → Bool} {f : Nat} {st : List Value} {ls : aL} {h : aH} {k n : Nat} {x y : Int32} (hs : S 46 = false) : WP 40 G S (f + 1) 46 ls (.int y :: .int x :: st) h k n = (if x = y then WP 40 G S f 49 ls st h k n else WP 40 G S f 53 ls st h k n) := by rw [wp_s dd_40_46 rfl hs]; exact br_iten (c := x = y)
theorem dd_40_49 : decode (mB 40) 49 = .ok (.iconst 1, 1) := by decide +kernel
theorem u_40_49 {G : aG} {S : Nat → Bool} {f : Nat} {st : List Value} {ls : aL} {h : aH} {k n : Nat} (hs : S 49 = false) : WP 40 G S (f + 1) 49 ls st h k n = (WP 40 G S f 50 ls (.int (nI 1) :: st) h k n) := by rw [wp_s dd_40_49 rfl hs]; rfl
theorem dd_40_50 : decode (mB 40) 50 = .ok (.goto 4, 3) := by decide +kernel
theorem u_40_50 {G : aG} {S : Nat → Bool} {f : Nat} {st : List Value} {ls : aL} {h : aH} {k n : Nat} (hs : S 50 = false) : WP 40 G S (f + 1) 50 ls st h k n = (WP 40 G S f 54 ls st h k n) := by rw [wp_s dd_40_50 rfl hs]; rfl
theorem dd_40_53 : decode (mB 40) 53 = .ok (.iconst 0, 1) := by decide +kernel
theorem u_40_53 {G : aG} {S : Nat → Bool} {f : Nat} {st : List Value} {ls : aL} {h : aH} {k n : Nat} (hs : S 53 = false) : WP 40 G S (f + 1) 53 ls st h k n = (WP 40 G S f 54 ls (.int (nI 0) :: st) h k n) := by rw [wp_s dd_40_53 rfl hs]; rfl
theorem dd_40_54 : decode (mB 40) 54 = .ok (.ireturn, 1) := by decide +kernel
theorem u_40_54 {G : aG} {S : Nat → Bool} {f : Nat} {ls : aL} {h : aH} {k n : Nat} {x : Int32} (hs : S 54 = false) : WP 40 G S (f + 1) 54 ls [.int x] h k n = (cond (x == nI 0 || x == nI 1) (RET G (some (.int x)) h k n) False) := by rw [wp_s dd_40_54 rfl hs]; rfl
theorem dd_40_55 : decode (mB 40) 55 = .ok (.aload_n 0, 1) := by decide +kernel
theorem u_40_55 {G : aG} {S : Nat → Bool} {f : Nat} {st : List Value} {ls : aL} {h : aH} {k n : Nat} (hs : S 55 = false) : WP 40 G S (f + 1) 55 ls st h k n = (oA (lget ls 0) (WP 40 G S f) 56 ls st h k n) := by rw [wp_s dd_40_55 rfl hs]; rfl
theorem dd_40_56 : decode (mB 40) 56 = .ok (.iload_n 1, 1) := by decide +kernel
theorem u_40_56 {G : aG} {S : Nat → Bool} {f : Nat} {st : List Value} {ls : aL} {h : aH} {k n : Nat} (hs : S 56 = false) : WP 40 G S (f + 1) 56 ls st h k n = (oI (lget ls 1) (WP 40 G S f) 57 ls st h k n) := by rw [wp_s dd_40_56 rfl hs]; rfl
theorem dd_40_57 : decode (mB 40) 57 = .ok (.invokevirtual 48, 3) := by decide +kernel
theorem u_40_57 {G : aG} {S : Nat → Bool} {f : Nat} {st : List Value} {ls : aL} {h : aH} {k n : Nat} {v1 : Value} {b : Nat} (hs : S 57 = false) : WP 40 G S (f + 1) 57 ls (v1 :: .ref b :: st) h k n = (rcv (hget h b) 1 ∧ CAL G (WP 40 G S f) 43 [.ref b, v1] 60 ls st h k n) := by rw [wp_s dd_40_57 rfl hs]; rfl
theorem dd_40_60 : decode (mB 40) 60 = .ok (.ireturn, 1) := by decide +kernel
theorem u_40_60 {G : aG} {S : Nat → Bool} {f : Nat} {ls : aL} {h : aH} {k n : Nat} {x : Int32} (hs : S 60 = false) : WP 40 G S (f + 1) 60 ls [.int x] h k n = (cond (x == nI 0 || x == nI 1) (RET G (some (.int x)) h k n) False) := by rw [wp_s dd_40_60 rfl hs]; rfl
theorem dd_40_61 : decode (mB 40) 61 = .ok (.aload_n 0, 1) := by decide +kernel
theorem u_40_61 {G : aG} {S : Nat → Bool} {f : Nat} {st : List Value} {ls : aL} {h : aH} {k n : Nat} (hs : S 61 = false) : WP 40 G S (f + 1) 61 ls st h k n = (oA (lget ls 0) (WP 40 G S f) 62 ls st h k n) := by rw [wp_s dd_40_61 rfl hs]; rfl
theorem dd_40_62 : decode (mB 40) 62 = .ok (.iload_n 1, 1) := by decide +kernel
theorem u_40_62 {G : aG} {S : Nat → Bool} {f : Nat} {st : List Value} {ls : aL} {h : aH} {k n : Nat} (hs : S 62 = false) : WP 40 G S (f + 1) 62 ls st h k n = (oI (lget ls 1) (WP 40 G S f) 63 ls st h k n) := by rw [wp_s dd_40_62 rfl hs]; rfl
theorem dd_40_63 : decode (mB 40) 63 = .ok (.invokevirtual 51, 3) := by decide +kernel
theorem u_40_63 {G : aG} {S : Nat → Bool} {f : Nat} {st : List Value} {ls : aL} {h : aH} {k n : Nat} {v1 : Value} {b : Nat} (hs : S 63 = false) : WP 40 G S (f + 1) 63 ls (v1 :: .ref b :: st) h k n = (rcv (hget h b) 1 ∧ CAL G (WP 40 G S f) 47 [.ref b, v1] 66 ls st h k n) := by rw [wp_s dd_40_63 rfl hs]; rfl
theorem dd_40_66 : decode (mB 40) 66 = .ok (.ireturn, 1) := by decide +kernel
theorem u_40_66 {G : aG} {S : Nat → Bool} {f : Nat} {ls : aL} {h : aH} {k n : Nat} {x : Int32} (hs : S 66 = false) : WP 40 G S (f + 1) 66 ls [.int x] h k n = (cond (x == nI 0 || x == nI 1) (RET G (some (.int x)) h k n) False) := by rw [wp_s dd_40_66 rfl hs]; rfl
theorem dd_41_0 : decode (mB 41) 0 = .ok (.aload_n 0, 1) := by decide +kernel
theorem u_41_0 {G : aG} {S : Nat → Bool} {f : Nat} {st : List Value} {ls : aL} {h : aH} {k n : Nat} (hs : S 0 = false) : WP 41 G S (f + 1) 0 ls st h k n = (oA (lget ls 0) (WP 41 G S f) 1 ls st h k n) := by rw [wp_s dd_41_0 rfl hs]; rfl
theorem dd_41_1 : decode (mB 41) 1 = .ok (.iload_n 1, 1) := by decide +kernel
theorem u_41_1 {G : aG} {S : Nat → Bool} {f : Nat} {st : List Value} {ls : aL} {h : aH} {k n : Nat} (hs : S 1 = false) : WP 41 G S (f + 1) 1 ls st h k n = (oI (lget ls 1) (WP 41 G S f) 2 ls st h k n) := by rw [wp_s dd_41_1 rfl hs]; rfl
theorem dd_41_2 : decode (mB 41) 2 = .ok (.bipush 94, 2) := by decide +kernel
theorem u_41_2 {G : aG} {S : Nat → Bool} {f : Nat} {st : List Value} {ls : aL} {h : aH} {k n : Nat} (hs : S 2 = false) : WP 41 G S (f + 1) 2 ls st h k n = (WP 41 G S f 4 ls (.int (nI 94) :: st) h k n) := by rw [wp_s dd_41_2 rfl hs]; rfl
theorem dd_41_4 : decode (mB 41) 4 = .ok (.if_icmp .ne 8, 3) := by decide +kernel
theorem u_41_4 {G : aG} {S : Nat → Bool} {f : Nat} {st : List Value} {ls : aL} {h : aH} {k n : Nat} {x y : Int32} (hs : S 4 = false) : WP 41 G S (f + 1) 4 ls (.int y :: .int x :: st) h k n = (if x = y then WP 41 G S f 7 ls st h k n else WP 41 G S f 12 ls st h k n) := by rw [wp_s dd_41_4 rfl hs]; exact br_iten (c := x = y)
theorem dd_41_7 : decode (mB 41) 7 = .ok (.bipush 8, 2) := by decide +kernel
theorem u_41_7 {G : aG} {S : Nat → Bool} {f : Nat} {st : List Value} {ls : aL} {h : aH} {k n : Nat} (hs : S 7 = false) : WP 41 G S (f + 1) 7 ls st h k n = (WP 41 G S f 9 ls (.int (nI 8) :: st) h k n) := by rw [wp_s dd_41_7 rfl hs]; rfl
theorem dd_41_9 : decode (mB 41) 9 = .ok (.goto 7, 3) := by decide +kernel
theorem u_41_9 {G : aG} {S : Nat → Bool} {f : Nat} {st : List Value} {ls : aL} {h : aH} {k n : Nat} (hs : S 9 = false) : WP 41 G S (f + 1) 9 ls st h k n = (WP 41 G S f 16 ls st h k n) := by rw [wp_s dd_41_9 rfl hs]; rfl
theorem dd_41_12 : decode (mB 41) 12 = .ok (.iload_n 1, 1) := by decide +kernel
theorem u_41_12 {G : aG} {S : Nat → Bool} {f : Nat} {st : List Value} {ls : aL} {h : aH} {k n : Nat} (hs : S 12 = false) : WP 41 G S (f + 1) 12 ls st h k n = (oI (lget ls 1) (WP 41 G S f) 13 ls st h k n) := by rw [wp_s dd_41_12 rfl hs]; rfl
theorem dd_41_13 : decode (mB 41) 13 = .ok (.invokestatic 54, 3) := by decide +kernel
theorem u_41_13 {G : aG} {S : Nat → Bool} {f : Nat} {st : List Value} {ls : aL} {h : aH} {k n : Nat} {v1 : Value} (hs : S 13 = false) : WP 41 G S (f + 1) 13 ls (v1 :: st) h k n = (CAL G (WP 41 G S f) 42 [v1] 16 ls st h k n) := by rw [wp_s dd_41_13 rfl hs]; rfl
theorem dd_41_16 : decode (mB 41) 16 = .ok (.putfield 57, 3) := by decide +kernel
theorem u_41_16 {G : aG} {S : Nat → Bool} {f : Nat} {st : List Value} {ls : aL} {h : aH} {k n : Nat} {a : Nat} {x : Int32} (hs : S 16 = false) : WP 41 G S (f + 1) 16 ls (.int x :: .ref a :: st) h k n = (oH (fput h a 1 7 (.int x)) (WP 41 G S f) 19 ls st k n) := by rw [wp_s dd_41_16 rfl hs]; rfl
theorem dd_41_19 : decode (mB 41) 19 = .ok (.aload_n 0, 1) := by decide +kernel
theorem u_41_19 {G : aG} {S : Nat → Bool} {f : Nat} {st : List Value} {ls : aL} {h : aH} {k n : Nat} (hs : S 19 = false) : WP 41 G S (f + 1) 19 ls st h k n = (oA (lget ls 0) (WP 41 G S f) 20 ls st h k n) := by rw [wp_s dd_41_19 rfl hs]; rfl
theorem dd_41_20 : decode (mB 41) 20 = .ok (.iconst 0, 1) := by decide +kernel
theorem u_41_20 {G : aG} {S : Nat → Bool} {f : Nat} {st : List Value} {ls : aL} {h : aH} {k n : Nat} (hs : S 20 = false) : WP 41 G S (f + 1) 20 ls st h k n = (WP 41 G S f 21 ls (.int (nI 0) :: st) h k n) := by rw [wp_s dd_41_20 rfl hs]; rfl
theorem dd_41_21 : decode (mB 41) 21 = .ok (.putfield 60, 3) := by decide +kernel
theorem u_41_21 {G : aG} {S : Nat → Bool} {f : Nat} {st : List Value} {ls : aL} {h : aH} {k n : Nat} {a : Nat} {x : Int32} (hs : S 21 = false) : WP 41 G S (f + 1) 21 ls (.int x :: .ref a :: st) h k n = (oH (fput h a 1 2 (.int x)) (WP 41 G S f) 24 ls st k n) := by rw [wp_s dd_41_21 rfl hs]; rfl
theorem dd_41_24 : decode (mB 41) 24 = .ok (.aload_n 0, 1) := by decide +kernel
theorem u_41_24 {G : aG} {S : Nat → Bool} {f : Nat} {st : List Value} {ls : aL} {h : aH} {k n : Nat} (hs : S 24 = false) : WP 41 G S (f + 1) 24 ls st h k n = (oA (lget ls 0) (WP 41 G S f) 25 ls st h k n) := by rw [wp_s dd_41_24 rfl hs]; rfl
theorem dd_41_25 : decode (mB 41) 25 = .ok (.iconst 0, 1) := by decide +kernel
theorem u_41_25 {G : aG} {S : Nat → Bool} {f : Nat} {st : List Value} {ls : aL} {h : aH} {k n : Nat} (hs : S 25 = false) : WP 41 G S (f + 1) 25 ls st h k n = (WP 41 G S f 26 ls (.int (nI 0) :: st) h k n) := by rw [wp_s dd_41_25 rfl hs]; rfl
theorem dd_41_26 : decode (mB 41) 26 = .ok (.putfield 63, 3) := by decide +kernel
theorem u_41_26 {G : aG} {S : Nat → Bool} {f : Nat} {st : List Value} {ls : aL} {h : aH} {k n : Nat} {a : Nat} {x : Int32} (hs : S 26 = false) : WP 41 G S (f + 1) 26 ls (.int x :: .ref a :: st) h k n = (oH (fput h a 1 3 (.int x)) (WP 41 G S f) 29 ls st k n) := by rw [wp_s dd_41_26 rfl hs]; rfl
theorem dd_41_29 : decode (mB 41) 29 = .ok (.aload_n 0, 1) := by decide +kernel
theorem u_41_29 {G : aG} {S : Nat → Bool} {f : Nat} {st : List Value} {ls : aL} {h : aH} {k n : Nat} (hs : S 29 = false) : WP 41 G S (f + 1) 29 ls st h k n = (oA (lget ls 0) (WP 41 G S f) 30 ls st h k n) := by rw [wp_s dd_41_29 rfl hs]; rfl
theorem dd_41_30 : decode (mB 41) 30 = .ok (.iconst 0, 1) := by decide +kernel
theorem u_41_30 {G : aG} {S : Nat → Bool} {f : Nat} {st : List Value} {ls : aL} {h : aH} {k n : Nat} (hs : S 30 = false) : WP 41 G S (f + 1) 30 ls st h k n = (WP 41 G S f 31 ls (.int (nI 0) :: st) h k n) := by rw [wp_s dd_41_30 rfl hs]; rfl
theorem dd_41_31 : decode (mB 41) 31 = .ok (.putfield 66, 3) := by decide +kernel
theorem u_41_31 {G : aG} {S : Nat → Bool} {f : Nat} {st : List Value} {ls : aL} {h : aH} {k n : Nat} {a : Nat} {x : Int32} (hs : S 31 = false) : WP 41 G S (f + 1) 31 ls (.int x :: .ref a :: st) h k n = (oH (fput h a 1 4 (.int x)) (WP 41 G S f) 34 ls st k n) := by rw [wp_s dd_41_31 rfl hs]; rfl
theorem dd_41_34 : decode (mB 41) 34 = .ok (.aload_n 0, 1) := by decide +kernel
theorem u_41_34 {G : aG} {S : Nat → Bool} {f : Nat} {st : List Value} {ls : aL} {h : aH} {k n : Nat} (hs : S 34 = false) : WP 41 G S (f + 1) 34 ls st h k n = (oA (lget ls 0) (WP 41 G S f) 35 ls st h k n) := by rw [wp_s dd_41_34 rfl hs]; rfl
theorem dd_41_35 : decode (mB 41) 35 = .ok (.iconst 0, 1) := by decide +kernel
theorem u_41_35 {G : aG} {S : Nat → Bool} {f : Nat} {st : List Value} {ls : aL} {h : aH} {k n : Nat} (hs : S 35 = false) : WP 41 G S (f + 1) 35 ls st h k n = (WP 41 G S f 36 ls (.int (nI 0) :: st) h k n) := by rw [wp_s dd_41_35 rfl hs]; rfl
theorem dd_41_36 : decode (mB 41) 36 = .ok (.putfield 69, 3) := by decide +kernel
theorem u_41_36 {G : aG} {S : Nat → Bool} {f : Nat} {st : List Value} {ls : aL} {h : aH} {k n : Nat} {a : Nat} {x : Int32} (hs : S 36 = false) : WP 41 G S (f + 1) 36 ls (.int x :: .ref a :: st) h k n = (oH (fput h a 1 5 (.int x)) (WP 41 G S f) 39 ls st k n) := by rw [wp_s dd_41_36 rfl hs]; rfl
theorem dd_41_39 : decode (mB 41) 39 = .ok (.aload_n 0, 1) := by decide +kernel
theorem u_41_39 {G : aG} {S : Nat → Bool} {f : Nat} {st : List Value} {ls : aL} {h : aH} {k n : Nat} (hs : S 39 = false) : WP 41 G S (f + 1) 39 ls st h k n = (oA (lget ls 0) (WP 41 G S f) 40 ls st h k n) := by rw [wp_s dd_41_39 rfl hs]; rfl
theorem dd_41_40 : decode (mB 41) 40 = .ok (.lconst 0, 1) := by decide +kernel
theorem u_41_40 {G : aG} {S : Nat → Bool} {f : Nat} {st : List Value} {ls : aL} {h : aH} {k n : Nat} (hs : S 40 = false) : WP 41 G S (f + 1) 40 ls st h k n = (WP 41 G S f 41 ls (.long (lN 0) :: st) h k n) := by rw [wp_s dd_41_40 rfl hs]; rfl
theorem dd_41_41 : decode (mB 41) 41 = .ok (.putfield 72, 3) := by decide +kernel
theorem u_41_41 {G : aG} {S : Nat → Bool} {f : Nat} {st : List Value} {ls : aL} {h : aH} {k n : Nat} {a : Nat} {x : Int64} (hs : S 41 = false) : WP 41 G S (f + 1) 41 ls (.long x :: .ref a :: st) h k n = (oH (fput h a 1 6 (.long x)) (WP 41 G S f) 44 ls st k n) := by rw [wp_s dd_41_41 rfl hs]; rfl
theorem dd_41_44 : decode (mB 41) 44 = .ok (.aload_n 0, 1) := by decide +kernel
theorem u_41_44 {G : aG} {S : Nat → Bool} {f : Nat} {st : List Value} {ls : aL} {h : aH} {k n : Nat} (hs : S 44 = false) : WP 41 G S (f + 1) 44 ls st h k n = (oA (lget ls 0) (WP 41 G S f) 45 ls st h k n) := by rw [wp_s dd_41_44 rfl hs]; rfl
theorem dd_41_45 : decode (mB 41) 45 = .ok (.iconst 1, 1) := by decide +kernel
theorem u_41_45 {G : aG} {S : Nat → Bool} {f : Nat} {st : List Value} {ls : aL} {h : aH} {k n : Nat} (hs : S 45 = false) : WP 41 G S (f + 1) 45 ls st h k n = (WP 41 G S f 46 ls (.int (nI 1) :: st) h k n) := by rw [wp_s dd_41_45 rfl hs]; rfl
theorem dd_41_46 : decode (mB 41) 46 = .ok (.putfield 25, 3) := by decide +kernel
theorem u_41_46 {G : aG} {S : Nat → Bool} {f : Nat} {st : List Value} {ls : aL} {h : aH} {k n : Nat} {a : Nat} {x : Int32} (hs : S 46 = false) : WP 41 G S (f + 1) 46 ls (.int x :: .ref a :: st) h k n = (oH (fput h a 1 8 (.int x)) (WP 41 G S f) 49 ls st k n) := by rw [wp_s dd_41_46 rfl hs]; rfl
theorem dd_41_49 : decode (mB 41) 49 = .ok (.aload_n 0, 1) := by decide +kernel
theorem u_41_49 {G : aG} {S : Nat → Bool} {f : Nat} {st : List Value} {ls : aL} {h : aH} {k n : Nat} (hs : S 49 = false) : WP 41 G S (f + 1) 49 ls st h k n = (oA (lget ls 0) (WP 41 G S f) 50 ls st h k n) := by rw [wp_s dd_41_49 rfl hs]; rfl
theorem dd_41_50 : decode (mB 41) 50 = .ok (.getfield 57, 3) := by decide +kernel
theorem u_41_50 {G : aG} {S : Nat → Bool} {f : Nat} {st : List Value} {ls : aL} {h : aH} {k n : Nat} {a : Nat} (hs : S 50 = false) : WP 41 G S (f + 1) 50 ls (.ref a :: st) h k n = (oV (fget h a 1 7) (WP 41 G S f) 53 ls st h k n) := by rw [wp_s dd_41_50 rfl hs]; rfl
theorem dd_41_53 : decode (mB 41) 53 = .ok (.iconst (-1), 1) := by decide +kernel
theorem u_41_53 {G : aG} {S : Nat → Bool} {f : Nat} {st : List Value} {ls : aL} {h : aH} {k n : Nat} (hs : S 53 = false) : WP 41 G S (f + 1) 53 ls st h k n = (WP 41 G S f 54 ls (.int (-1) :: st) h k n) := by rw [wp_s dd_41_53 rfl hs]; rfl
theorem dd_41_54 : decode (mB 41) 54 = .ok (.if_icmp .eq 7, 3) := by decide +kernel
theorem u_41_54 {G : aG} {S : Nat → Bool} {f : Nat} {st : List Value} {ls : aL} {h : aH} {k n : Nat} {x y : Int32} (hs : S 54 = false) : WP 41 G S (f + 1) 54 ls (.int y :: .int x :: st) h k n = (if x = y then WP 41 G S f 61 ls st h k n else WP 41 G S f 57 ls st h k n) := by rw [wp_s dd_41_54 rfl hs]; exact br_ite (c := x = y)
theorem dd_41_57 : decode (mB 41) 57 = .ok (.iconst 1, 1) := by decide +kernel
theorem u_41_57 {G : aG} {S : Nat → Bool} {f : Nat} {st : List Value} {ls : aL} {h : aH} {k n : Nat} (hs : S 57 = false) : WP 41 G S (f + 1) 57 ls st h k n = (WP 41 G S f 58 ls (.int (nI 1) :: st) h k n) := by rw [wp_s dd_41_57 rfl hs]; rfl
theorem dd_41_58 : decode (mB 41) 58 = .ok (.goto 4, 3) := by decide +kernel
theorem u_41_58 {G : aG} {S : Nat → Bool} {f : Nat} {st : List Value} {ls : aL} {h : aH} {k n : Nat} (hs : S 58 = false) : WP 41 G S (f + 1) 58 ls st h k n = (WP 41 G S f 62 ls st h k n) := by rw [wp_s dd_41_58 rfl hs]; rfl
theorem dd_41_61 : decode (mB 41) 61 = .ok (.iconst 0, 1) := by decide +kernel
theorem u_41_61 {G : aG} {S : Nat → Bool} {f : Nat} {st : List Value} {ls : aL} {h : aH} {k n : Nat} (hs : S 61 = false) : WP 41 G S (f + 1) 61 ls st h k n = (WP 41 G S f 62 ls (.int (nI 0) :: st) h k n) := by rw [wp_s dd_41_61 rfl hs]; rfl
theorem dd_41_62 : decode (mB 41) 62 = .ok (.ireturn, 1) := by decide +kernel
theorem u_41_62 {G : aG} {S : Nat → Bool} {f : Nat} {ls : aL} {h : aH} {k n : Nat} {x : Int32} (hs : S 62 = false) : WP 41 G S (f + 1) 62 ls [.int x] h k n = (cond (x == nI 0 || x == nI 1) (RET G (some (.int x)) h k n) False) := by rw [wp_s dd_41_62 rfl hs]; rfl
theorem dd_43_0 : decode (mB 43) 0 = .ok (.iload_n 1, 1) := by decide +kernel
theorem u_43_0 {G : aG} {S : Nat → Bool} {f : Nat} {st : List Value} {ls : aL} {h : aH} {k n : Nat} (hs : S 0 = false) : WP 43 G S (f + 1) 0 ls st h k n = (oI (lget ls 1) (WP 43 G S f) 1 ls st h k n) := by rw [wp_s dd_43_0 rfl hs]; rfl
theorem dd_43_1 : decode (mB 43) 1 = .ok (.bipush 40, 2) := by decide +kernel
theorem u_43_1 {G : aG} {S : Nat → Bool} {f : Nat} {st : List Value} {ls : aL} {h : aH} {k n : Nat} (hs : S 1 = false) : WP 43 G S (f + 1) 1 ls st h k n = (WP 43 G S f 3 ls (.int (nI 40) :: st) h k n) := by rw [wp_s dd_43_1 rfl hs]; rfl
theorem dd_43_3 : decode (mB 43) 3 = .ok (.if_icmp .ne 36, 3) := by decide +kernel
theorem u_43_3 {G : aG} {S : Nat → Bool} {f : Nat} {st : List Value} {ls : aL} {h : aH} {k n : Nat} {x y : Int32} (hs : S 3 = false) : WP 43 G S (f + 1) 3 ls (.int y :: .int x :: st) h k n = (if x = y then WP 43 G S f 6 ls st h k n else WP 43 G S f 39 ls st h k n) := by rw [wp_s dd_43_3 rfl hs]; exact br_iten (c := x = y)
theorem dd_43_6 : decode (mB 43) 6 = .ok (.aload_n 0, 1) := by decide +kernel
theorem u_43_6 {G : aG} {S : Nat → Bool} {f : Nat} {st : List Value} {ls : aL} {h : aH} {k n : Nat} (hs : S 6 = false) : WP 43 G S (f + 1) 6 ls st h k n = (oA (lget ls 0) (WP 43 G S f) 7 ls st h k n) := by rw [wp_s dd_43_6 rfl hs]; rfl
theorem dd_43_7 : decode (mB 43) 7 = .ok (.dup, 1) := by decide +kernel
theorem u_43_7 {G : aG} {S : Nat → Bool} {f : Nat} {st : List Value} {ls : aL} {h : aH} {k n : Nat} {v : Value} (hs : S 7 = false) : WP 43 G S (f + 1) 7 ls (v :: st) h k n = (cond (cat1 v) (WP 43 G S f 8 ls (v :: v :: st) h k n) False) := by rw [wp_s dd_43_7 rfl hs]; rfl
theorem dd_43_8 : decode (mB 43) 8 = .ok (.getfield 63, 3) := by decide +kernel
theorem u_43_8 {G : aG} {S : Nat → Bool} {f : Nat} {st : List Value} {ls : aL} {h : aH} {k n : Nat} {a : Nat} (hs : S 8 = false) : WP 43 G S (f + 1) 8 ls (.ref a :: st) h k n = (oV (fget h a 1 3) (WP 43 G S f) 11 ls st h k n) := by rw [wp_s dd_43_8 rfl hs]; rfl
theorem dd_43_11 : decode (mB 43) 11 = .ok (.iconst 1, 1) := by decide +kernel
theorem u_43_11 {G : aG} {S : Nat → Bool} {f : Nat} {st : List Value} {ls : aL} {h : aH} {k n : Nat} (hs : S 11 = false) : WP 43 G S (f + 1) 11 ls st h k n = (WP 43 G S f 12 ls (.int (nI 1) :: st) h k n) := by rw [wp_s dd_43_11 rfl hs]; rfl
theorem dd_43_12 : decode (mB 43) 12 = .ok (.iadd, 1) := by decide +kernel
theorem u_43_12 {G : aG} {S : Nat → Bool} {f : Nat} {st : List Value} {ls : aL} {h : aH} {k n : Nat} {x y : Int32} (hs : S 12 = false) : WP 43 G S (f + 1) 12 ls (.int y :: .int x :: st) h k n = (WP 43 G S f 13 ls (.int (x + y) :: st) h k n) := by rw [wp_s dd_43_12 rfl hs]; rfl
theorem dd_43_13 : decode (mB 43) 13 = .ok (.putfield 63, 3) := by decide +kernel
theorem u_43_13 {G : aG} {S : Nat → Bool} {f : Nat} {st : List Value} {ls : aL} {h : aH} {k n : Nat} {a : Nat} {x : Int32} (hs : S 13 = false) : WP 43 G S (f + 1) 13 ls (.int x :: .ref a :: st) h k n = (oH (fput h a 1 3 (.int x)) (WP 43 G S f) 16 ls st k n) := by rw [wp_s dd_43_13 rfl hs]; rfl
theorem dd_43_16 : decode (mB 43) 16 = .ok (.aload_n 0, 1) := by decide +kernel
theorem u_43_16 {G : aG} {S : Nat → Bool} {f : Nat} {st : List Value} {ls : aL} {h : aH} {k n : Nat} (hs : S 16 = false) : WP 43 G S (f + 1) 16 ls st h k n = (oA (lget ls 0) (WP 43 G S f) 17 ls st h k n) := by rw [wp_s dd_43_16 rfl hs]; rfl
theorem dd_43_17 : decode (mB 43) 17 = .ok (.getfield 63, 3) := by decide +kernel
theorem u_43_17 {G : aG} {S : Nat → Bool} {f : Nat} {st : List Value} {ls : aL} {h : aH} {k n : Nat} {a : Nat} (hs : S 17 = false) : WP 43 G S (f + 1) 17 ls (.ref a :: st) h k n = (oV (fget h a 1 3) (WP 43 G S f) 20 ls st h k n) := by rw [wp_s dd_43_17 rfl hs]; rfl
theorem dd_43_20 : decode (mB 43) 20 = .ok (.bipush 8, 2) := by decide +kernel
theorem u_43_20 {G : aG} {S : Nat → Bool} {f : Nat} {st : List Value} {ls : aL} {h : aH} {k n : Nat} (hs : S 20 = false) : WP 43 G S (f + 1) 20 ls st h k n = (WP 43 G S f 22 ls (.int (nI 8) :: st) h k n) := by rw [wp_s dd_43_20 rfl hs]; rfl
theorem dd_43_22 : decode (mB 43) 22 = .ok (.if_icmp .gt 15, 3) := by decide +kernel
theorem u_43_22 {G : aG} {S : Nat → Bool} {f : Nat} {st : List Value} {ls : aL} {h : aH} {k n : Nat} {x y : Int32} (hs : S 22 = false) : WP 43 G S (f + 1) 22 ls (.int y :: .int x :: st) h k n = (if y < x then WP 43 G S f 37 ls st h k n else WP 43 G S f 25 ls st h k n) := by rw [wp_s dd_43_22 rfl hs]; exact br_ite (c := y < x)
theorem dd_43_25 : decode (mB 43) 25 = .ok (.aload_n 0, 1) := by decide +kernel
theorem u_43_25 {G : aG} {S : Nat → Bool} {f : Nat} {st : List Value} {ls : aL} {h : aH} {k n : Nat} (hs : S 25 = false) : WP 43 G S (f + 1) 25 ls st h k n = (oA (lget ls 0) (WP 43 G S f) 26 ls st h k n) := by rw [wp_s dd_43_25 rfl hs]; rfl
theorem dd_43_26 : decode (mB 43) 26 = .ok (.iconst 0, 1) := by decide +kernel
theorem u_43_26 {G : aG} {S : Nat → Bool} {f : Nat} {st : List Value} {ls : aL} {h : aH} {k n : Nat} (hs : S 26 = false) : WP 43 G S (f + 1) 26 ls st h k n = (WP 43 G S f 27 ls (.int (nI 0) :: st) h k n) := by rw [wp_s dd_43_26 rfl hs]; rfl
theorem dd_43_27 : decode (mB 43) 27 = .ok (.invokevirtual 76, 3) := by decide +kernel
theorem u_43_27 {G : aG} {S : Nat → Bool} {f : Nat} {st : List Value} {ls : aL} {h : aH} {k n : Nat} {v1 : Value} {b : Nat} (hs : S 27 = false) : WP 43 G S (f + 1) 27 ls (v1 :: .ref b :: st) h k n = (rcv (hget h b) 1 ∧ CAL G (WP 43 G S f) 44 [.ref b, v1] 30 ls st h k n) := by rw [wp_s dd_43_27 rfl hs]; rfl
theorem dd_43_30 : decode (mB 43) 30 = .ok (.ifCond .eq 7, 3) := by decide +kernel
theorem u_43_30 {G : aG} {S : Nat → Bool} {f : Nat} {st : List Value} {ls : aL} {h : aH} {k n : Nat} {x : Int32} (hs : S 30 = false) : WP 43 G S (f + 1) 30 ls (.int x :: st) h k n = (if x = nI 0 then WP 43 G S f 37 ls st h k n else WP 43 G S f 33 ls st h k n) := by rw [wp_s dd_43_30 rfl hs]; exact br_ite (c := x = nI 0)
theorem dd_43_33 : decode (mB 43) 33 = .ok (.iconst 1, 1) := by decide +kernel
theorem u_43_33 {G : aG} {S : Nat → Bool} {f : Nat} {st : List Value} {ls : aL} {h : aH} {k n : Nat} (hs : S 33 = false) : WP 43 G S (f + 1) 33 ls st h k n = (WP 43 G S f 34 ls (.int (nI 1) :: st) h k n) := by rw [wp_s dd_43_33 rfl hs]; rfl
theorem dd_43_34 : decode (mB 43) 34 = .ok (.goto 4, 3) := by decide +kernel
theorem u_43_34 {G : aG} {S : Nat → Bool} {f : Nat} {st : List Value} {ls : aL} {h : aH} {k n : Nat} (hs : S 34 = false) : WP 43 G S (f + 1) 34 ls st h k n = (WP 43 G S f 38 ls st h k n) := by rw [wp_s dd_43_34 rfl hs]; rfl
theorem dd_43_37 : decode (mB 43) 37 = .ok (.iconst 0, 1) := by decide +kernel
theorem u_43_37 {G : aG} {S : Nat → Bool} {f : Nat} {st : List Value} {ls : aL} {h : aH} {k n : Nat} (hs : S 37 = false) : WP 43 G S (f + 1) 37 ls st h k n = (WP 43 G S f 38 ls (.int (nI 0) :: st) h k n) := by rw [wp_s dd_43_37 rfl hs]; rfl
theorem dd_43_38 : decode (mB 43) 38 = .ok (.ireturn, 1) := by decide +kernel
theorem u_43_38 {G : aG} {S : Nat → Bool} {f : Nat} {ls : aL} {h : aH} {k n : Nat} {x : Int32} (hs : S 38 = false) : WP 43 G S (f + 1) 38 ls [.int x] h k n = (cond (x == nI 0 || x == nI 1) (RET G (some (.int x)) h k n) False) := by rw [wp_s dd_43_38 rfl hs]; rfl
theorem dd_43_39 : decode (mB 43) 39 = .ok (.aload_n 0, 1) := by decide +kernel
theorem u_43_39 {G : aG} {S : Nat → Bool} {f : Nat} {st : List Value} {ls : aL} {h : aH} {k n : Nat} (hs : S 39 = false) : WP 43 G S (f + 1) 39 ls st h k n = (oA (lget ls 0) (WP 43 G S f) 40 ls st h k n) := by rw [wp_s dd_43_39 rfl hs]; rfl
theorem dd_43_40 : decode (mB 43) 40 = .ok (.iconst 3, 1) := by decide +kernel
theorem u_43_40 {G : aG} {S : Nat → Bool} {f : Nat} {st : List Value} {ls : aL} {h : aH} {k n : Nat} (hs : S 40 = false) : WP 43 G S (f + 1) 40 ls st h k n = (WP 43 G S f 41 ls (.int (nI 3) :: st) h k n) := by rw [wp_s dd_43_40 rfl hs]; rfl
theorem dd_43_41 : decode (mB 43) 41 = .ok (.putfield 25, 3) := by decide +kernel
theorem u_43_41 {G : aG} {S : Nat → Bool} {f : Nat} {st : List Value} {ls : aL} {h : aH} {k n : Nat} {a : Nat} {x : Int32} (hs : S 41 = false) : WP 43 G S (f + 1) 41 ls (.int x :: .ref a :: st) h k n = (oH (fput h a 1 8 (.int x)) (WP 43 G S f) 44 ls st k n) := by rw [wp_s dd_43_41 rfl hs]; rfl
theorem dd_43_44 : decode (mB 43) 44 = .ok (.iload_n 1, 1) := by decide +kernel
theorem u_43_44 {G : aG} {S : Nat → Bool} {f : Nat} {st : List Value} {ls : aL} {h : aH} {k n : Nat} (hs : S 44 = false) : WP 43 G S (f + 1) 44 ls st h k n = (oI (lget ls 1) (WP 43 G S f) 45 ls st h k n) := by rw [wp_s dd_43_44 rfl hs]; rfl
theorem dd_43_45 : decode (mB 43) 45 = .ok (.invokestatic 54, 3) := by decide +kernel
theorem u_43_45 {G : aG} {S : Nat → Bool} {f : Nat} {st : List Value} {ls : aL} {h : aH} {k n : Nat} {v1 : Value} (hs : S 45 = false) : WP 43 G S (f + 1) 45 ls (v1 :: st) h k n = (CAL G (WP 43 G S f) 42 [v1] 48 ls st h k n) := by rw [wp_s dd_43_45 rfl hs]; rfl
theorem dd_43_48 : decode (mB 43) 48 = .ok (.istore_n 2, 1) := by decide +kernel
theorem u_43_48 {G : aG} {S : Nat → Bool} {f : Nat} {st : List Value} {ls : aL} {h : aH} {k n : Nat} {x : Int32} (hs : S 48 = false) : WP 43 G S (f + 1) 48 ls (.int x :: st) h k n = (WP 43 G S f 49 (lput1 ls 2 (.int x)) st h k n) := by rw [wp_s dd_43_48 rfl hs]; rfl
theorem dd_43_49 : decode (mB 43) 49 = .ok (.iload_n 2, 1) := by decide +kernel
theorem u_43_49 {G : aG} {S : Nat → Bool} {f : Nat} {st : List Value} {ls : aL} {h : aH} {k n : Nat} (hs : S 49 = false) : WP 43 G S (f + 1) 49 ls st h k n = (oI (lget ls 2) (WP 43 G S f) 50 ls st h k n) := by rw [wp_s dd_43_49 rfl hs]; rfl
theorem dd_43_50 : decode (mB 43) 50 = .ok (.iconst (-1), 1) := by decide +kernel
theorem u_43_50 {G : aG} {S : Nat → Bool} {f : Nat} {st : List Value} {ls : aL} {h : aH} {k n : Nat} (hs : S 50 = false) : WP 43 G S (f + 1) 50 ls st h k n = (WP 43 G S f 51 ls (.int (-1) :: st) h k n) := by rw [wp_s dd_43_50 rfl hs]; rfl
theorem dd_43_51 : decode (mB 43) 51 = .ok (.if_icmp .eq 26, 3) := by decide +kernel
theorem u_43_51 {G : aG} {S : Nat → Bool} {f : Nat} {st : List Value} {ls : aL} {h : aH} {k n : Nat} {x y : Int32} (hs : S 51 = false) : WP 43 G S (f + 1) 51 ls (.int y :: .int x :: st) h k n = (if x = y then WP 43 G S f 77 ls st h k n else WP 43 G S f 54 ls st h k n) := by rw [wp_s dd_43_51 rfl hs]; exact br_ite (c := x = y)
theorem dd_43_54 : decode (mB 43) 54 = .ok (.aload_n 0, 1) := by decide +kernel
theorem u_43_54 {G : aG} {S : Nat → Bool} {f : Nat} {st : List Value} {ls : aL} {h : aH} {k n : Nat} (hs : S 54 = false) : WP 43 G S (f + 1) 54 ls st h k n = (oA (lget ls 0) (WP 43 G S f) 55 ls st h k n) := by rw [wp_s dd_43_54 rfl hs]; rfl
theorem dd_43_55 : decode (mB 43) 55 = .ok (.invokevirtual 79, 3) := by decide +kernel
theorem u_43_55 {G : aG} {S : Nat → Bool} {f : Nat} {st : List Value} {ls : aL} {h : aH} {k n : Nat} {b : Nat} (hs : S 55 = false) : WP 43 G S (f + 1) 55 ls (.ref b :: st) h k n = (rcv (hget h b) 1 ∧ CAL G (WP 43 G S f) 45 [.ref b] 58 ls st h k n) := by rw [wp_s dd_43_55 rfl hs]; rfl
theorem dd_43_58 : decode (mB 43) 58 = .ok (.ifCond .eq 17, 3) := by decide +kernel
theorem u_43_58 {G : aG} {S : Nat → Bool} {f : Nat} {st : List Value} {ls : aL} {h : aH} {k n : Nat} {x : Int32} (hs : S 58 = false) : WP 43 G S (f + 1) 58 ls (.int x :: st) h k n = (if x = nI 0 then WP 43 G S f 75 ls st h k n else WP 43 G S f 61 ls st h k n) := by rw [wp_s dd_43_58 rfl hs]; exact br_ite (c := x = nI 0)
theorem dd_43_61 : decode (mB 43) 61 = .ok (.aload_n 0, 1) := by decide +kernel
theorem u_43_61 {G : aG} {S : Nat → Bool} {f : Nat} {st : List Value} {ls : aL} {h : aH} {k n : Nat} (hs : S 61 = false) : WP 43 G S (f + 1) 61 ls st h k n = (oA (lget ls 0) (WP 43 G S f) 62 ls st h k n) := by rw [wp_s dd_43_61 rfl hs]; rfl
theorem dd_43_62 : decode (mB 43) 62 = .ok (.iload_n 2, 1) := by decide +kernel
theorem u_43_62 {G : aG} {S : Nat → Bool} {f : Nat} {st : List Value} {ls : aL} {h : aH} {k n : Nat} (hs : S 62 = false) : WP 43 G S (f + 1) 62 ls st h k n = (oI (lget ls 2) (WP 43 G S f) 63 ls st h k n) := by rw [wp_s dd_43_62 rfl hs]; rfl
theorem dd_43_63 : decode (mB 43) 63 = .ok (.iconst 1, 1) := by decide +kernel
theorem u_43_63 {G : aG} {S : Nat → Bool} {f : Nat} {st : List Value} {ls : aL} {h : aH} {k n : Nat} (hs : S 63 = false) : WP 43 G S (f + 1) 63 ls st h k n = (WP 43 G S f 64 ls (.int (nI 1) :: st) h k n) := by rw [wp_s dd_43_63 rfl hs]; rfl
theorem dd_43_64 : decode (mB 43) 64 = .ok (.iadd, 1) := by decide +kernel
theorem u_43_64 {G : aG} {S : Nat → Bool} {f : Nat} {st : List Value} {ls : aL} {h : aH} {k n : Nat} {x y : Int32} (hs : S 64 = false) : WP 43 G S (f + 1) 64 ls (.int y :: .int x :: st) h k n = (WP 43 G S f 65 ls (.int (x + y) :: st) h k n) := by rw [wp_s dd_43_64 rfl hs]; rfl
theorem dd_43_65 : decode (mB 43) 65 = .ok (.invokevirtual 83, 3) := by decide +kernel
theorem u_43_65 {G : aG} {S : Nat → Bool} {f : Nat} {st : List Value} {ls : aL} {h : aH} {k n : Nat} {v1 : Value} {b : Nat} (hs : S 65 = false) : WP 43 G S (f + 1) 65 ls (v1 :: .ref b :: st) h k n = (rcv (hget h b) 1 ∧ CAL G (WP 43 G S f) 46 [.ref b, v1] 68 ls st h k n) := by rw [wp_s dd_43_65 rfl hs]; rfl
theorem dd_43_68 : decode (mB 43) 68 = .ok (.ifCond .eq 7, 3) := by decide +kernel
theorem u_43_68 {G : aG} {S : Nat → Bool} {f : Nat} {st : List Value} {ls : aL} {h : aH} {k n : Nat} {x : Int32} (hs : S 68 = false) : WP 43 G S (f + 1) 68 ls (.int x :: st) h k n = (if x = nI 0 then WP 43 G S f 75 ls st h k n else WP 43 G S f 71 ls st h k n) := by rw [wp_s dd_43_68 rfl hs]; exact br_ite (c := x = nI 0)
theorem dd_43_71 : decode (mB 43) 71 = .ok (.iconst 1, 1) := by decide +kernel
theorem u_43_71 {G : aG} {S : Nat → Bool} {f : Nat} {st : List Value} {ls : aL} {h : aH} {k n : Nat} (hs : S 71 = false) : WP 43 G S (f + 1) 71 ls st h k n = (WP 43 G S f 72 ls (.int (nI 1) :: st) h k n) := by rw [wp_s dd_43_71 rfl hs]; rfl
theorem dd_43_72 : decode (mB 43) 72 = .ok (.goto 4, 3) := by decide +kernel
theorem u_43_72 {G : aG} {S : Nat → Bool} {f : Nat} {st : List Value} {ls : aL} {h : aH} {k n : Nat} (hs : S 72 = false) : WP 43 G S (f + 1) 72 ls st h k n = (WP 43 G S f 76 ls st h k n) := by rw [wp_s dd_43_72 rfl hs]; rfl
theorem dd_43_75 : decode (mB 43) 75 = .ok (.iconst 0, 1) := by decide +kernel
theorem u_43_75 {G : aG} {S : Nat → Bool} {f : Nat} {st : List Value} {ls : aL} {h : aH} {k n : Nat} (hs : S 75 = false) : WP 43 G S (f + 1) 75 ls st h k n = (WP 43 G S f 76 ls (.int (nI 0) :: st) h k n) := by rw [wp_s dd_43_75 rfl hs]; rfl
theorem dd_43_76 : decode (mB 43) 76 = .ok (.ireturn, 1) := by decide +kernel
theorem u_43_76 {G : aG} {S : Nat → Bool} {f : Nat} {ls : aL} {h : aH} {k n : Nat} {x : Int32} (hs : S 76 = false) : WP 43 G S (f + 1) 76 ls [.int x] h k n = (cond (x == nI 0 || x == nI 1) (RET G (some (.int x)) h k n) False) := by rw [wp_s dd_43_76 rfl hs]; rfl
theorem dd_43_77 : decode (mB 43) 77 = .ok (.iload_n 1, 1) := by decide +kernel
theorem u_43_77 {G : aG} {S : Nat → Bool} {f : Nat} {st : List Value} {ls : aL} {h : aH} {k n : Nat} (hs : S 77 = false) : WP 43 G S (f + 1) 77 ls st h k n = (oI (lget ls 1) (WP 43 G S f) 78 ls st h k n) := by rw [wp_s dd_43_77 rfl hs]; rfl
theorem dd_43_78 : decode (mB 43) 78 = .ok (.bipush 95, 2) := by decide +kernel
theorem u_43_78 {G : aG} {S : Nat → Bool} {f : Nat} {st : List Value} {ls : aL} {h : aH} {k n : Nat} (hs : S 78 = false) : WP 43 G S (f + 1) 78 ls st h k n = (WP 43 G S f 80 ls (.int (nI 95) :: st) h k n) := by rw [wp_s dd_43_78 rfl hs]; rfl
theorem dd_43_80 : decode (mB 43) 80 = .ok (.if_icmp .ne 23, 3) := by decide +kernel
theorem u_43_80 {G : aG} {S : Nat → Bool} {f : Nat} {st : List Value} {ls : aL} {h : aH} {k n : Nat} {x y : Int32} (hs : S 80 = false) : WP 43 G S (f + 1) 80 ls (.int y :: .int x :: st) h k n = (if x = y then WP 43 G S f 83 ls st h k n else WP 43 G S f 103 ls st h k n) := by rw [wp_s dd_43_80 rfl hs]; exact br_iten (c := x = y)
theorem dd_43_83 : decode (mB 43) 83 = .ok (.aload_n 0, 1) := by decide +kernel
theorem u_43_83 {G : aG} {S : Nat → Bool} {f : Nat} {st : List Value} {ls : aL} {h : aH} {k n : Nat} (hs : S 83 = false) : WP 43 G S (f + 1) 83 ls st h k n = (oA (lget ls 0) (WP 43 G S f) 84 ls st h k n) := by rw [wp_s dd_43_83 rfl hs]; rfl
theorem dd_43_84 : decode (mB 43) 84 = .ok (.invokevirtual 79, 3) := by decide +kernel
theorem u_43_84 {G : aG} {S : Nat → Bool} {f : Nat} {st : List Value} {ls : aL} {h : aH} {k n : Nat} {b : Nat} (hs : S 84 = false) : WP 43 G S (f + 1) 84 ls (.ref b :: st) h k n = (rcv (hget h b) 1 ∧ CAL G (WP 43 G S f) 45 [.ref b] 87 ls st h k n) := by rw [wp_s dd_43_84 rfl hs]; rfl
theorem dd_43_87 : decode (mB 43) 87 = .ok (.ifCond .eq 16, 3) := by decide +kernel
theorem u_43_87 {G : aG} {S : Nat → Bool} {f : Nat} {st : List Value} {ls : aL} {h : aH} {k n : Nat} {x : Int32} (hs : S 87 = false) : WP 43 G S (f + 1) 87 ls (.int x :: st) h k n = (if x = nI 0 then WP 43 G S f 103 ls st h k n else WP 43 G S f 90 ls st h k n) := by rw [wp_s dd_43_87 rfl hs]; exact br_ite (c := x = nI 0)
theorem dd_43_90 : decode (mB 43) 90 = .ok (.aload_n 0, 1) := by decide +kernel
theorem u_43_90 {G : aG} {S : Nat → Bool} {f : Nat} {st : List Value} {ls : aL} {h : aH} {k n : Nat} (hs : S 90 = false) : WP 43 G S (f + 1) 90 ls st h k n = (oA (lget ls 0) (WP 43 G S f) 91 ls st h k n) := by rw [wp_s dd_43_90 rfl hs]; rfl
theorem dd_43_91 : decode (mB 43) 91 = .ok (.bipush 9, 2) := by decide +kernel
theorem u_43_91 {G : aG} {S : Nat → Bool} {f : Nat} {st : List Value} {ls : aL} {h : aH} {k n : Nat} (hs : S 91 = false) : WP 43 G S (f + 1) 91 ls st h k n = (WP 43 G S f 93 ls (.int (nI 9) :: st) h k n) := by rw [wp_s dd_43_91 rfl hs]; rfl
theorem dd_43_93 : decode (mB 43) 93 = .ok (.invokevirtual 83, 3) := by decide +kernel
theorem u_43_93 {G : aG} {S : Nat → Bool} {f : Nat} {st : List Value} {ls : aL} {h : aH} {k n : Nat} {v1 : Value} {b : Nat} (hs : S 93 = false) : WP 43 G S (f + 1) 93 ls (v1 :: .ref b :: st) h k n = (rcv (hget h b) 1 ∧ CAL G (WP 43 G S f) 46 [.ref b, v1] 96 ls st h k n) := by rw [wp_s dd_43_93 rfl hs]; rfl
theorem dd_43_96 : decode (mB 43) 96 = .ok (.ifCond .eq 7, 3) := by decide +kernel
theorem u_43_96 {G : aG} {S : Nat → Bool} {f : Nat} {st : List Value} {ls : aL} {h : aH} {k n : Nat} {x : Int32} (hs : S 96 = false) : WP 43 G S (f + 1) 96 ls (.int x :: st) h k n = (if x = nI 0 then WP 43 G S f 103 ls st h k n else WP 43 G S f 99 ls st h k n) := by rw [wp_s dd_43_96 rfl hs]; exact br_ite (c := x = nI 0)
theorem dd_43_99 : decode (mB 43) 99 = .ok (.iconst 1, 1) := by decide +kernel
theorem u_43_99 {G : aG} {S : Nat → Bool} {f : Nat} {st : List Value} {ls : aL} {h : aH} {k n : Nat} (hs : S 99 = false) : WP 43 G S (f + 1) 99 ls st h k n = (WP 43 G S f 100 ls (.int (nI 1) :: st) h k n) := by rw [wp_s dd_43_99 rfl hs]; rfl
theorem dd_43_100 : decode (mB 43) 100 = .ok (.goto 4, 3) := by decide +kernel
theorem u_43_100 {G : aG} {S : Nat → Bool} {f : Nat} {st : List Value} {ls : aL} {h : aH} {k n : Nat} (hs : S 100 = false) : WP 43 G S (f + 1) 100 ls st h k n = (WP 43 G S f 104 ls st h k n) := by rw [wp_s dd_43_100 rfl hs]; rfl
theorem dd_43_103 : decode (mB 43) 103 = .ok (.iconst 0, 1) := by decide +kernel
theorem u_43_103 {G : aG} {S : Nat → Bool} {f : Nat} {st : List Value} {ls : aL} {h : aH} {k n : Nat} (hs : S 103 = false) : WP 43 G S (f + 1) 103 ls st h k n = (WP 43 G S f 104 ls (.int (nI 0) :: st) h k n) := by rw [wp_s dd_43_103 rfl hs]; rfl
theorem dd_43_104 : decode (mB 43) 104 = .ok (.ireturn, 1) := by decide +kernel
theorem u_43_104 {G : aG} {S : Nat → Bool} {f : Nat} {ls : aL} {h : aH} {k n : Nat} {x : Int32} (hs : S 104 = false) : WP 43 G S (f + 1) 104 ls [.int x] h k n = (cond (x == nI 0 || x == nI 1) (RET G (some (.int x)) h k n) False) := by rw [wp_s dd_43_104 rfl hs]; rfl
theorem dd_44_0 : decode (mB 44) 0 = .ok (.aload_n 0, 1) := by decide +kernel
theorem u_44_0 {G : aG} {S : Nat → Bool} {f : Nat} {st : List Value} {ls : aL} {h : aH} {k n : Nat} (hs : S 0 = false) : WP 44 G S (f + 1) 0 ls st h k n = (oA (lget ls 0) (WP 44 G S f) 1 ls st h k n) := by rw [wp_s dd_44_0 rfl hs]; rfl
theorem dd_44_1 : decode (mB 44) 1 = .ok (.getfield 60, 3) := by decide +kernel
theorem u_44_1 {G : aG} {S : Nat → Bool} {f : Nat} {st : List Value} {ls : aL} {h : aH} {k n : Nat} {a : Nat} (hs : S 1 = false) : WP 44 G S (f + 1) 1 ls (.ref a :: st) h k n = (oV (fget h a 1 2) (WP 44 G S f) 4 ls st h k n) := by rw [wp_s dd_44_1 rfl hs]; rfl
theorem dd_44_4 : decode (mB 44) 4 = .ok (.ifCond .lt 15, 3) := by decide +kernel
theorem u_44_4 {G : aG} {S : Nat → Bool} {f : Nat} {st : List Value} {ls : aL} {h : aH} {k n : Nat} {x : Int32} (hs : S 4 = false) : WP 44 G S (f + 1) 4 ls (.int x :: st) h k n = (if x < nI 0 then WP 44 G S f 19 ls st h k n else WP 44 G S f 7 ls st h k n) := by rw [wp_s dd_44_4 rfl hs]; exact br_ite (c := x < nI 0)
theorem dd_44_7 : decode (mB 44) 7 = .ok (.aload_n 0, 1) := by decide +kernel
theorem u_44_7 {G : aG} {S : Nat → Bool} {f : Nat} {st : List Value} {ls : aL} {h : aH} {k n : Nat} (hs : S 7 = false) : WP 44 G S (f + 1) 7 ls st h k n = (oA (lget ls 0) (WP 44 G S f) 8 ls st h k n) := by rw [wp_s dd_44_7 rfl hs]; rfl
theorem dd_44_8 : decode (mB 44) 8 = .ok (.getfield 60, 3) := by decide +kernel
theorem u_44_8 {G : aG} {S : Nat → Bool} {f : Nat} {st : List Value} {ls : aL} {h : aH} {k n : Nat} {a : Nat} (hs : S 8 = false) : WP 44 G S (f + 1) 8 ls (.ref a :: st) h k n = (oV (fget h a 1 2) (WP 44 G S f) 11 ls st h k n) := by rw [wp_s dd_44_8 rfl hs]; rfl
theorem dd_44_11 : decode (mB 44) 11 = .ok (.aload_n 0, 1) := by decide +kernel
theorem u_44_11 {G : aG} {S : Nat → Bool} {f : Nat} {st : List Value} {ls : aL} {h : aH} {k n : Nat} (hs : S 11 = false) : WP 44 G S (f + 1) 11 ls st h k n = (oA (lget ls 0) (WP 44 G S f) 12 ls st h k n) := by rw [wp_s dd_44_11 rfl hs]; rfl
theorem dd_44_12 : decode (mB 44) 12 = .ok (.getfield 15, 3) := by decide +kernel
theorem u_44_12 {G : aG} {S : Nat → Bool} {f : Nat} {st : List Value} {ls : aL} {h : aH} {k n : Nat} {a : Nat} (hs : S 12 = false) : WP 44 G S (f + 1) 12 ls (.ref a :: st) h k n = (oV (fget h a 1 1) (WP 44 G S f) 15 ls st h k n) := by rw [wp_s dd_44_12 rfl hs]; rfl
theorem dd_44_15 : decode (mB 44) 15 = .ok (.arraylength, 1) := by decide +kernel
theorem u_44_15 {G : aG} {S : Nat → Bool} {f : Nat} {st : List Value} {ls : aL} {h : aH} {k n : Nat} {a : Nat} (hs : S 15 = false) : WP 44 G S (f + 1) 15 ls (.ref a :: st) h k n = (oLen (alen h a) (WP 44 G S f) 16 ls st h k n) := by rw [wp_s dd_44_15 rfl hs]; rfl
theorem dd_44_16 : decode (mB 44) 16 = .ok (.if_icmp .lt 5, 3) := by decide +kernel
theorem u_44_16 {G : aG} {S : Nat → Bool} {f : Nat} {st : List Value} {ls : aL} {h : aH} {k n : Nat} {x y : Int32} (hs : S 16 = false) : WP 44 G S (f + 1) 16 ls (.int y :: .int x :: st) h k n = (if x < y then WP 44 G S f 21 ls st h k n else WP 44 G S f 19 ls st h k n) := by rw [wp_s dd_44_16 rfl hs]; exact br_ite (c := x < y)
theorem dd_44_19 : decode (mB 44) 19 = .ok (.iconst 0, 1) := by decide +kernel
theorem u_44_19 {G : aG} {S : Nat → Bool} {f : Nat} {st : List Value} {ls : aL} {h : aH} {k n : Nat} (hs : S 19 = false) : WP 44 G S (f + 1) 19 ls st h k n = (WP 44 G S f 20 ls (.int (nI 0) :: st) h k n) := by rw [wp_s dd_44_19 rfl hs]; rfl
theorem dd_44_20 : decode (mB 44) 20 = .ok (.ireturn, 1) := by decide +kernel
theorem u_44_20 {G : aG} {S : Nat → Bool} {f : Nat} {ls : aL} {h : aH} {k n : Nat} {x : Int32} (hs : S 20 = false) : WP 44 G S (f + 1) 20 ls [.int x] h k n = (cond (x == nI 0 || x == nI 1) (RET G (some (.int x)) h k n) False) := by rw [wp_s dd_44_20 rfl hs]; rfl
theorem dd_44_21 : decode (mB 44) 21 = .ok (.aload_n 0, 1) := by decide +kernel
theorem u_44_21 {G : aG} {S : Nat → Bool} {f : Nat} {st : List Value} {ls : aL} {h : aH} {k n : Nat} (hs : S 21 = false) : WP 44 G S (f + 1) 21 ls st h k n = (oA (lget ls 0) (WP 44 G S f) 22 ls st h k n) := by rw [wp_s dd_44_21 rfl hs]; rfl
theorem dd_44_22 : decode (mB 44) 22 = .ok (.getfield 15, 3) := by decide +kernel
theorem u_44_22 {G : aG} {S : Nat → Bool} {f : Nat} {st : List Value} {ls : aL} {h : aH} {k n : Nat} {a : Nat} (hs : S 22 = false) : WP 44 G S (f + 1) 22 ls (.ref a :: st) h k n = (oV (fget h a 1 1) (WP 44 G S f) 25 ls st h k n) := by rw [wp_s dd_44_22 rfl hs]; rfl
theorem dd_44_25 : decode (mB 44) 25 = .ok (.aload_n 0, 1) := by decide +kernel
theorem u_44_25 {G : aG} {S : Nat → Bool} {f : Nat} {st : List Value} {ls : aL} {h : aH} {k n : Nat} (hs : S 25 = false) : WP 44 G S (f + 1) 25 ls st h k n = (oA (lget ls 0) (WP 44 G S f) 26 ls st h k n) := by rw [wp_s dd_44_25 rfl hs]; rfl
theorem dd_44_26 : decode (mB 44) 26 = .ok (.getfield 60, 3) := by decide +kernel
theorem u_44_26 {G : aG} {S : Nat → Bool} {f : Nat} {st : List Value} {ls : aL} {h : aH} {k n : Nat} {a : Nat} (hs : S 26 = false) : WP 44 G S (f + 1) 26 ls (.ref a :: st) h k n = (oV (fget h a 1 2) (WP 44 G S f) 29 ls st h k n) := by rw [wp_s dd_44_26 rfl hs]; rfl
theorem dd_44_29 : decode (mB 44) 29 = .ok (.iload_n 1, 1) := by decide +kernel
theorem u_44_29 {G : aG} {S : Nat → Bool} {f : Nat} {st : List Value} {ls : aL} {h : aH} {k n : Nat} (hs : S 29 = false) : WP 44 G S (f + 1) 29 ls st h k n = (oI (lget ls 1) (WP 44 G S f) 30 ls st h k n) := by rw [wp_s dd_44_29 rfl hs]; rfl
theorem dd_44_30 : decode (mB 44) 30 = .ok (.iastore, 1) := by decide +kernel
theorem u_44_30 {G : aG} {S : Nat → Bool} {f : Nat} {st : List Value} {ls : aL} {h : aH} {k n : Nat} {i x : Int32} {a : Nat} (hs : S 30 = false) : WP 44 G S (f + 1) 30 ls (.int x :: .int i :: .ref a :: st) h k n = (oIst (iget h a 1) a i x (WP 44 G S f) 31 ls st h k n) := by rw [wp_s dd_44_30 rfl hs]; rfl
theorem dd_44_31 : decode (mB 44) 31 = .ok (.aload_n 0, 1) := by decide +kernel
theorem u_44_31 {G : aG} {S : Nat → Bool} {f : Nat} {st : List Value} {ls : aL} {h : aH} {k n : Nat} (hs : S 31 = false) : WP 44 G S (f + 1) 31 ls st h k n = (oA (lget ls 0) (WP 44 G S f) 32 ls st h k n) := by rw [wp_s dd_44_31 rfl hs]; rfl
theorem dd_44_32 : decode (mB 44) 32 = .ok (.dup, 1) := by decide +kernel
theorem u_44_32 {G : aG} {S : Nat → Bool} {f : Nat} {st : List Value} {ls : aL} {h : aH} {k n : Nat} {v : Value} (hs : S 32 = false) : WP 44 G S (f + 1) 32 ls (v :: st) h k n = (cond (cat1 v) (WP 44 G S f 33 ls (v :: v :: st) h k n) False) := by rw [wp_s dd_44_32 rfl hs]; rfl
theorem dd_44_33 : decode (mB 44) 33 = .ok (.getfield 60, 3) := by decide +kernel
theorem u_44_33 {G : aG} {S : Nat → Bool} {f : Nat} {st : List Value} {ls : aL} {h : aH} {k n : Nat} {a : Nat} (hs : S 33 = false) : WP 44 G S (f + 1) 33 ls (.ref a :: st) h k n = (oV (fget h a 1 2) (WP 44 G S f) 36 ls st h k n) := by rw [wp_s dd_44_33 rfl hs]; rfl
theorem dd_44_36 : decode (mB 44) 36 = .ok (.iconst 1, 1) := by decide +kernel
theorem u_44_36 {G : aG} {S : Nat → Bool} {f : Nat} {st : List Value} {ls : aL} {h : aH} {k n : Nat} (hs : S 36 = false) : WP 44 G S (f + 1) 36 ls st h k n = (WP 44 G S f 37 ls (.int (nI 1) :: st) h k n) := by rw [wp_s dd_44_36 rfl hs]; rfl
theorem dd_44_37 : decode (mB 44) 37 = .ok (.iadd, 1) := by decide +kernel
theorem u_44_37 {G : aG} {S : Nat → Bool} {f : Nat} {st : List Value} {ls : aL} {h : aH} {k n : Nat} {x y : Int32} (hs : S 37 = false) : WP 44 G S (f + 1) 37 ls (.int y :: .int x :: st) h k n = (WP 44 G S f 38 ls (.int (x + y) :: st) h k n) := by rw [wp_s dd_44_37 rfl hs]; rfl
theorem dd_44_38 : decode (mB 44) 38 = .ok (.putfield 60, 3) := by decide +kernel
theorem u_44_38 {G : aG} {S : Nat → Bool} {f : Nat} {st : List Value} {ls : aL} {h : aH} {k n : Nat} {a : Nat} {x : Int32} (hs : S 38 = false) : WP 44 G S (f + 1) 38 ls (.int x :: .ref a :: st) h k n = (oH (fput h a 1 2 (.int x)) (WP 44 G S f) 41 ls st k n) := by rw [wp_s dd_44_38 rfl hs]; rfl
theorem dd_44_41 : decode (mB 44) 41 = .ok (.iconst 1, 1) := by decide +kernel
theorem u_44_41 {G : aG} {S : Nat → Bool} {f : Nat} {st : List Value} {ls : aL} {h : aH} {k n : Nat} (hs : S 41 = false) : WP 44 G S (f + 1) 41 ls st h k n = (WP 44 G S f 42 ls (.int (nI 1) :: st) h k n) := by rw [wp_s dd_44_41 rfl hs]; rfl
theorem dd_44_42 : decode (mB 44) 42 = .ok (.ireturn, 1) := by decide +kernel
theorem u_44_42 {G : aG} {S : Nat → Bool} {f : Nat} {ls : aL} {h : aH} {k n : Nat} {x : Int32} (hs : S 42 = false) : WP 44 G S (f + 1) 42 ls [.int x] h k n = (cond (x == nI 0 || x == nI 1) (RET G (some (.int x)) h k n) False) := by rw [wp_s dd_44_42 rfl hs]; rfl
theorem dd_45_0 : decode (mB 45) 0 = .ok (.aload_n 0, 1) := by decide +kernel
theorem u_45_0 {G : aG} {S : Nat → Bool} {f : Nat} {st : List Value} {ls : aL} {h : aH} {k n : Nat} (hs : S 0 = false) : WP 45 G S (f + 1) 0 ls st h k n = (oA (lget ls 0) (WP 45 G S f) 1 ls st h k n) := by rw [wp_s dd_45_0 rfl hs]; rfl
theorem dd_45_1 : decode (mB 45) 1 = .ok (.dup, 1) := by decide +kernel
theorem u_45_1 {G : aG} {S : Nat → Bool} {f : Nat} {st : List Value} {ls : aL} {h : aH} {k n : Nat} {v : Value} (hs : S 1 = false) : WP 45 G S (f + 1) 1 ls (v :: st) h k n = (cond (cat1 v) (WP 45 G S f 2 ls (v :: v :: st) h k n) False) := by rw [wp_s dd_45_1 rfl hs]; rfl
theorem dd_45_2 : decode (mB 45) 2 = .ok (.getfield 66, 3) := by decide +kernel
theorem u_45_2 {G : aG} {S : Nat → Bool} {f : Nat} {st : List Value} {ls : aL} {h : aH} {k n : Nat} {a : Nat} (hs : S 2 = false) : WP 45 G S (f + 1) 2 ls (.ref a :: st) h k n = (oV (fget h a 1 4) (WP 45 G S f) 5 ls st h k n) := by rw [wp_s dd_45_2 rfl hs]; rfl
theorem dd_45_5 : decode (mB 45) 5 = .ok (.iconst 1, 1) := by decide +kernel
theorem u_45_5 {G : aG} {S : Nat → Bool} {f : Nat} {st : List Value} {ls : aL} {h : aH} {k n : Nat} (hs : S 5 = false) : WP 45 G S (f + 1) 5 ls st h k n = (WP 45 G S f 6 ls (.int (nI 1) :: st) h k n) := by rw [wp_s dd_45_5 rfl hs]; rfl
theorem dd_45_6 : decode (mB 45) 6 = .ok (.iadd, 1) := by decide +kernel
theorem u_45_6 {G : aG} {S : Nat → Bool} {f : Nat} {st : List Value} {ls : aL} {h : aH} {k n : Nat} {x y : Int32} (hs : S 6 = false) : WP 45 G S (f + 1) 6 ls (.int y :: .int x :: st) h k n = (WP 45 G S f 7 ls (.int (x + y) :: st) h k n) := by rw [wp_s dd_45_6 rfl hs]; rfl
theorem dd_45_7 : decode (mB 45) 7 = .ok (.putfield 66, 3) := by decide +kernel
theorem u_45_7 {G : aG} {S : Nat → Bool} {f : Nat} {st : List Value} {ls : aL} {h : aH} {k n : Nat} {a : Nat} {x : Int32} (hs : S 7 = false) : WP 45 G S (f + 1) 7 ls (.int x :: .ref a :: st) h k n = (oH (fput h a 1 4 (.int x)) (WP 45 G S f) 10 ls st k n) := by rw [wp_s dd_45_7 rfl hs]; rfl
theorem dd_45_10 : decode (mB 45) 10 = .ok (.aload_n 0, 1) := by decide +kernel
theorem u_45_10 {G : aG} {S : Nat → Bool} {f : Nat} {st : List Value} {ls : aL} {h : aH} {k n : Nat} (hs : S 10 = false) : WP 45 G S (f + 1) 10 ls st h k n = (oA (lget ls 0) (WP 45 G S f) 11 ls st h k n) := by rw [wp_s dd_45_10 rfl hs]; rfl
theorem dd_45_11 : decode (mB 45) 11 = .ok (.getfield 66, 3) := by decide +kernel
theorem u_45_11 {G : aG} {S : Nat → Bool} {f : Nat} {st : List Value} {ls : aL} {h : aH} {k n : Nat} {a : Nat} (hs : S 11 = false) : WP 45 G S (f + 1) 11 ls (.ref a :: st) h k n = (oV (fget h a 1 4) (WP 45 G S f) 14 ls st h k n) := by rw [wp_s dd_45_11 rfl hs]; rfl
theorem dd_45_14 : decode (mB 45) 14 = .ok (.bipush 16, 2) := by decide +kernel
theorem u_45_14 {G : aG} {S : Nat → Bool} {f : Nat} {st : List Value} {ls : aL} {h : aH} {k n : Nat} (hs : S 14 = false) : WP 45 G S (f + 1) 14 ls st h k n = (WP 45 G S f 16 ls (.int (nI 16) :: st) h k n) := by rw [wp_s dd_45_14 rfl hs]; rfl
theorem dd_45_16 : decode (mB 45) 16 = .ok (.if_icmp .gt 7, 3) := by decide +kernel
theorem u_45_16 {G : aG} {S : Nat → Bool} {f : Nat} {st : List Value} {ls : aL} {h : aH} {k n : Nat} {x y : Int32} (hs : S 16 = false) : WP 45 G S (f + 1) 16 ls (.int y :: .int x :: st) h k n = (if y < x then WP 45 G S f 23 ls st h k n else WP 45 G S f 19 ls st h k n) := by rw [wp_s dd_45_16 rfl hs]; exact br_ite (c := y < x)
theorem dd_45_19 : decode (mB 45) 19 = .ok (.iconst 1, 1) := by decide +kernel
theorem u_45_19 {G : aG} {S : Nat → Bool} {f : Nat} {st : List Value} {ls : aL} {h : aH} {k n : Nat} (hs : S 19 = false) : WP 45 G S (f + 1) 19 ls st h k n = (WP 45 G S f 20 ls (.int (nI 1) :: st) h k n) := by rw [wp_s dd_45_19 rfl hs]; rfl
theorem dd_45_20 : decode (mB 45) 20 = .ok (.goto 4, 3) := by decide +kernel
theorem u_45_20 {G : aG} {S : Nat → Bool} {f : Nat} {st : List Value} {ls : aL} {h : aH} {k n : Nat} (hs : S 20 = false) : WP 45 G S (f + 1) 20 ls st h k n = (WP 45 G S f 24 ls st h k n) := by rw [wp_s dd_45_20 rfl hs]; rfl
theorem dd_45_23 : decode (mB 45) 23 = .ok (.iconst 0, 1) := by decide +kernel
theorem u_45_23 {G : aG} {S : Nat → Bool} {f : Nat} {st : List Value} {ls : aL} {h : aH} {k n : Nat} (hs : S 23 = false) : WP 45 G S (f + 1) 23 ls st h k n = (WP 45 G S f 24 ls (.int (nI 0) :: st) h k n) := by rw [wp_s dd_45_23 rfl hs]; rfl
theorem dd_45_24 : decode (mB 45) 24 = .ok (.ireturn, 1) := by decide +kernel
theorem u_45_24 {G : aG} {S : Nat → Bool} {f : Nat} {ls : aL} {h : aH} {k n : Nat} {x : Int32} (hs : S 24 = false) : WP 45 G S (f + 1) 24 ls [.int x] h k n = (cond (x == nI 0 || x == nI 1) (RET G (some (.int x)) h k n) False) := by rw [wp_s dd_45_24 rfl hs]; rfl
theorem dd_46_0 : decode (mB 46) 0 = .ok (.aload_n 0, 1) := by decide +kernel
theorem u_46_0 {G : aG} {S : Nat → Bool} {f : Nat} {st : List Value} {ls : aL} {h : aH} {k n : Nat} (hs : S 0 = false) : WP 46 G S (f + 1) 0 ls st h k n = (oA (lget ls 0) (WP 46 G S f) 1 ls st h k n) := by rw [wp_s dd_46_0 rfl hs]; rfl
theorem dd_46_1 : decode (mB 46) 1 = .ok (.getfield 69, 3) := by decide +kernel
theorem u_46_1 {G : aG} {S : Nat → Bool} {f : Nat} {st : List Value} {ls : aL} {h : aH} {k n : Nat} {a : Nat} (hs : S 1 = false) : WP 46 G S (f + 1) 1 ls (.ref a :: st) h k n = (oV (fget h a 1 5) (WP 46 G S f) 4 ls st h k n) := by rw [wp_s dd_46_1 rfl hs]; rfl
theorem dd_46_4 : decode (mB 46) 4 = .ok (.bipush 16, 2) := by decide +kernel
theorem u_46_4 {G : aG} {S : Nat → Bool} {f : Nat} {st : List Value} {ls : aL} {h : aH} {k n : Nat} (hs : S 4 = false) : WP 46 G S (f + 1) 4 ls st h k n = (WP 46 G S f 6 ls (.int (nI 16) :: st) h k n) := by rw [wp_s dd_46_4 rfl hs]; rfl
theorem dd_46_6 : decode (mB 46) 6 = .ok (.if_icmp .lt 5, 3) := by decide +kernel
theorem u_46_6 {G : aG} {S : Nat → Bool} {f : Nat} {st : List Value} {ls : aL} {h : aH} {k n : Nat} {x y : Int32} (hs : S 6 = false) : WP 46 G S (f + 1) 6 ls (.int y :: .int x :: st) h k n = (if x < y then WP 46 G S f 11 ls st h k n else WP 46 G S f 9 ls st h k n) := by rw [wp_s dd_46_6 rfl hs]; exact br_ite (c := x < y)
theorem dd_46_9 : decode (mB 46) 9 = .ok (.iconst 0, 1) := by decide +kernel
theorem u_46_9 {G : aG} {S : Nat → Bool} {f : Nat} {st : List Value} {ls : aL} {h : aH} {k n : Nat} (hs : S 9 = false) : WP 46 G S (f + 1) 9 ls st h k n = (WP 46 G S f 10 ls (.int (nI 0) :: st) h k n) := by rw [wp_s dd_46_9 rfl hs]; rfl
theorem dd_46_10 : decode (mB 46) 10 = .ok (.ireturn, 1) := by decide +kernel
theorem u_46_10 {G : aG} {S : Nat → Bool} {f : Nat} {ls : aL} {h : aH} {k n : Nat} {x : Int32} (hs : S 10 = false) : WP 46 G S (f + 1) 10 ls [.int x] h k n = (cond (x == nI 0 || x == nI 1) (RET G (some (.int x)) h k n) False) := by rw [wp_s dd_46_10 rfl hs]; rfl
theorem dd_46_11 : decode (mB 46) 11 = .ok (.aload_n 0, 1) := by decide +kernel
theorem u_46_11 {G : aG} {S : Nat → Bool} {f : Nat} {st : List Value} {ls : aL} {h : aH} {k n : Nat} (hs : S 11 = false) : WP 46 G S (f + 1) 11 ls st h k n = (oA (lget ls 0) (WP 46 G S f) 12 ls st h k n) := by rw [wp_s dd_46_11 rfl hs]; rfl
theorem dd_46_12 : decode (mB 46) 12 = .ok (.dup, 1) := by decide +kernel
theorem u_46_12 {G : aG} {S : Nat → Bool} {f : Nat} {st : List Value} {ls : aL} {h : aH} {k n : Nat} {v : Value} (hs : S 12 = false) : WP 46 G S (f + 1) 12 ls (v :: st) h k n = (cond (cat1 v) (WP 46 G S f 13 ls (v :: v :: st) h k n) False) := by rw [wp_s dd_46_12 rfl hs]; rfl
theorem dd_46_13 : decode (mB 46) 13 = .ok (.getfield 72, 3) := by decide +kernel
theorem u_46_13 {G : aG} {S : Nat → Bool} {f : Nat} {st : List Value} {ls : aL} {h : aH} {k n : Nat} {a : Nat} (hs : S 13 = false) : WP 46 G S (f + 1) 13 ls (.ref a :: st) h k n = (oV (fget h a 1 6) (WP 46 G S f) 16 ls st h k n) := by rw [wp_s dd_46_13 rfl hs]; rfl
theorem dd_46_16 : decode (mB 46) 16 = .ok (.iload_n 1, 1) := by decide +kernel
theorem u_46_16 {G : aG} {S : Nat → Bool} {f : Nat} {st : List Value} {ls : aL} {h : aH} {k n : Nat} (hs : S 16 = false) : WP 46 G S (f + 1) 16 ls st h k n = (oI (lget ls 1) (WP 46 G S f) 17 ls st h k n) := by rw [wp_s dd_46_16 rfl hs]; rfl
theorem dd_46_17 : decode (mB 46) 17 = .ok (.i2l, 1) := by decide +kernel
theorem u_46_17 {G : aG} {S : Nat → Bool} {f : Nat} {st : List Value} {ls : aL} {h : aH} {k n : Nat} {x : Int32} (hs : S 17 = false) : WP 46 G S (f + 1) 17 ls (.int x :: st) h k n = (WP 46 G S f 18 ls (.long x.toInt64 :: st) h k n) := by rw [wp_s dd_46_17 rfl hs]; rfl
theorem dd_46_18 : decode (mB 46) 18 = .ok (.iconst 4, 1) := by decide +kernel
theorem u_46_18 {G : aG} {S : Nat → Bool} {f : Nat} {st : List Value} {ls : aL} {h : aH} {k n : Nat} (hs : S 18 = false) : WP 46 G S (f + 1) 18 ls st h k n = (WP 46 G S f 19 ls (.int (nI 4) :: st) h k n) := by rw [wp_s dd_46_18 rfl hs]; rfl
theorem dd_46_19 : decode (mB 46) 19 = .ok (.aload_n 0, 1) := by decide +kernel
theorem u_46_19 {G : aG} {S : Nat → Bool} {f : Nat} {st : List Value} {ls : aL} {h : aH} {k n : Nat} (hs : S 19 = false) : WP 46 G S (f + 1) 19 ls st h k n = (oA (lget ls 0) (WP 46 G S f) 20 ls st h k n) := by rw [wp_s dd_46_19 rfl hs]; rfl
theorem dd_46_20 : decode (mB 46) 20 = .ok (.getfield 69, 3) := by decide +kernel
theorem u_46_20 {G : aG} {S : Nat → Bool} {f : Nat} {st : List Value} {ls : aL} {h : aH} {k n : Nat} {a : Nat} (hs : S 20 = false) : WP 46 G S (f + 1) 20 ls (.ref a :: st) h k n = (oV (fget h a 1 5) (WP 46 G S f) 23 ls st h k n) := by rw [wp_s dd_46_20 rfl hs]; rfl
theorem dd_46_23 : decode (mB 46) 23 = .ok (.imul, 1) := by decide +kernel
theorem u_46_23 {G : aG} {S : Nat → Bool} {f : Nat} {st : List Value} {ls : aL} {h : aH} {k n : Nat} {x y : Int32} (hs : S 23 = false) : WP 46 G S (f + 1) 23 ls (.int y :: .int x :: st) h k n = (WP 46 G S f 24 ls (.int (x * y) :: st) h k n) := by rw [wp_s dd_46_23 rfl hs]; rfl
theorem dd_46_24 : decode (mB 46) 24 = .ok (.lshl, 1) := by decide +kernel
theorem u_46_24 {G : aG} {S : Nat → Bool} {f : Nat} {st : List Value} {ls : aL} {h : aH} {k n : Nat} {x : Int64} {y : Int32} (hs : S 24 = false) : WP 46 G S (f + 1) 24 ls (.int y :: .long x :: st) h k n = (WP 46 G S f 25 ls (.long (x <<< (y.toInt64 &&& 63)) :: st) h k n) := by rw [wp_s dd_46_24 rfl hs]; rfl
theorem dd_46_25 : decode (mB 46) 25 = .ok (.lor, 1) := by decide +kernel
theorem u_46_25 {G : aG} {S : Nat → Bool} {f : Nat} {st : List Value} {ls : aL} {h : aH} {k n : Nat} {x y : Int64} (hs : S 25 = false) : WP 46 G S (f + 1) 25 ls (.long y :: .long x :: st) h k n = (WP 46 G S f 26 ls (.long (x ||| y) :: st) h k n) := by rw [wp_s dd_46_25 rfl hs]; rfl
theorem dd_46_26 : decode (mB 46) 26 = .ok (.putfield 72, 3) := by decide +kernel
theorem u_46_26 {G : aG} {S : Nat → Bool} {f : Nat} {st : List Value} {ls : aL} {h : aH} {k n : Nat} {a : Nat} {x : Int64} (hs : S 26 = false) : WP 46 G S (f + 1) 26 ls (.long x :: .ref a :: st) h k n = (oH (fput h a 1 6 (.long x)) (WP 46 G S f) 29 ls st k n) := by rw [wp_s dd_46_26 rfl hs]; rfl
theorem dd_46_29 : decode (mB 46) 29 = .ok (.aload_n 0, 1) := by decide +kernel
theorem u_46_29 {G : aG} {S : Nat → Bool} {f : Nat} {st : List Value} {ls : aL} {h : aH} {k n : Nat} (hs : S 29 = false) : WP 46 G S (f + 1) 29 ls st h k n = (oA (lget ls 0) (WP 46 G S f) 30 ls st h k n) := by rw [wp_s dd_46_29 rfl hs]; rfl
theorem dd_46_30 : decode (mB 46) 30 = .ok (.dup, 1) := by decide +kernel
theorem u_46_30 {G : aG} {S : Nat → Bool} {f : Nat} {st : List Value} {ls : aL} {h : aH} {k n : Nat} {v : Value} (hs : S 30 = false) : WP 46 G S (f + 1) 30 ls (v :: st) h k n = (cond (cat1 v) (WP 46 G S f 31 ls (v :: v :: st) h k n) False) := by rw [wp_s dd_46_30 rfl hs]; rfl
theorem dd_46_31 : decode (mB 46) 31 = .ok (.getfield 69, 3) := by decide +kernel
theorem u_46_31 {G : aG} {S : Nat → Bool} {f : Nat} {st : List Value} {ls : aL} {h : aH} {k n : Nat} {a : Nat} (hs : S 31 = false) : WP 46 G S (f + 1) 31 ls (.ref a :: st) h k n = (oV (fget h a 1 5) (WP 46 G S f) 34 ls st h k n) := by rw [wp_s dd_46_31 rfl hs]; rfl
theorem dd_46_34 : decode (mB 46) 34 = .ok (.iconst 1, 1) := by decide +kernel
theorem u_46_34 {G : aG} {S : Nat → Bool} {f : Nat} {st : List Value} {ls : aL} {h : aH} {k n : Nat} (hs : S 34 = false) : WP 46 G S (f + 1) 34 ls st h k n = (WP 46 G S f 35 ls (.int (nI 1) :: st) h k n) := by rw [wp_s dd_46_34 rfl hs]; rfl
theorem dd_46_35 : decode (mB 46) 35 = .ok (.iadd, 1) := by decide +kernel
theorem u_46_35 {G : aG} {S : Nat → Bool} {f : Nat} {st : List Value} {ls : aL} {h : aH} {k n : Nat} {x y : Int32} (hs : S 35 = false) : WP 46 G S (f + 1) 35 ls (.int y :: .int x :: st) h k n = (WP 46 G S f 36 ls (.int (x + y) :: st) h k n) := by rw [wp_s dd_46_35 rfl hs]; rfl
theorem dd_46_36 : decode (mB 46) 36 = .ok (.putfield 69, 3) := by decide +kernel
theorem u_46_36 {G : aG} {S : Nat → Bool} {f : Nat} {st : List Value} {ls : aL} {h : aH} {k n : Nat} {a : Nat} {x : Int32} (hs : S 36 = false) : WP 46 G S (f + 1) 36 ls (.int x :: .ref a :: st) h k n = (oH (fput h a 1 5 (.int x)) (WP 46 G S f) 39 ls st k n) := by rw [wp_s dd_46_36 rfl hs]; rfl
theorem dd_46_39 : decode (mB 46) 39 = .ok (.iconst 1, 1) := by decide +kernel
theorem u_46_39 {G : aG} {S : Nat → Bool} {f : Nat} {st : List Value} {ls : aL} {h : aH} {k n : Nat} (hs : S 39 = false) : WP 46 G S (f + 1) 39 ls st h k n = (WP 46 G S f 40 ls (.int (nI 1) :: st) h k n) := by rw [wp_s dd_46_39 rfl hs]; rfl
theorem dd_46_40 : decode (mB 46) 40 = .ok (.ireturn, 1) := by decide +kernel
theorem u_46_40 {G : aG} {S : Nat → Bool} {f : Nat} {ls : aL} {h : aH} {k n : Nat} {x : Int32} (hs : S 40 = false) : WP 46 G S (f + 1) 40 ls [.int x] h k n = (cond (x == nI 0 || x == nI 1) (RET G (some (.int x)) h k n) False) := by rw [wp_s dd_46_40 rfl hs]; rfl
theorem dd_47_0 : decode (mB 47) 0 = .ok (.iload_n 1, 1) := by decide +kernel
theorem u_47_0 {G : aG} {S : Nat → Bool} {f : Nat} {st : List Value} {ls : aL} {h : aH} {k n : Nat} (hs : S 0 = false) : WP 47 G S (f + 1) 0 ls st h k n = (oI (lget ls 1) (WP 47 G S f) 1 ls st h k n) := by rw [wp_s dd_47_0 rfl hs]; rfl
theorem dd_47_1 : decode (mB 47) 1 = .ok (.lookupswitch 247 #[(38, 163), (41, 207), (42, 97), (43, 119), (44, 141), (59, 227), (63, 75), (124, 185)], 75) := by decide +kernel
theorem u_47_1 {G : aG} {S : Nat → Bool} {f : Nat} {st : List Value} {ls : aL} {h : aH} {k n : Nat} {x : Int32} (hs : S 1 = false) : WP 47 G S (f + 1) 1 ls (.int x :: st) h k n = (if x = nI 38 then WP 47 G S f 164 ls st h k n else (if x = nI 41 then WP 47 G S f 208 ls st h k n else (if x = nI 42 then WP 47 G S f 98 ls st h k n else (if x = nI 43 then WP 47 G S f 120 ls st h k n else (if x = nI 44 then WP 47 G S f 142 ls st h k n else (if x = nI 59 then WP 47 G S f 228 ls st h k n else (if x = nI 63 then WP 47 G S f 76 ls st h k n else (if x = nI 124 then WP 47 G S f 186 ls st h k n else (WP 47 G S f 248 ls st h k n))))))))) := by rw [wp_s dd_47_1 rfl hs]; show WP 47 G S f (tgtL 1 [(38, 163), (41, 207), (42, 97), (43, 119), (44, 141), (59, 227), (63, 75), (124, 185)] 247 x) ls st h k n = _; refine (tl_ite (K := fun q => WP 47 G S f q ls st h k n) (nI 38) rfl).trans (if_cg ?_); refine (tl_ite (K := fun q => WP 47 G S f q ls st h k n) (nI 41) rfl).trans (if_cg ?_); refine (tl_ite (K := fun q => WP 47 G S f q ls st h k n) (nI 42) rfl).trans (if_cg ?_); refine (tl_ite (K := fun q => WP 47 G S f q ls st h k n) (nI 43) rfl).trans (if_cg ?_); refine (tl_ite (K := fun q => WP 47 G S f q ls st h k n) (nI 44) rfl).trans (if_cg ?_); refine (tl_ite (K := fun q => WP 47 G S f q ls st h k n) (nI 59) rfl).trans (if_cg ?_); refine (tl_ite (K := fun q => WP 47 G S f q ls st h k n) (nI 63) rfl).trans (if_cg ?_); refine (tl_ite (K := fun q => WP 47 G S f q ls st h k n) (nI 124) rfl).trans (if_cg ?_); exact tl_nil (K := fun q => WP 47 G S f q ls st h k n)
theorem dd_47_76 : decode (mB 47) 76 = .ok (.aload_n 0, 1) := by decide +kernel
theorem u_47_76 {G : aG} {S : Nat → Bool} {f : Nat} {st : List Value} {ls : aL} {h : aH} {k n : Nat} (hs : S 76 = false) : WP 47 G S (f + 1) 76 ls st h k n = (oA (lget ls 0) (WP 47 G S f) 77 ls st h k n) := by rw [wp_s dd_47_76 rfl hs]; rfl
theorem dd_47_77 : decode (mB 47) 77 = .ok (.invokevirtual 79, 3) := by decide +kernel
theorem u_47_77 {G : aG} {S : Nat → Bool} {f : Nat} {st : List Value} {ls : aL} {h : aH} {k n : Nat} {b : Nat} (hs : S 77 = false) : WP 47 G S (f + 1) 77 ls (.ref b :: st) h k n = (rcv (hget h b) 1 ∧ CAL G (WP 47 G S f) 45 [.ref b] 80 ls st h k n) := by rw [wp_s dd_47_77 rfl hs]; rfl
theorem dd_47_80 : decode (mB 47) 80 = .ok (.ifCond .eq 16, 3) := by decide +kernel
theorem u_47_80 {G : aG} {S : Nat → Bool} {f : Nat} {st : List Value} {ls : aL} {h : aH} {k n : Nat} {x : Int32} (hs : S 80 = false) : WP 47 G S (f + 1) 80 ls (.int x :: st) h k n = (if x = nI 0 then WP 47 G S f 96 ls st h k n else WP 47 G S f 83 ls st h k n) := by rw [wp_s dd_47_80 rfl hs]; exact br_ite (c := x = nI 0)
theorem dd_47_83 : decode (mB 47) 83 = .ok (.aload_n 0, 1) := by decide +kernel
theorem u_47_83 {G : aG} {S : Nat → Bool} {f : Nat} {st : List Value} {ls : aL} {h : aH} {k n : Nat} (hs : S 83 = false) : WP 47 G S (f + 1) 83 ls st h k n = (oA (lget ls 0) (WP 47 G S f) 84 ls st h k n) := by rw [wp_s dd_47_83 rfl hs]; rfl
theorem dd_47_84 : decode (mB 47) 84 = .ok (.bipush 13, 2) := by decide +kernel
theorem u_47_84 {G : aG} {S : Nat → Bool} {f : Nat} {st : List Value} {ls : aL} {h : aH} {k n : Nat} (hs : S 84 = false) : WP 47 G S (f + 1) 84 ls st h k n = (WP 47 G S f 86 ls (.int (nI 13) :: st) h k n) := by rw [wp_s dd_47_84 rfl hs]; rfl
theorem dd_47_86 : decode (mB 47) 86 = .ok (.invokevirtual 83, 3) := by decide +kernel
theorem u_47_86 {G : aG} {S : Nat → Bool} {f : Nat} {st : List Value} {ls : aL} {h : aH} {k n : Nat} {v1 : Value} {b : Nat} (hs : S 86 = false) : WP 47 G S (f + 1) 86 ls (v1 :: .ref b :: st) h k n = (rcv (hget h b) 1 ∧ CAL G (WP 47 G S f) 46 [.ref b, v1] 89 ls st h k n) := by rw [wp_s dd_47_86 rfl hs]; rfl
theorem dd_47_89 : decode (mB 47) 89 = .ok (.ifCond .eq 7, 3) := by decide +kernel
theorem u_47_89 {G : aG} {S : Nat → Bool} {f : Nat} {st : List Value} {ls : aL} {h : aH} {k n : Nat} {x : Int32} (hs : S 89 = false) : WP 47 G S (f + 1) 89 ls (.int x :: st) h k n = (if x = nI 0 then WP 47 G S f 96 ls st h k n else WP 47 G S f 92 ls st h k n) := by rw [wp_s dd_47_89 rfl hs]; exact br_ite (c := x = nI 0)
theorem dd_47_92 : decode (mB 47) 92 = .ok (.iconst 1, 1) := by decide +kernel
theorem u_47_92 {G : aG} {S : Nat → Bool} {f : Nat} {st : List Value} {ls : aL} {h : aH} {k n : Nat} (hs : S 92 = false) : WP 47 G S (f + 1) 92 ls st h k n = (WP 47 G S f 93 ls (.int (nI 1) :: st) h k n) := by rw [wp_s dd_47_92 rfl hs]; rfl
theorem dd_47_93 : decode (mB 47) 93 = .ok (.goto 4, 3) := by decide +kernel
theorem u_47_93 {G : aG} {S : Nat → Bool} {f : Nat} {st : List Value} {ls : aL} {h : aH} {k n : Nat} (hs : S 93 = false) : WP 47 G S (f + 1) 93 ls st h k n = (WP 47 G S f 97 ls st h k n) := by rw [wp_s dd_47_93 rfl hs]; rfl
theorem dd_47_96 : decode (mB 47) 96 = .ok (.iconst 0, 1) := by decide +kernel
theorem u_47_96 {G : aG} {S : Nat → Bool} {f : Nat} {st : List Value} {ls : aL} {h : aH} {k n : Nat} (hs : S 96 = false) : WP 47 G S (f + 1) 96 ls st h k n = (WP 47 G S f 97 ls (.int (nI 0) :: st) h k n) := by rw [wp_s dd_47_96 rfl hs]; rfl
theorem dd_47_97 : decode (mB 47) 97 = .ok (.ireturn, 1) := by decide +kernel
theorem u_47_97 {G : aG} {S : Nat → Bool} {f : Nat} {ls : aL} {h : aH} {k n : Nat} {x : Int32} (hs : S 97 = false) : WP 47 G S (f + 1) 97 ls [.int x] h k n = (cond (x == nI 0 || x == nI 1) (RET G (some (.int x)) h k n) False) := by rw [wp_s dd_47_97 rfl hs]; rfl
theorem dd_47_98 : decode (mB 47) 98 = .ok (.aload_n 0, 1) := by decide +kernel
theorem u_47_98 {G : aG} {S : Nat → Bool} {f : Nat} {st : List Value} {ls : aL} {h : aH} {k n : Nat} (hs : S 98 = false) : WP 47 G S (f + 1) 98 ls st h k n = (oA (lget ls 0) (WP 47 G S f) 99 ls st h k n) := by rw [wp_s dd_47_98 rfl hs]; rfl
theorem dd_47_99 : decode (mB 47) 99 = .ok (.invokevirtual 79, 3) := by decide +kernel
theorem u_47_99 {G : aG} {S : Nat → Bool} {f : Nat} {st : List Value} {ls : aL} {h : aH} {k n : Nat} {b : Nat} (hs : S 99 = false) : WP 47 G S (f + 1) 99 ls (.ref b :: st) h k n = (rcv (hget h b) 1 ∧ CAL G (WP 47 G S f) 45 [.ref b] 102 ls st h k n) := by rw [wp_s dd_47_99 rfl hs]; rfl
theorem dd_47_102 : decode (mB 47) 102 = .ok (.ifCond .eq 16, 3) := by decide +kernel
theorem u_47_102 {G : aG} {S : Nat → Bool} {f : Nat} {st : List Value} {ls : aL} {h : aH} {k n : Nat} {x : Int32} (hs : S 102 = false) : WP 47 G S (f + 1) 102 ls (.int x :: st) h k n = (if x = nI 0 then WP 47 G S f 118 ls st h k n else WP 47 G S f 105 ls st h k n) := by rw [wp_s dd_47_102 rfl hs]; exact br_ite (c := x = nI 0)
theorem dd_47_105 : decode (mB 47) 105 = .ok (.aload_n 0, 1) := by decide +kernel
theorem u_47_105 {G : aG} {S : Nat → Bool} {f : Nat} {st : List Value} {ls : aL} {h : aH} {k n : Nat} (hs : S 105 = false) : WP 47 G S (f + 1) 105 ls st h k n = (oA (lget ls 0) (WP 47 G S f) 106 ls st h k n) := by rw [wp_s dd_47_105 rfl hs]; rfl
theorem dd_47_106 : decode (mB 47) 106 = .ok (.bipush 14, 2) := by decide +kernel
theorem u_47_106 {G : aG} {S : Nat → Bool} {f : Nat} {st : List Value} {ls : aL} {h : aH} {k n : Nat} (hs : S 106 = false) : WP 47 G S (f + 1) 106 ls st h k n = (WP 47 G S f 108 ls (.int (nI 14) :: st) h k n) := by rw [wp_s dd_47_106 rfl hs]; rfl
theorem dd_47_108 : decode (mB 47) 108 = .ok (.invokevirtual 83, 3) := by decide +kernel
theorem u_47_108 {G : aG} {S : Nat → Bool} {f : Nat} {st : List Value} {ls : aL} {h : aH} {k n : Nat} {v1 : Value} {b : Nat} (hs : S 108 = false) : WP 47 G S (f + 1) 108 ls (v1 :: .ref b :: st) h k n = (rcv (hget h b) 1 ∧ CAL G (WP 47 G S f) 46 [.ref b, v1] 111 ls st h k n) := by rw [wp_s dd_47_108 rfl hs]; rfl
theorem dd_47_111 : decode (mB 47) 111 = .ok (.ifCond .eq 7, 3) := by decide +kernel
theorem u_47_111 {G : aG} {S : Nat → Bool} {f : Nat} {st : List Value} {ls : aL} {h : aH} {k n : Nat} {x : Int32} (hs : S 111 = false) : WP 47 G S (f + 1) 111 ls (.int x :: st) h k n = (if x = nI 0 then WP 47 G S f 118 ls st h k n else WP 47 G S f 114 ls st h k n) := by rw [wp_s dd_47_111 rfl hs]; exact br_ite (c := x = nI 0)
theorem dd_47_114 : decode (mB 47) 114 = .ok (.iconst 1, 1) := by decide +kernel
theorem u_47_114 {G : aG} {S : Nat → Bool} {f : Nat} {st : List Value} {ls : aL} {h : aH} {k n : Nat} (hs : S 114 = false) : WP 47 G S (f + 1) 114 ls st h k n = (WP 47 G S f 115 ls (.int (nI 1) :: st) h k n) := by rw [wp_s dd_47_114 rfl hs]; rfl
theorem dd_47_115 : decode (mB 47) 115 = .ok (.goto 4, 3) := by decide +kernel
theorem u_47_115 {G : aG} {S : Nat → Bool} {f : Nat} {st : List Value} {ls : aL} {h : aH} {k n : Nat} (hs : S 115 = false) : WP 47 G S (f + 1) 115 ls st h k n = (WP 47 G S f 119 ls st h k n) := by rw [wp_s dd_47_115 rfl hs]; rfl
theorem dd_47_118 : decode (mB 47) 118 = .ok (.iconst 0, 1) := by decide +kernel
theorem u_47_118 {G : aG} {S : Nat → Bool} {f : Nat} {st : List Value} {ls : aL} {h : aH} {k n : Nat} (hs : S 118 = false) : WP 47 G S (f + 1) 118 ls st h k n = (WP 47 G S f 119 ls (.int (nI 0) :: st) h k n) := by rw [wp_s dd_47_118 rfl hs]; rfl
theorem dd_47_119 : decode (mB 47) 119 = .ok (.ireturn, 1) := by decide +kernel
theorem u_47_119 {G : aG} {S : Nat → Bool} {f : Nat} {ls : aL} {h : aH} {k n : Nat} {x : Int32} (hs : S 119 = false) : WP 47 G S (f + 1) 119 ls [.int x] h k n = (cond (x == nI 0 || x == nI 1) (RET G (some (.int x)) h k n) False) := by rw [wp_s dd_47_119 rfl hs]; rfl
theorem dd_47_120 : decode (mB 47) 120 = .ok (.aload_n 0, 1) := by decide +kernel
theorem u_47_120 {G : aG} {S : Nat → Bool} {f : Nat} {st : List Value} {ls : aL} {h : aH} {k n : Nat} (hs : S 120 = false) : WP 47 G S (f + 1) 120 ls st h k n = (oA (lget ls 0) (WP 47 G S f) 121 ls st h k n) := by rw [wp_s dd_47_120 rfl hs]; rfl
theorem dd_47_121 : decode (mB 47) 121 = .ok (.invokevirtual 79, 3) := by decide +kernel
theorem u_47_121 {G : aG} {S : Nat → Bool} {f : Nat} {st : List Value} {ls : aL} {h : aH} {k n : Nat} {b : Nat} (hs : S 121 = false) : WP 47 G S (f + 1) 121 ls (.ref b :: st) h k n = (rcv (hget h b) 1 ∧ CAL G (WP 47 G S f) 45 [.ref b] 124 ls st h k n) := by rw [wp_s dd_47_121 rfl hs]; rfl
theorem dd_47_124 : decode (mB 47) 124 = .ok (.ifCond .eq 16, 3) := by decide +kernel
theorem u_47_124 {G : aG} {S : Nat → Bool} {f : Nat} {st : List Value} {ls : aL} {h : aH} {k n : Nat} {x : Int32} (hs : S 124 = false) : WP 47 G S (f + 1) 124 ls (.int x :: st) h k n = (if x = nI 0 then WP 47 G S f 140 ls st h k n else WP 47 G S f 127 ls st h k n) := by rw [wp_s dd_47_124 rfl hs]; exact br_ite (c := x = nI 0)
theorem dd_47_127 : decode (mB 47) 127 = .ok (.aload_n 0, 1) := by decide +kernel
theorem u_47_127 {G : aG} {S : Nat → Bool} {f : Nat} {st : List Value} {ls : aL} {h : aH} {k n : Nat} (hs : S 127 = false) : WP 47 G S (f + 1) 127 ls st h k n = (oA (lget ls 0) (WP 47 G S f) 128 ls st h k n) := by rw [wp_s dd_47_127 rfl hs]; rfl
theorem dd_47_128 : decode (mB 47) 128 = .ok (.bipush 15, 2) := by decide +kernel
theorem u_47_128 {G : aG} {S : Nat → Bool} {f : Nat} {st : List Value} {ls : aL} {h : aH} {k n : Nat} (hs : S 128 = false) : WP 47 G S (f + 1) 128 ls st h k n = (WP 47 G S f 130 ls (.int (nI 15) :: st) h k n) := by rw [wp_s dd_47_128 rfl hs]; rfl
theorem dd_47_130 : decode (mB 47) 130 = .ok (.invokevirtual 83, 3) := by decide +kernel
theorem u_47_130 {G : aG} {S : Nat → Bool} {f : Nat} {st : List Value} {ls : aL} {h : aH} {k n : Nat} {v1 : Value} {b : Nat} (hs : S 130 = false) : WP 47 G S (f + 1) 130 ls (v1 :: .ref b :: st) h k n = (rcv (hget h b) 1 ∧ CAL G (WP 47 G S f) 46 [.ref b, v1] 133 ls st h k n) := by rw [wp_s dd_47_130 rfl hs]; rfl
theorem dd_47_133 : decode (mB 47) 133 = .ok (.ifCond .eq 7, 3) := by decide +kernel
theorem u_47_133 {G : aG} {S : Nat → Bool} {f : Nat} {st : List Value} {ls : aL} {h : aH} {k n : Nat} {x : Int32} (hs : S 133 = false) : WP 47 G S (f + 1) 133 ls (.int x :: st) h k n = (if x = nI 0 then WP 47 G S f 140 ls st h k n else WP 47 G S f 136 ls st h k n) := by rw [wp_s dd_47_133 rfl hs]; exact br_ite (c := x = nI 0)
theorem dd_47_136 : decode (mB 47) 136 = .ok (.iconst 1, 1) := by decide +kernel
theorem u_47_136 {G : aG} {S : Nat → Bool} {f : Nat} {st : List Value} {ls : aL} {h : aH} {k n : Nat} (hs : S 136 = false) : WP 47 G S (f + 1) 136 ls st h k n = (WP 47 G S f 137 ls (.int (nI 1) :: st) h k n) := by rw [wp_s dd_47_136 rfl hs]; rfl
theorem dd_47_137 : decode (mB 47) 137 = .ok (.goto 4, 3) := by decide +kernel
theorem u_47_137 {G : aG} {S : Nat → Bool} {f : Nat} {st : List Value} {ls : aL} {h : aH} {k n : Nat} (hs : S 137 = false) : WP 47 G S (f + 1) 137 ls st h k n = (WP 47 G S f 141 ls st h k n) := by rw [wp_s dd_47_137 rfl hs]; rfl
theorem dd_47_140 : decode (mB 47) 140 = .ok (.iconst 0, 1) := by decide +kernel
theorem u_47_140 {G : aG} {S : Nat → Bool} {f : Nat} {st : List Value} {ls : aL} {h : aH} {k n : Nat} (hs : S 140 = false) : WP 47 G S (f + 1) 140 ls st h k n = (WP 47 G S f 141 ls (.int (nI 0) :: st) h k n) := by rw [wp_s dd_47_140 rfl hs]; rfl
theorem dd_47_141 : decode (mB 47) 141 = .ok (.ireturn, 1) := by decide +kernel
theorem u_47_141 {G : aG} {S : Nat → Bool} {f : Nat} {ls : aL} {h : aH} {k n : Nat} {x : Int32} (hs : S 141 = false) : WP 47 G S (f + 1) 141 ls [.int x] h k n = (cond (x == nI 0 || x == nI 1) (RET G (some (.int x)) h k n) False) := by rw [wp_s dd_47_141 rfl hs]; rfl
theorem dd_47_142 : decode (mB 47) 142 = .ok (.aload_n 0, 1) := by decide +kernel
theorem u_47_142 {G : aG} {S : Nat → Bool} {f : Nat} {st : List Value} {ls : aL} {h : aH} {k n : Nat} (hs : S 142 = false) : WP 47 G S (f + 1) 142 ls st h k n = (oA (lget ls 0) (WP 47 G S f) 143 ls st h k n) := by rw [wp_s dd_47_142 rfl hs]; rfl
theorem dd_47_143 : decode (mB 47) 143 = .ok (.invokevirtual 79, 3) := by decide +kernel
theorem u_47_143 {G : aG} {S : Nat → Bool} {f : Nat} {st : List Value} {ls : aL} {h : aH} {k n : Nat} {b : Nat} (hs : S 143 = false) : WP 47 G S (f + 1) 143 ls (.ref b :: st) h k n = (rcv (hget h b) 1 ∧ CAL G (WP 47 G S f) 45 [.ref b] 146 ls st h k n) := by rw [wp_s dd_47_143 rfl hs]; rfl
theorem dd_47_146 : decode (mB 47) 146 = .ok (.ifCond .eq 16, 3) := by decide +kernel
theorem u_47_146 {G : aG} {S : Nat → Bool} {f : Nat} {st : List Value} {ls : aL} {h : aH} {k n : Nat} {x : Int32} (hs : S 146 = false) : WP 47 G S (f + 1) 146 ls (.int x :: st) h k n = (if x = nI 0 then WP 47 G S f 162 ls st h k n else WP 47 G S f 149 ls st h k n) := by rw [wp_s dd_47_146 rfl hs]; exact br_ite (c := x = nI 0)
theorem dd_47_149 : decode (mB 47) 149 = .ok (.aload_n 0, 1) := by decide +kernel
theorem u_47_149 {G : aG} {S : Nat → Bool} {f : Nat} {st : List Value} {ls : aL} {h : aH} {k n : Nat} (hs : S 149 = false) : WP 47 G S (f + 1) 149 ls st h k n = (oA (lget ls 0) (WP 47 G S f) 150 ls st h k n) := by rw [wp_s dd_47_149 rfl hs]; rfl
theorem dd_47_150 : decode (mB 47) 150 = .ok (.bipush 12, 2) := by decide +kernel
theorem u_47_150 {G : aG} {S : Nat → Bool} {f : Nat} {st : List Value} {ls : aL} {h : aH} {k n : Nat} (hs : S 150 = false) : WP 47 G S (f + 1) 150 ls st h k n = (WP 47 G S f 152 ls (.int (nI 12) :: st) h k n) := by rw [wp_s dd_47_150 rfl hs]; rfl
theorem dd_47_152 : decode (mB 47) 152 = .ok (.invokevirtual 86, 3) := by decide +kernel
theorem u_47_152 {G : aG} {S : Nat → Bool} {f : Nat} {st : List Value} {ls : aL} {h : aH} {k n : Nat} {v1 : Value} {b : Nat} (hs : S 152 = false) : WP 47 G S (f + 1) 152 ls (v1 :: .ref b :: st) h k n = (rcv (hget h b) 1 ∧ CAL G (WP 47 G S f) 48 [.ref b, v1] 155 ls st h k n) := by rw [wp_s dd_47_152 rfl hs]; rfl
theorem dd_47_155 : decode (mB 47) 155 = .ok (.ifCond .eq 7, 3) := by decide +kernel
theorem u_47_155 {G : aG} {S : Nat → Bool} {f : Nat} {st : List Value} {ls : aL} {h : aH} {k n : Nat} {x : Int32} (hs : S 155 = false) : WP 47 G S (f + 1) 155 ls (.int x :: st) h k n = (if x = nI 0 then WP 47 G S f 162 ls st h k n else WP 47 G S f 158 ls st h k n) := by rw [wp_s dd_47_155 rfl hs]; exact br_ite (c := x = nI 0)
theorem dd_47_158 : decode (mB 47) 158 = .ok (.iconst 1, 1) := by decide +kernel
theorem u_47_158 {G : aG} {S : Nat → Bool} {f : Nat} {st : List Value} {ls : aL} {h : aH} {k n : Nat} (hs : S 158 = false) : WP 47 G S (f + 1) 158 ls st h k n = (WP 47 G S f 159 ls (.int (nI 1) :: st) h k n) := by rw [wp_s dd_47_158 rfl hs]; rfl
theorem dd_47_159 : decode (mB 47) 159 = .ok (.goto 4, 3) := by decide +kernel
theorem u_47_159 {G : aG} {S : Nat → Bool} {f : Nat} {st : List Value} {ls : aL} {h : aH} {k n : Nat} (hs : S 159 = false) : WP 47 G S (f + 1) 159 ls st h k n = (WP 47 G S f 163 ls st h k n) := by rw [wp_s dd_47_159 rfl hs]; rfl
theorem dd_47_162 : decode (mB 47) 162 = .ok (.iconst 0, 1) := by decide +kernel
theorem u_47_162 {G : aG} {S : Nat → Bool} {f : Nat} {st : List Value} {ls : aL} {h : aH} {k n : Nat} (hs : S 162 = false) : WP 47 G S (f + 1) 162 ls st h k n = (WP 47 G S f 163 ls (.int (nI 0) :: st) h k n) := by rw [wp_s dd_47_162 rfl hs]; rfl
theorem dd_47_163 : decode (mB 47) 163 = .ok (.ireturn, 1) := by decide +kernel
theorem u_47_163 {G : aG} {S : Nat → Bool} {f : Nat} {ls : aL} {h : aH} {k n : Nat} {x : Int32} (hs : S 163 = false) : WP 47 G S (f + 1) 163 ls [.int x] h k n = (cond (x == nI 0 || x == nI 1) (RET G (some (.int x)) h k n) False) := by rw [wp_s dd_47_163 rfl hs]; rfl
theorem dd_47_164 : decode (mB 47) 164 = .ok (.aload_n 0, 1) := by decide +kernel
theorem u_47_164 {G : aG} {S : Nat → Bool} {f : Nat} {st : List Value} {ls : aL} {h : aH} {k n : Nat} (hs : S 164 = false) : WP 47 G S (f + 1) 164 ls st h k n = (oA (lget ls 0) (WP 47 G S f) 165 ls st h k n) := by rw [wp_s dd_47_164 rfl hs]; rfl
theorem dd_47_165 : decode (mB 47) 165 = .ok (.invokevirtual 79, 3) := by decide +kernel
theorem u_47_165 {G : aG} {S : Nat → Bool} {f : Nat} {st : List Value} {ls : aL} {h : aH} {k n : Nat} {b : Nat} (hs : S 165 = false) : WP 47 G S (f + 1) 165 ls (.ref b :: st) h k n = (rcv (hget h b) 1 ∧ CAL G (WP 47 G S f) 45 [.ref b] 168 ls st h k n) := by rw [wp_s dd_47_165 rfl hs]; rfl
theorem dd_47_168 : decode (mB 47) 168 = .ok (.ifCond .eq 16, 3) := by decide +kernel
theorem u_47_168 {G : aG} {S : Nat → Bool} {f : Nat} {st : List Value} {ls : aL} {h : aH} {k n : Nat} {x : Int32} (hs : S 168 = false) : WP 47 G S (f + 1) 168 ls (.int x :: st) h k n = (if x = nI 0 then WP 47 G S f 184 ls st h k n else WP 47 G S f 171 ls st h k n) := by rw [wp_s dd_47_168 rfl hs]; exact br_ite (c := x = nI 0)
theorem dd_47_171 : decode (mB 47) 171 = .ok (.aload_n 0, 1) := by decide +kernel
theorem u_47_171 {G : aG} {S : Nat → Bool} {f : Nat} {st : List Value} {ls : aL} {h : aH} {k n : Nat} (hs : S 171 = false) : WP 47 G S (f + 1) 171 ls st h k n = (oA (lget ls 0) (WP 47 G S f) 172 ls st h k n) := by rw [wp_s dd_47_171 rfl hs]; rfl
theorem dd_47_172 : decode (mB 47) 172 = .ok (.bipush 11, 2) := by decide +kernel
theorem u_47_172 {G : aG} {S : Nat → Bool} {f : Nat} {st : List Value} {ls : aL} {h : aH} {k n : Nat} (hs : S 172 = false) : WP 47 G S (f + 1) 172 ls st h k n = (WP 47 G S f 174 ls (.int (nI 11) :: st) h k n) := by rw [wp_s dd_47_172 rfl hs]; rfl
theorem dd_47_174 : decode (mB 47) 174 = .ok (.invokevirtual 86, 3) := by decide +kernel
theorem u_47_174 {G : aG} {S : Nat → Bool} {f : Nat} {st : List Value} {ls : aL} {h : aH} {k n : Nat} {v1 : Value} {b : Nat} (hs : S 174 = false) : WP 47 G S (f + 1) 174 ls (v1 :: .ref b :: st) h k n = (rcv (hget h b) 1 ∧ CAL G (WP 47 G S f) 48 [.ref b, v1] 177 ls st h k n) := by rw [wp_s dd_47_174 rfl hs]; rfl
theorem dd_47_177 : decode (mB 47) 177 = .ok (.ifCond .eq 7, 3) := by decide +kernel
theorem u_47_177 {G : aG} {S : Nat → Bool} {f : Nat} {st : List Value} {ls : aL} {h : aH} {k n : Nat} {x : Int32} (hs : S 177 = false) : WP 47 G S (f + 1) 177 ls (.int x :: st) h k n = (if x = nI 0 then WP 47 G S f 184 ls st h k n else WP 47 G S f 180 ls st h k n) := by rw [wp_s dd_47_177 rfl hs]; exact br_ite (c := x = nI 0)
theorem dd_47_180 : decode (mB 47) 180 = .ok (.iconst 1, 1) := by decide +kernel
theorem u_47_180 {G : aG} {S : Nat → Bool} {f : Nat} {st : List Value} {ls : aL} {h : aH} {k n : Nat} (hs : S 180 = false) : WP 47 G S (f + 1) 180 ls st h k n = (WP 47 G S f 181 ls (.int (nI 1) :: st) h k n) := by rw [wp_s dd_47_180 rfl hs]; rfl
theorem dd_47_181 : decode (mB 47) 181 = .ok (.goto 4, 3) := by decide +kernel
theorem u_47_181 {G : aG} {S : Nat → Bool} {f : Nat} {st : List Value} {ls : aL} {h : aH} {k n : Nat} (hs : S 181 = false) : WP 47 G S (f + 1) 181 ls st h k n = (WP 47 G S f 185 ls st h k n) := by rw [wp_s dd_47_181 rfl hs]; rfl
theorem dd_47_184 : decode (mB 47) 184 = .ok (.iconst 0, 1) := by decide +kernel
theorem u_47_184 {G : aG} {S : Nat → Bool} {f : Nat} {st : List Value} {ls : aL} {h : aH} {k n : Nat} (hs : S 184 = false) : WP 47 G S (f + 1) 184 ls st h k n = (WP 47 G S f 185 ls (.int (nI 0) :: st) h k n) := by rw [wp_s dd_47_184 rfl hs]; rfl
theorem dd_47_185 : decode (mB 47) 185 = .ok (.ireturn, 1) := by decide +kernel
theorem u_47_185 {G : aG} {S : Nat → Bool} {f : Nat} {ls : aL} {h : aH} {k n : Nat} {x : Int32} (hs : S 185 = false) : WP 47 G S (f + 1) 185 ls [.int x] h k n = (cond (x == nI 0 || x == nI 1) (RET G (some (.int x)) h k n) False) := by rw [wp_s dd_47_185 rfl hs]; rfl
theorem dd_47_186 : decode (mB 47) 186 = .ok (.aload_n 0, 1) := by decide +kernel
theorem u_47_186 {G : aG} {S : Nat → Bool} {f : Nat} {st : List Value} {ls : aL} {h : aH} {k n : Nat} (hs : S 186 = false) : WP 47 G S (f + 1) 186 ls st h k n = (oA (lget ls 0) (WP 47 G S f) 187 ls st h k n) := by rw [wp_s dd_47_186 rfl hs]; rfl
theorem dd_47_187 : decode (mB 47) 187 = .ok (.invokevirtual 79, 3) := by decide +kernel
theorem u_47_187 {G : aG} {S : Nat → Bool} {f : Nat} {st : List Value} {ls : aL} {h : aH} {k n : Nat} {b : Nat} (hs : S 187 = false) : WP 47 G S (f + 1) 187 ls (.ref b :: st) h k n = (rcv (hget h b) 1 ∧ CAL G (WP 47 G S f) 45 [.ref b] 190 ls st h k n) := by rw [wp_s dd_47_187 rfl hs]; rfl
theorem dd_47_190 : decode (mB 47) 190 = .ok (.ifCond .eq 16, 3) := by decide +kernel
theorem u_47_190 {G : aG} {S : Nat → Bool} {f : Nat} {st : List Value} {ls : aL} {h : aH} {k n : Nat} {x : Int32} (hs : S 190 = false) : WP 47 G S (f + 1) 190 ls (.int x :: st) h k n = (if x = nI 0 then WP 47 G S f 206 ls st h k n else WP 47 G S f 193 ls st h k n) := by rw [wp_s dd_47_190 rfl hs]; exact br_ite (c := x = nI 0)
theorem dd_47_193 : decode (mB 47) 193 = .ok (.aload_n 0, 1) := by decide +kernel
theorem u_47_193 {G : aG} {S : Nat → Bool} {f : Nat} {st : List Value} {ls : aL} {h : aH} {k n : Nat} (hs : S 193 = false) : WP 47 G S (f + 1) 193 ls st h k n = (oA (lget ls 0) (WP 47 G S f) 194 ls st h k n) := by rw [wp_s dd_47_193 rfl hs]; rfl
theorem dd_47_194 : decode (mB 47) 194 = .ok (.bipush 10, 2) := by decide +kernel
theorem u_47_194 {G : aG} {S : Nat → Bool} {f : Nat} {st : List Value} {ls : aL} {h : aH} {k n : Nat} (hs : S 194 = false) : WP 47 G S (f + 1) 194 ls st h k n = (WP 47 G S f 196 ls (.int (nI 10) :: st) h k n) := by rw [wp_s dd_47_194 rfl hs]; rfl
theorem dd_47_196 : decode (mB 47) 196 = .ok (.invokevirtual 86, 3) := by decide +kernel
theorem u_47_196 {G : aG} {S : Nat → Bool} {f : Nat} {st : List Value} {ls : aL} {h : aH} {k n : Nat} {v1 : Value} {b : Nat} (hs : S 196 = false) : WP 47 G S (f + 1) 196 ls (v1 :: .ref b :: st) h k n = (rcv (hget h b) 1 ∧ CAL G (WP 47 G S f) 48 [.ref b, v1] 199 ls st h k n) := by rw [wp_s dd_47_196 rfl hs]; rfl
theorem dd_47_199 : decode (mB 47) 199 = .ok (.ifCond .eq 7, 3) := by decide +kernel
theorem u_47_199 {G : aG} {S : Nat → Bool} {f : Nat} {st : List Value} {ls : aL} {h : aH} {k n : Nat} {x : Int32} (hs : S 199 = false) : WP 47 G S (f + 1) 199 ls (.int x :: st) h k n = (if x = nI 0 then WP 47 G S f 206 ls st h k n else WP 47 G S f 202 ls st h k n) := by rw [wp_s dd_47_199 rfl hs]; exact br_ite (c := x = nI 0)
theorem dd_47_202 : decode (mB 47) 202 = .ok (.iconst 1, 1) := by decide +kernel
theorem u_47_202 {G : aG} {S : Nat → Bool} {f : Nat} {st : List Value} {ls : aL} {h : aH} {k n : Nat} (hs : S 202 = false) : WP 47 G S (f + 1) 202 ls st h k n = (WP 47 G S f 203 ls (.int (nI 1) :: st) h k n) := by rw [wp_s dd_47_202 rfl hs]; rfl
theorem dd_47_203 : decode (mB 47) 203 = .ok (.goto 4, 3) := by decide +kernel
theorem u_47_203 {G : aG} {S : Nat → Bool} {f : Nat} {st : List Value} {ls : aL} {h : aH} {k n : Nat} (hs : S 203 = false) : WP 47 G S (f + 1) 203 ls st h k n = (WP 47 G S f 207 ls st h k n) := by rw [wp_s dd_47_203 rfl hs]; rfl
theorem dd_47_206 : decode (mB 47) 206 = .ok (.iconst 0, 1) := by decide +kernel
theorem u_47_206 {G : aG} {S : Nat → Bool} {f : Nat} {st : List Value} {ls : aL} {h : aH} {k n : Nat} (hs : S 206 = false) : WP 47 G S (f + 1) 206 ls st h k n = (WP 47 G S f 207 ls (.int (nI 0) :: st) h k n) := by rw [wp_s dd_47_206 rfl hs]; rfl
theorem dd_47_207 : decode (mB 47) 207 = .ok (.ireturn, 1) := by decide +kernel
theorem u_47_207 {G : aG} {S : Nat → Bool} {f : Nat} {ls : aL} {h : aH} {k n : Nat} {x : Int32} (hs : S 207 = false) : WP 47 G S (f + 1) 207 ls [.int x] h k n = (cond (x == nI 0 || x == nI 1) (RET G (some (.int x)) h k n) False) := by rw [wp_s dd_47_207 rfl hs]; rfl
theorem dd_47_208 : decode (mB 47) 208 = .ok (.aload_n 0, 1) := by decide +kernel
theorem u_47_208 {G : aG} {S : Nat → Bool} {f : Nat} {st : List Value} {ls : aL} {h : aH} {k n : Nat} (hs : S 208 = false) : WP 47 G S (f + 1) 208 ls st h k n = (oA (lget ls 0) (WP 47 G S f) 209 ls st h k n) := by rw [wp_s dd_47_208 rfl hs]; rfl
theorem dd_47_209 : decode (mB 47) 209 = .ok (.getfield 63, 3) := by decide +kernel
theorem u_47_209 {G : aG} {S : Nat → Bool} {f : Nat} {st : List Value} {ls : aL} {h : aH} {k n : Nat} {a : Nat} (hs : S 209 = false) : WP 47 G S (f + 1) 209 ls (.ref a :: st) h k n = (oV (fget h a 1 3) (WP 47 G S f) 212 ls st h k n) := by rw [wp_s dd_47_209 rfl hs]; rfl
theorem dd_47_212 : decode (mB 47) 212 = .ok (.ifCond .le 14, 3) := by decide +kernel
theorem u_47_212 {G : aG} {S : Nat → Bool} {f : Nat} {st : List Value} {ls : aL} {h : aH} {k n : Nat} {x : Int32} (hs : S 212 = false) : WP 47 G S (f + 1) 212 ls (.int x :: st) h k n = (if x ≤ nI 0 then WP 47 G S f 226 ls st h k n else WP 47 G S f 215 ls st h k n) := by rw [wp_s dd_47_212 rfl hs]; exact br_ite (c := x ≤ nI 0)
theorem dd_47_215 : decode (mB 47) 215 = .ok (.aload_n 0, 1) := by decide +kernel
theorem u_47_215 {G : aG} {S : Nat → Bool} {f : Nat} {st : List Value} {ls : aL} {h : aH} {k n : Nat} (hs : S 215 = false) : WP 47 G S (f + 1) 215 ls st h k n = (oA (lget ls 0) (WP 47 G S f) 216 ls st h k n) := by rw [wp_s dd_47_215 rfl hs]; rfl
theorem dd_47_216 : decode (mB 47) 216 = .ok (.invokevirtual 89, 3) := by decide +kernel
theorem u_47_216 {G : aG} {S : Nat → Bool} {f : Nat} {st : List Value} {ls : aL} {h : aH} {k n : Nat} {b : Nat} (hs : S 216 = false) : WP 47 G S (f + 1) 216 ls (.ref b :: st) h k n = (rcv (hget h b) 1 ∧ CAL G (WP 47 G S f) 50 [.ref b] 219 ls st h k n) := by rw [wp_s dd_47_216 rfl hs]; rfl
theorem dd_47_219 : decode (mB 47) 219 = .ok (.ifCond .eq 7, 3) := by decide +kernel
theorem u_47_219 {G : aG} {S : Nat → Bool} {f : Nat} {st : List Value} {ls : aL} {h : aH} {k n : Nat} {x : Int32} (hs : S 219 = false) : WP 47 G S (f + 1) 219 ls (.int x :: st) h k n = (if x = nI 0 then WP 47 G S f 226 ls st h k n else WP 47 G S f 222 ls st h k n) := by rw [wp_s dd_47_219 rfl hs]; exact br_ite (c := x = nI 0)
theorem dd_47_222 : decode (mB 47) 222 = .ok (.iconst 1, 1) := by decide +kernel
theorem u_47_222 {G : aG} {S : Nat → Bool} {f : Nat} {st : List Value} {ls : aL} {h : aH} {k n : Nat} (hs : S 222 = false) : WP 47 G S (f + 1) 222 ls st h k n = (WP 47 G S f 223 ls (.int (nI 1) :: st) h k n) := by rw [wp_s dd_47_222 rfl hs]; rfl
theorem dd_47_223 : decode (mB 47) 223 = .ok (.goto 4, 3) := by decide +kernel
theorem u_47_223 {G : aG} {S : Nat → Bool} {f : Nat} {st : List Value} {ls : aL} {h : aH} {k n : Nat} (hs : S 223 = false) : WP 47 G S (f + 1) 223 ls st h k n = (WP 47 G S f 227 ls st h k n) := by rw [wp_s dd_47_223 rfl hs]; rfl
theorem dd_47_226 : decode (mB 47) 226 = .ok (.iconst 0, 1) := by decide +kernel
theorem u_47_226 {G : aG} {S : Nat → Bool} {f : Nat} {st : List Value} {ls : aL} {h : aH} {k n : Nat} (hs : S 226 = false) : WP 47 G S (f + 1) 226 ls st h k n = (WP 47 G S f 227 ls (.int (nI 0) :: st) h k n) := by rw [wp_s dd_47_226 rfl hs]; rfl
theorem dd_47_227 : decode (mB 47) 227 = .ok (.ireturn, 1) := by decide +kernel
theorem u_47_227 {G : aG} {S : Nat → Bool} {f : Nat} {ls : aL} {h : aH} {k n : Nat} {x : Int32} (hs : S 227 = false) : WP 47 G S (f + 1) 227 ls [.int x] h k n = (cond (x == nI 0 || x == nI 1) (RET G (some (.int x)) h k n) False) := by rw [wp_s dd_47_227 rfl hs]; rfl
theorem dd_47_228 : decode (mB 47) 228 = .ok (.aload_n 0, 1) := by decide +kernel
theorem u_47_228 {G : aG} {S : Nat → Bool} {f : Nat} {st : List Value} {ls : aL} {h : aH} {k n : Nat} (hs : S 228 = false) : WP 47 G S (f + 1) 228 ls st h k n = (oA (lget ls 0) (WP 47 G S f) 229 ls st h k n) := by rw [wp_s dd_47_228 rfl hs]; rfl
theorem dd_47_229 : decode (mB 47) 229 = .ok (.getfield 63, 3) := by decide +kernel
theorem u_47_229 {G : aG} {S : Nat → Bool} {f : Nat} {st : List Value} {ls : aL} {h : aH} {k n : Nat} {a : Nat} (hs : S 229 = false) : WP 47 G S (f + 1) 229 ls (.ref a :: st) h k n = (oV (fget h a 1 3) (WP 47 G S f) 232 ls st h k n) := by rw [wp_s dd_47_229 rfl hs]; rfl
theorem dd_47_232 : decode (mB 47) 232 = .ok (.ifCond .ne 14, 3) := by decide +kernel
theorem u_47_232 {G : aG} {S : Nat → Bool} {f : Nat} {st : List Value} {ls : aL} {h : aH} {k n : Nat} {x : Int32} (hs : S 232 = false) : WP 47 G S (f + 1) 232 ls (.int x :: st) h k n = (if x = nI 0 then WP 47 G S f 235 ls st h k n else WP 47 G S f 246 ls st h k n) := by rw [wp_s dd_47_232 rfl hs]; exact br_iten (c := x = nI 0)
theorem dd_47_235 : decode (mB 47) 235 = .ok (.aload_n 0, 1) := by decide +kernel
theorem u_47_235 {G : aG} {S : Nat → Bool} {f : Nat} {st : List Value} {ls : aL} {h : aH} {k n : Nat} (hs : S 235 = false) : WP 47 G S (f + 1) 235 ls st h k n = (oA (lget ls 0) (WP 47 G S f) 236 ls st h k n) := by rw [wp_s dd_47_235 rfl hs]; rfl
theorem dd_47_236 : decode (mB 47) 236 = .ok (.invokevirtual 92, 3) := by decide +kernel
theorem u_47_236 {G : aG} {S : Nat → Bool} {f : Nat} {st : List Value} {ls : aL} {h : aH} {k n : Nat} {b : Nat} (hs : S 236 = false) : WP 47 G S (f + 1) 236 ls (.ref b :: st) h k n = (rcv (hget h b) 1 ∧ CAL G (WP 47 G S f) 51 [.ref b] 239 ls st h k n) := by rw [wp_s dd_47_236 rfl hs]; rfl
theorem dd_47_239 : decode (mB 47) 239 = .ok (.ifCond .eq 7, 3) := by decide +kernel
theorem u_47_239 {G : aG} {S : Nat → Bool} {f : Nat} {st : List Value} {ls : aL} {h : aH} {k n : Nat} {x : Int32} (hs : S 239 = false) : WP 47 G S (f + 1) 239 ls (.int x :: st) h k n = (if x = nI 0 then WP 47 G S f 246 ls st h k n else WP 47 G S f 242 ls st h k n) := by rw [wp_s dd_47_239 rfl hs]; exact br_ite (c := x = nI 0)
theorem dd_47_242 : decode (mB 47) 242 = .ok (.iconst 1, 1) := by decide +kernel
theorem u_47_242 {G : aG} {S : Nat → Bool} {f : Nat} {st : List Value} {ls : aL} {h : aH} {k n : Nat} (hs : S 242 = false) : WP 47 G S (f + 1) 242 ls st h k n = (WP 47 G S f 243 ls (.int (nI 1) :: st) h k n) := by rw [wp_s dd_47_242 rfl hs]; rfl
theorem dd_47_243 : decode (mB 47) 243 = .ok (.goto 4, 3) := by decide +kernel
theorem u_47_243 {G : aG} {S : Nat → Bool} {f : Nat} {st : List Value} {ls : aL} {h : aH} {k n : Nat} (hs : S 243 = false) : WP 47 G S (f + 1) 243 ls st h k n = (WP 47 G S f 247 ls st h k n) := by rw [wp_s dd_47_243 rfl hs]; rfl
theorem dd_47_246 : decode (mB 47) 246 = .ok (.iconst 0, 1) := by decide +kernel
theorem u_47_246 {G : aG} {S : Nat → Bool} {f : Nat} {st : List Value} {ls : aL} {h : aH} {k n : Nat} (hs : S 246 = false) : WP 47 G S (f + 1) 246 ls st h k n = (WP 47 G S f 247 ls (.int (nI 0) :: st) h k n) := by rw [wp_s dd_47_246 rfl hs]; rfl
theorem dd_47_247 : decode (mB 47) 247 = .ok (.ireturn, 1) := by decide +kernel
theorem u_47_247 {G : aG} {S : Nat → Bool} {f : Nat} {ls : aL} {h : aH} {k n : Nat} {x : Int32} (hs : S 247 = false) : WP 47 G S (f + 1) 247 ls [.int x] h k n = (cond (x == nI 0 || x == nI 1) (RET G (some (.int x)) h k n) False) := by rw [wp_s dd_47_247 rfl hs]; rfl
theorem dd_47_248 : decode (mB 47) 248 = .ok (.iconst 0, 1) := by decide +kernel
theorem u_47_248 {G : aG} {S : Nat → Bool} {f : Nat} {st : List Value} {ls : aL} {h : aH} {k n : Nat} (hs : S 248 = false) : WP 47 G S (f + 1) 248 ls st h k n = (WP 47 G S f 249 ls (.int (nI 0) :: st) h k n) := by rw [wp_s dd_47_248 rfl hs]; rfl
theorem dd_47_249 : decode (mB 47) 249 = .ok (.ireturn, 1) := by decide +kernel
theorem u_47_249 {G : aG} {S : Nat → Bool} {f : Nat} {ls : aL} {h : aH} {k n : Nat} {x : Int32} (hs : S 249 = false) : WP 47 G S (f + 1) 249 ls [.int x] h k n = (cond (x == nI 0 || x == nI 1) (RET G (some (.int x)) h k n) False) := by rw [wp_s dd_47_249 rfl hs]; rfl
theorem dd_48_0 : decode (mB 48) 0 = .ok (.aload_n 0, 1) := by decide +kernel
theorem u_48_0 {G : aG} {S : Nat → Bool} {f : Nat} {st : List Value} {ls : aL} {h : aH} {k n : Nat} (hs : S 0 = false) : WP 48 G S (f + 1) 0 ls st h k n = (oA (lget ls 0) (WP 48 G S f) 1 ls st h k n) := by rw [wp_s dd_48_0 rfl hs]; rfl
theorem dd_48_1 : decode (mB 48) 1 = .ok (.iload_n 1, 1) := by decide +kernel
theorem u_48_1 {G : aG} {S : Nat → Bool} {f : Nat} {st : List Value} {ls : aL} {h : aH} {k n : Nat} (hs : S 1 = false) : WP 48 G S (f + 1) 1 ls st h k n = (oI (lget ls 1) (WP 48 G S f) 2 ls st h k n) := by rw [wp_s dd_48_1 rfl hs]; rfl
theorem dd_48_2 : decode (mB 48) 2 = .ok (.invokevirtual 95, 3) := by decide +kernel
theorem u_48_2 {G : aG} {S : Nat → Bool} {f : Nat} {st : List Value} {ls : aL} {h : aH} {k n : Nat} {v1 : Value} {b : Nat} (hs : S 2 = false) : WP 48 G S (f + 1) 2 ls (v1 :: .ref b :: st) h k n = (rcv (hget h b) 1 ∧ CAL G (WP 48 G S f) 49 [.ref b, v1] 5 ls st h k n) := by rw [wp_s dd_48_2 rfl hs]; rfl
theorem dd_48_5 : decode (mB 48) 5 = .ok (.aload_n 0, 1) := by decide +kernel
theorem u_48_5 {G : aG} {S : Nat → Bool} {f : Nat} {st : List Value} {ls : aL} {h : aH} {k n : Nat} (hs : S 5 = false) : WP 48 G S (f + 1) 5 ls st h k n = (oA (lget ls 0) (WP 48 G S f) 6 ls st h k n) := by rw [wp_s dd_48_5 rfl hs]; rfl
theorem dd_48_6 : decode (mB 48) 6 = .ok (.iconst 2, 1) := by decide +kernel
theorem u_48_6 {G : aG} {S : Nat → Bool} {f : Nat} {st : List Value} {ls : aL} {h : aH} {k n : Nat} (hs : S 6 = false) : WP 48 G S (f + 1) 6 ls st h k n = (WP 48 G S f 7 ls (.int (nI 2) :: st) h k n) := by rw [wp_s dd_48_6 rfl hs]; rfl
theorem dd_48_7 : decode (mB 48) 7 = .ok (.putfield 25, 3) := by decide +kernel
theorem u_48_7 {G : aG} {S : Nat → Bool} {f : Nat} {st : List Value} {ls : aL} {h : aH} {k n : Nat} {a : Nat} {x : Int32} (hs : S 7 = false) : WP 48 G S (f + 1) 7 ls (.int x :: .ref a :: st) h k n = (oH (fput h a 1 8 (.int x)) (WP 48 G S f) 10 ls st k n) := by rw [wp_s dd_48_7 rfl hs]; rfl
theorem dd_48_10 : decode (mB 48) 10 = .ok (.aload_n 0, 1) := by decide +kernel
theorem u_48_10 {G : aG} {S : Nat → Bool} {f : Nat} {st : List Value} {ls : aL} {h : aH} {k n : Nat} (hs : S 10 = false) : WP 48 G S (f + 1) 10 ls st h k n = (oA (lget ls 0) (WP 48 G S f) 11 ls st h k n) := by rw [wp_s dd_48_10 rfl hs]; rfl
theorem dd_48_11 : decode (mB 48) 11 = .ok (.iload_n 1, 1) := by decide +kernel
theorem u_48_11 {G : aG} {S : Nat → Bool} {f : Nat} {st : List Value} {ls : aL} {h : aH} {k n : Nat} (hs : S 11 = false) : WP 48 G S (f + 1) 11 ls st h k n = (oI (lget ls 1) (WP 48 G S f) 12 ls st h k n) := by rw [wp_s dd_48_11 rfl hs]; rfl
theorem dd_48_12 : decode (mB 48) 12 = .ok (.invokevirtual 76, 3) := by decide +kernel
theorem u_48_12 {G : aG} {S : Nat → Bool} {f : Nat} {st : List Value} {ls : aL} {h : aH} {k n : Nat} {v1 : Value} {b : Nat} (hs : S 12 = false) : WP 48 G S (f + 1) 12 ls (v1 :: .ref b :: st) h k n = (rcv (hget h b) 1 ∧ CAL G (WP 48 G S f) 44 [.ref b, v1] 15 ls st h k n) := by rw [wp_s dd_48_12 rfl hs]; rfl
theorem dd_48_15 : decode (mB 48) 15 = .ok (.ireturn, 1) := by decide +kernel
theorem u_48_15 {G : aG} {S : Nat → Bool} {f : Nat} {ls : aL} {h : aH} {k n : Nat} {x : Int32} (hs : S 15 = false) : WP 48 G S (f + 1) 15 ls [.int x] h k n = (cond (x == nI 0 || x == nI 1) (RET G (some (.int x)) h k n) False) := by rw [wp_s dd_48_15 rfl hs]; rfl
theorem dd_49_0 : decode (mB 49) 0 = .ok (.aload_n 0, 1) := by decide +kernel
theorem u_49_0 {G : aG} {S : Nat → Bool} {f : Nat} {st : List Value} {ls : aL} {h : aH} {k n : Nat} (hs : S 0 = false) : WP 49 G S (f + 1) 0 ls st h k n = (oA (lget ls 0) (WP 49 G S f) 1 ls st h k n) := by rw [wp_s dd_49_0 rfl hs]; rfl
theorem v_49_0 {G : aG} {S : Nat → Bool} {f : Nat} {st : List Value} {ls : aL} {h : aH} {k n : Nat} : WQ 49 G S f 0 ls st h k n = (oA (lget ls 0) (WP 49 G S f) 1 ls st h k n) := by rw [wq_s dd_49_0 rfl]; rfl
theorem dd_49_1 : decode (mB 49) 1 = .ok (.getfield 60, 3) := by decide +kernel
theorem u_49_1 {G : aG} {S : Nat → Bool} {f : Nat} {st : List Value} {ls : aL} {h : aH} {k n : Nat} {a : Nat} (hs : S 1 = false) : WP 49 G S (f + 1) 1 ls (.ref a :: st) h k n = (oV (fget h a 1 2) (WP 49 G S f) 4 ls st h k n) := by rw [wp_s dd_49_1 rfl hs]; rfl
theorem dd_49_4 : decode (mB 49) 4 = .ok (.ifCond .le 57, 3) := by decide +kernel
theorem u_49_4 {G : aG} {S : Nat → Bool} {f : Nat} {st : List Value} {ls : aL} {h : aH} {k n : Nat} {x : Int32} (hs : S 4 = false) : WP 49 G S (f + 1) 4 ls (.int x :: st) h k n = (if x ≤ nI 0 then WP 49 G S f 61 ls st h k n else WP 49 G S f 7 ls st h k n) := by rw [wp_s dd_49_4 rfl hs]; exact br_ite (c := x ≤ nI 0)
theorem dd_49_7 : decode (mB 49) 7 = .ok (.aload_n 0, 1) := by decide +kernel
theorem u_49_7 {G : aG} {S : Nat → Bool} {f : Nat} {st : List Value} {ls : aL} {h : aH} {k n : Nat} (hs : S 7 = false) : WP 49 G S (f + 1) 7 ls st h k n = (oA (lget ls 0) (WP 49 G S f) 8 ls st h k n) := by rw [wp_s dd_49_7 rfl hs]; rfl
theorem dd_49_8 : decode (mB 49) 8 = .ok (.getfield 60, 3) := by decide +kernel
theorem u_49_8 {G : aG} {S : Nat → Bool} {f : Nat} {st : List Value} {ls : aL} {h : aH} {k n : Nat} {a : Nat} (hs : S 8 = false) : WP 49 G S (f + 1) 8 ls (.ref a :: st) h k n = (oV (fget h a 1 2) (WP 49 G S f) 11 ls st h k n) := by rw [wp_s dd_49_8 rfl hs]; rfl
theorem dd_49_11 : decode (mB 49) 11 = .ok (.aload_n 0, 1) := by decide +kernel
theorem u_49_11 {G : aG} {S : Nat → Bool} {f : Nat} {st : List Value} {ls : aL} {h : aH} {k n : Nat} (hs : S 11 = false) : WP 49 G S (f + 1) 11 ls st h k n = (oA (lget ls 0) (WP 49 G S f) 12 ls st h k n) := by rw [wp_s dd_49_11 rfl hs]; rfl
theorem dd_49_12 : decode (mB 49) 12 = .ok (.getfield 15, 3) := by decide +kernel
theorem u_49_12 {G : aG} {S : Nat → Bool} {f : Nat} {st : List Value} {ls : aL} {h : aH} {k n : Nat} {a : Nat} (hs : S 12 = false) : WP 49 G S (f + 1) 12 ls (.ref a :: st) h k n = (oV (fget h a 1 1) (WP 49 G S f) 15 ls st h k n) := by rw [wp_s dd_49_12 rfl hs]; rfl
theorem dd_49_15 : decode (mB 49) 15 = .ok (.arraylength, 1) := by decide +kernel
theorem u_49_15 {G : aG} {S : Nat → Bool} {f : Nat} {st : List Value} {ls : aL} {h : aH} {k n : Nat} {a : Nat} (hs : S 15 = false) : WP 49 G S (f + 1) 15 ls (.ref a :: st) h k n = (oLen (alen h a) (WP 49 G S f) 16 ls st h k n) := by rw [wp_s dd_49_15 rfl hs]; rfl
theorem dd_49_16 : decode (mB 49) 16 = .ok (.if_icmp .gt 45, 3) := by decide +kernel
theorem u_49_16 {G : aG} {S : Nat → Bool} {f : Nat} {st : List Value} {ls : aL} {h : aH} {k n : Nat} {x y : Int32} (hs : S 16 = false) : WP 49 G S (f + 1) 16 ls (.int y :: .int x :: st) h k n = (if y < x then WP 49 G S f 61 ls st h k n else WP 49 G S f 19 ls st h k n) := by rw [wp_s dd_49_16 rfl hs]; exact br_ite (c := y < x)
theorem dd_49_19 : decode (mB 49) 19 = .ok (.aload_n 0, 1) := by decide +kernel
theorem u_49_19 {G : aG} {S : Nat → Bool} {f : Nat} {st : List Value} {ls : aL} {h : aH} {k n : Nat} (hs : S 19 = false) : WP 49 G S (f + 1) 19 ls st h k n = (oA (lget ls 0) (WP 49 G S f) 20 ls st h k n) := by rw [wp_s dd_49_19 rfl hs]; rfl
theorem dd_49_20 : decode (mB 49) 20 = .ok (.getfield 15, 3) := by decide +kernel
theorem u_49_20 {G : aG} {S : Nat → Bool} {f : Nat} {st : List Value} {ls : aL} {h : aH} {k n : Nat} {a : Nat} (hs : S 20 = false) : WP 49 G S (f + 1) 20 ls (.ref a :: st) h k n = (oV (fget h a 1 1) (WP 49 G S f) 23 ls st h k n) := by rw [wp_s dd_49_20 rfl hs]; rfl
theorem dd_49_23 : decode (mB 49) 23 = .ok (.aload_n 0, 1) := by decide +kernel
theorem u_49_23 {G : aG} {S : Nat → Bool} {f : Nat} {st : List Value} {ls : aL} {h : aH} {k n : Nat} (hs : S 23 = false) : WP 49 G S (f + 1) 23 ls st h k n = (oA (lget ls 0) (WP 49 G S f) 24 ls st h k n) := by rw [wp_s dd_49_23 rfl hs]; rfl
theorem dd_49_24 : decode (mB 49) 24 = .ok (.getfield 60, 3) := by decide +kernel
theorem u_49_24 {G : aG} {S : Nat → Bool} {f : Nat} {st : List Value} {ls : aL} {h : aH} {k n : Nat} {a : Nat} (hs : S 24 = false) : WP 49 G S (f + 1) 24 ls (.ref a :: st) h k n = (oV (fget h a 1 2) (WP 49 G S f) 27 ls st h k n) := by rw [wp_s dd_49_24 rfl hs]; rfl
theorem dd_49_27 : decode (mB 49) 27 = .ok (.iconst 1, 1) := by decide +kernel
theorem u_49_27 {G : aG} {S : Nat → Bool} {f : Nat} {st : List Value} {ls : aL} {h : aH} {k n : Nat} (hs : S 27 = false) : WP 49 G S (f + 1) 27 ls st h k n = (WP 49 G S f 28 ls (.int (nI 1) :: st) h k n) := by rw [wp_s dd_49_27 rfl hs]; rfl
theorem dd_49_28 : decode (mB 49) 28 = .ok (.isub, 1) := by decide +kernel
theorem u_49_28 {G : aG} {S : Nat → Bool} {f : Nat} {st : List Value} {ls : aL} {h : aH} {k n : Nat} {x y : Int32} (hs : S 28 = false) : WP 49 G S (f + 1) 28 ls (.int y :: .int x :: st) h k n = (WP 49 G S f 29 ls (.int (x - y) :: st) h k n) := by rw [wp_s dd_49_28 rfl hs]; rfl
theorem dd_49_29 : decode (mB 49) 29 = .ok (.iaload, 1) := by decide +kernel
theorem u_49_29 {G : aG} {S : Nat → Bool} {f : Nat} {st : List Value} {ls : aL} {h : aH} {k n : Nat} {i : Int32} {a : Nat} (hs : S 29 = false) : WP 49 G S (f + 1) 29 ls (.int i :: .ref a :: st) h k n = (oIld (iget h a 1) i (WP 49 G S f) 30 ls st h k n) := by rw [wp_s dd_49_29 rfl hs]; rfl
theorem dd_49_30 : decode (mB 49) 30 = .ok (.iload_n 1, 1) := by decide +kernel
theorem u_49_30 {G : aG} {S : Nat → Bool} {f : Nat} {st : List Value} {ls : aL} {h : aH} {k n : Nat} (hs : S 30 = false) : WP 49 G S (f + 1) 30 ls st h k n = (oI (lget ls 1) (WP 49 G S f) 31 ls st h k n) := by rw [wp_s dd_49_30 rfl hs]; rfl
theorem dd_49_31 : decode (mB 49) 31 = .ok (.if_icmp .lt 30, 3) := by decide +kernel
theorem u_49_31 {G : aG} {S : Nat → Bool} {f : Nat} {st : List Value} {ls : aL} {h : aH} {k n : Nat} {x y : Int32} (hs : S 31 = false) : WP 49 G S (f + 1) 31 ls (.int y :: .int x :: st) h k n = (if x < y then WP 49 G S f 61 ls st h k n else WP 49 G S f 34 ls st h k n) := by rw [wp_s dd_49_31 rfl hs]; exact br_ite (c := x < y)
theorem dd_49_34 : decode (mB 49) 34 = .ok (.aload_n 0, 1) := by decide +kernel
theorem u_49_34 {G : aG} {S : Nat → Bool} {f : Nat} {st : List Value} {ls : aL} {h : aH} {k n : Nat} (hs : S 34 = false) : WP 49 G S (f + 1) 34 ls st h k n = (oA (lget ls 0) (WP 49 G S f) 35 ls st h k n) := by rw [wp_s dd_49_34 rfl hs]; rfl
theorem dd_49_35 : decode (mB 49) 35 = .ok (.dup, 1) := by decide +kernel
theorem u_49_35 {G : aG} {S : Nat → Bool} {f : Nat} {st : List Value} {ls : aL} {h : aH} {k n : Nat} {v : Value} (hs : S 35 = false) : WP 49 G S (f + 1) 35 ls (v :: st) h k n = (cond (cat1 v) (WP 49 G S f 36 ls (v :: v :: st) h k n) False) := by rw [wp_s dd_49_35 rfl hs]; rfl
theorem dd_49_36 : decode (mB 49) 36 = .ok (.getfield 60, 3) := by decide +kernel
theorem u_49_36 {G : aG} {S : Nat → Bool} {f : Nat} {st : List Value} {ls : aL} {h : aH} {k n : Nat} {a : Nat} (hs : S 36 = false) : WP 49 G S (f + 1) 36 ls (.ref a :: st) h k n = (oV (fget h a 1 2) (WP 49 G S f) 39 ls st h k n) := by rw [wp_s dd_49_36 rfl hs]; rfl
theorem dd_49_39 : decode (mB 49) 39 = .ok (.iconst 1, 1) := by decide +kernel
theorem u_49_39 {G : aG} {S : Nat → Bool} {f : Nat} {st : List Value} {ls : aL} {h : aH} {k n : Nat} (hs : S 39 = false) : WP 49 G S (f + 1) 39 ls st h k n = (WP 49 G S f 40 ls (.int (nI 1) :: st) h k n) := by rw [wp_s dd_49_39 rfl hs]; rfl
theorem dd_49_40 : decode (mB 49) 40 = .ok (.isub, 1) := by decide +kernel
theorem u_49_40 {G : aG} {S : Nat → Bool} {f : Nat} {st : List Value} {ls : aL} {h : aH} {k n : Nat} {x y : Int32} (hs : S 40 = false) : WP 49 G S (f + 1) 40 ls (.int y :: .int x :: st) h k n = (WP 49 G S f 41 ls (.int (x - y) :: st) h k n) := by rw [wp_s dd_49_40 rfl hs]; rfl
theorem dd_49_41 : decode (mB 49) 41 = .ok (.putfield 60, 3) := by decide +kernel
theorem u_49_41 {G : aG} {S : Nat → Bool} {f : Nat} {st : List Value} {ls : aL} {h : aH} {k n : Nat} {a : Nat} {x : Int32} (hs : S 41 = false) : WP 49 G S (f + 1) 41 ls (.int x :: .ref a :: st) h k n = (oH (fput h a 1 2 (.int x)) (WP 49 G S f) 44 ls st k n) := by rw [wp_s dd_49_41 rfl hs]; rfl
theorem dd_49_44 : decode (mB 49) 44 = .ok (.aload_n 0, 1) := by decide +kernel
theorem u_49_44 {G : aG} {S : Nat → Bool} {f : Nat} {st : List Value} {ls : aL} {h : aH} {k n : Nat} (hs : S 44 = false) : WP 49 G S (f + 1) 44 ls st h k n = (oA (lget ls 0) (WP 49 G S f) 45 ls st h k n) := by rw [wp_s dd_49_44 rfl hs]; rfl
theorem dd_49_45 : decode (mB 49) 45 = .ok (.aload_n 0, 1) := by decide +kernel
theorem u_49_45 {G : aG} {S : Nat → Bool} {f : Nat} {st : List Value} {ls : aL} {h : aH} {k n : Nat} (hs : S 45 = false) : WP 49 G S (f + 1) 45 ls st h k n = (oA (lget ls 0) (WP 49 G S f) 46 ls st h k n) := by rw [wp_s dd_49_45 rfl hs]; rfl
theorem dd_49_46 : decode (mB 49) 46 = .ok (.getfield 15, 3) := by decide +kernel
theorem u_49_46 {G : aG} {S : Nat → Bool} {f : Nat} {st : List Value} {ls : aL} {h : aH} {k n : Nat} {a : Nat} (hs : S 46 = false) : WP 49 G S (f + 1) 46 ls (.ref a :: st) h k n = (oV (fget h a 1 1) (WP 49 G S f) 49 ls st h k n) := by rw [wp_s dd_49_46 rfl hs]; rfl
theorem dd_49_49 : decode (mB 49) 49 = .ok (.aload_n 0, 1) := by decide +kernel
theorem u_49_49 {G : aG} {S : Nat → Bool} {f : Nat} {st : List Value} {ls : aL} {h : aH} {k n : Nat} (hs : S 49 = false) : WP 49 G S (f + 1) 49 ls st h k n = (oA (lget ls 0) (WP 49 G S f) 50 ls st h k n) := by rw [wp_s dd_49_49 rfl hs]; rfl
theorem dd_49_50 : decode (mB 49) 50 = .ok (.getfield 60, 3) := by decide +kernel
theorem u_49_50 {G : aG} {S : Nat → Bool} {f : Nat} {st : List Value} {ls : aL} {h : aH} {k n : Nat} {a : Nat} (hs : S 50 = false) : WP 49 G S (f + 1) 50 ls (.ref a :: st) h k n = (oV (fget h a 1 2) (WP 49 G S f) 53 ls st h k n) := by rw [wp_s dd_49_50 rfl hs]; rfl
theorem dd_49_53 : decode (mB 49) 53 = .ok (.iaload, 1) := by decide +kernel
theorem u_49_53 {G : aG} {S : Nat → Bool} {f : Nat} {st : List Value} {ls : aL} {h : aH} {k n : Nat} {i : Int32} {a : Nat} (hs : S 53 = false) : WP 49 G S (f + 1) 53 ls (.int i :: .ref a :: st) h k n = (oIld (iget h a 1) i (WP 49 G S f) 54 ls st h k n) := by rw [wp_s dd_49_53 rfl hs]; rfl
theorem dd_49_54 : decode (mB 49) 54 = .ok (.invokevirtual 83, 3) := by decide +kernel
theorem u_49_54 {G : aG} {S : Nat → Bool} {f : Nat} {st : List Value} {ls : aL} {h : aH} {k n : Nat} {v1 : Value} {b : Nat} (hs : S 54 = false) : WP 49 G S (f + 1) 54 ls (v1 :: .ref b :: st) h k n = (rcv (hget h b) 1 ∧ CAL G (WP 49 G S f) 46 [.ref b, v1] 57 ls st h k n) := by rw [wp_s dd_49_54 rfl hs]; rfl
theorem dd_49_57 : decode (mB 49) 57 = .ok (.pop, 1) := by decide +kernel
theorem u_49_57 {G : aG} {S : Nat → Bool} {f : Nat} {st : List Value} {ls : aL} {h : aH} {k n : Nat} {v : Value} (hs : S 57 = false) : WP 49 G S (f + 1) 57 ls (v :: st) h k n = (cond (cat1 v) (WP 49 G S f 58 ls st h k n) False) := by rw [wp_s dd_49_57 rfl hs]; rfl
theorem dd_49_58 : decode (mB 49) 58 = .ok (.goto (-58), 3) := by decide +kernel
theorem u_49_58 {G : aG} {S : Nat → Bool} {f : Nat} {st : List Value} {ls : aL} {h : aH} {k n : Nat} (hs : S 58 = false) : WP 49 G S (f + 1) 58 ls st h k n = (WP 49 G S f 0 ls st h k n) := by rw [wp_s dd_49_58 rfl hs]; rfl
theorem dd_49_61 : decode (mB 49) 61 = .ok (.return_, 1) := by decide +kernel
theorem u_49_61 {G : aG} {S : Nat → Bool} {f : Nat} {ls : aL} {h : aH} {k n : Nat} (hs : S 61 = false) : WP 49 G S (f + 1) 61 ls [] h k n = (RET G none h k n) := by rw [wp_s dd_49_61 rfl hs]; rfl
theorem dd_50_0 : decode (mB 50) 0 = .ok (.aload_n 0, 1) := by decide +kernel
theorem u_50_0 {G : aG} {S : Nat → Bool} {f : Nat} {st : List Value} {ls : aL} {h : aH} {k n : Nat} (hs : S 0 = false) : WP 50 G S (f + 1) 0 ls st h k n = (oA (lget ls 0) (WP 50 G S f) 1 ls st h k n) := by rw [wp_s dd_50_0 rfl hs]; rfl
theorem dd_50_1 : decode (mB 50) 1 = .ok (.iconst 1, 1) := by decide +kernel
theorem u_50_1 {G : aG} {S : Nat → Bool} {f : Nat} {st : List Value} {ls : aL} {h : aH} {k n : Nat} (hs : S 1 = false) : WP 50 G S (f + 1) 1 ls st h k n = (WP 50 G S f 2 ls (.int (nI 1) :: st) h k n) := by rw [wp_s dd_50_1 rfl hs]; rfl
theorem dd_50_2 : decode (mB 50) 2 = .ok (.invokevirtual 95, 3) := by decide +kernel
theorem u_50_2 {G : aG} {S : Nat → Bool} {f : Nat} {st : List Value} {ls : aL} {h : aH} {k n : Nat} {v1 : Value} {b : Nat} (hs : S 2 = false) : WP 50 G S (f + 1) 2 ls (v1 :: .ref b :: st) h k n = (rcv (hget h b) 1 ∧ CAL G (WP 50 G S f) 49 [.ref b, v1] 5 ls st h k n) := by rw [wp_s dd_50_2 rfl hs]; rfl
theorem dd_50_5 : decode (mB 50) 5 = .ok (.aload_n 0, 1) := by decide +kernel
theorem u_50_5 {G : aG} {S : Nat → Bool} {f : Nat} {st : List Value} {ls : aL} {h : aH} {k n : Nat} (hs : S 5 = false) : WP 50 G S (f + 1) 5 ls st h k n = (oA (lget ls 0) (WP 50 G S f) 6 ls st h k n) := by rw [wp_s dd_50_5 rfl hs]; rfl
theorem dd_50_6 : decode (mB 50) 6 = .ok (.iconst 0, 1) := by decide +kernel
theorem u_50_6 {G : aG} {S : Nat → Bool} {f : Nat} {st : List Value} {ls : aL} {h : aH} {k n : Nat} (hs : S 6 = false) : WP 50 G S (f + 1) 6 ls st h k n = (WP 50 G S f 7 ls (.int (nI 0) :: st) h k n) := by rw [wp_s dd_50_6 rfl hs]; rfl
theorem dd_50_7 : decode (mB 50) 7 = .ok (.aload_n 0, 1) := by decide +kernel
theorem u_50_7 {G : aG} {S : Nat → Bool} {f : Nat} {st : List Value} {ls : aL} {h : aH} {k n : Nat} (hs : S 7 = false) : WP 50 G S (f + 1) 7 ls st h k n = (oA (lget ls 0) (WP 50 G S f) 8 ls st h k n) := by rw [wp_s dd_50_7 rfl hs]; rfl
theorem dd_50_8 : decode (mB 50) 8 = .ok (.getfield 60, 3) := by decide +kernel
theorem u_50_8 {G : aG} {S : Nat → Bool} {f : Nat} {st : List Value} {ls : aL} {h : aH} {k n : Nat} {a : Nat} (hs : S 8 = false) : WP 50 G S (f + 1) 8 ls (.ref a :: st) h k n = (oV (fget h a 1 2) (WP 50 G S f) 11 ls st h k n) := by rw [wp_s dd_50_8 rfl hs]; rfl
theorem dd_50_11 : decode (mB 50) 11 = .ok (.iconst 1, 1) := by decide +kernel
theorem u_50_11 {G : aG} {S : Nat → Bool} {f : Nat} {st : List Value} {ls : aL} {h : aH} {k n : Nat} (hs : S 11 = false) : WP 50 G S (f + 1) 11 ls st h k n = (WP 50 G S f 12 ls (.int (nI 1) :: st) h k n) := by rw [wp_s dd_50_11 rfl hs]; rfl
theorem dd_50_12 : decode (mB 50) 12 = .ok (.isub, 1) := by decide +kernel
theorem u_50_12 {G : aG} {S : Nat → Bool} {f : Nat} {st : List Value} {ls : aL} {h : aH} {k n : Nat} {x y : Int32} (hs : S 12 = false) : WP 50 G S (f + 1) 12 ls (.int y :: .int x :: st) h k n = (WP 50 G S f 13 ls (.int (x - y) :: st) h k n) := by rw [wp_s dd_50_12 rfl hs]; rfl
theorem dd_50_13 : decode (mB 50) 13 = .ok (.invokestatic 99, 3) := by decide +kernel
theorem u_50_13 {G : aG} {S : Nat → Bool} {f : Nat} {st : List Value} {ls : aL} {h : aH} {k n : Nat} {v1 v2 : Value} (hs : S 13 = false) : WP 50 G S (f + 1) 13 ls (v2 :: v1 :: st) h k n = (CAL G (WP 50 G S f) 25 [v1, v2] 16 ls st h k n) := by rw [wp_s dd_50_13 rfl hs]; rfl
theorem dd_50_16 : decode (mB 50) 16 = .ok (.putfield 60, 3) := by decide +kernel
theorem u_50_16 {G : aG} {S : Nat → Bool} {f : Nat} {st : List Value} {ls : aL} {h : aH} {k n : Nat} {a : Nat} {x : Int32} (hs : S 16 = false) : WP 50 G S (f + 1) 16 ls (.int x :: .ref a :: st) h k n = (oH (fput h a 1 2 (.int x)) (WP 50 G S f) 19 ls st k n) := by rw [wp_s dd_50_16 rfl hs]; rfl
theorem dd_50_19 : decode (mB 50) 19 = .ok (.aload_n 0, 1) := by decide +kernel
theorem u_50_19 {G : aG} {S : Nat → Bool} {f : Nat} {st : List Value} {ls : aL} {h : aH} {k n : Nat} (hs : S 19 = false) : WP 50 G S (f + 1) 19 ls st h k n = (oA (lget ls 0) (WP 50 G S f) 20 ls st h k n) := by rw [wp_s dd_50_19 rfl hs]; rfl
theorem dd_50_20 : decode (mB 50) 20 = .ok (.dup, 1) := by decide +kernel
theorem u_50_20 {G : aG} {S : Nat → Bool} {f : Nat} {st : List Value} {ls : aL} {h : aH} {k n : Nat} {v : Value} (hs : S 20 = false) : WP 50 G S (f + 1) 20 ls (v :: st) h k n = (cond (cat1 v) (WP 50 G S f 21 ls (v :: v :: st) h k n) False) := by rw [wp_s dd_50_20 rfl hs]; rfl
theorem dd_50_21 : decode (mB 50) 21 = .ok (.getfield 63, 3) := by decide +kernel
theorem u_50_21 {G : aG} {S : Nat → Bool} {f : Nat} {st : List Value} {ls : aL} {h : aH} {k n : Nat} {a : Nat} (hs : S 21 = false) : WP 50 G S (f + 1) 21 ls (.ref a :: st) h k n = (oV (fget h a 1 3) (WP 50 G S f) 24 ls st h k n) := by rw [wp_s dd_50_21 rfl hs]; rfl
theorem dd_50_24 : decode (mB 50) 24 = .ok (.iconst 1, 1) := by decide +kernel
theorem u_50_24 {G : aG} {S : Nat → Bool} {f : Nat} {st : List Value} {ls : aL} {h : aH} {k n : Nat} (hs : S 24 = false) : WP 50 G S (f + 1) 24 ls st h k n = (WP 50 G S f 25 ls (.int (nI 1) :: st) h k n) := by rw [wp_s dd_50_24 rfl hs]; rfl
theorem dd_50_25 : decode (mB 50) 25 = .ok (.isub, 1) := by decide +kernel
theorem u_50_25 {G : aG} {S : Nat → Bool} {f : Nat} {st : List Value} {ls : aL} {h : aH} {k n : Nat} {x y : Int32} (hs : S 25 = false) : WP 50 G S (f + 1) 25 ls (.int y :: .int x :: st) h k n = (WP 50 G S f 26 ls (.int (x - y) :: st) h k n) := by rw [wp_s dd_50_25 rfl hs]; rfl
theorem dd_50_26 : decode (mB 50) 26 = .ok (.putfield 63, 3) := by decide +kernel
theorem u_50_26 {G : aG} {S : Nat → Bool} {f : Nat} {st : List Value} {ls : aL} {h : aH} {k n : Nat} {a : Nat} {x : Int32} (hs : S 26 = false) : WP 50 G S (f + 1) 26 ls (.int x :: .ref a :: st) h k n = (oH (fput h a 1 3 (.int x)) (WP 50 G S f) 29 ls st k n) := by rw [wp_s dd_50_26 rfl hs]; rfl
theorem dd_50_29 : decode (mB 50) 29 = .ok (.iconst 1, 1) := by decide +kernel
theorem u_50_29 {G : aG} {S : Nat → Bool} {f : Nat} {st : List Value} {ls : aL} {h : aH} {k n : Nat} (hs : S 29 = false) : WP 50 G S (f + 1) 29 ls st h k n = (WP 50 G S f 30 ls (.int (nI 1) :: st) h k n) := by rw [wp_s dd_50_29 rfl hs]; rfl
theorem dd_50_30 : decode (mB 50) 30 = .ok (.ireturn, 1) := by decide +kernel
theorem u_50_30 {G : aG} {S : Nat → Bool} {f : Nat} {ls : aL} {h : aH} {k n : Nat} {x : Int32} (hs : S 30 = false) : WP 50 G S (f + 1) 30 ls [.int x] h k n = (cond (x == nI 0 || x == nI 1) (RET G (some (.int x)) h k n) False) := by rw [wp_s dd_50_30 rfl hs]; rfl
theorem dd_51_0 : decode (mB 51) 0 = .ok (.aload_n 0, 1) := by decide +kernel
theorem u_51_0 {G : aG} {S : Nat → Bool} {f : Nat} {st : List Value} {ls : aL} {h : aH} {k n : Nat} (hs : S 0 = false) : WP 51 G S (f + 1) 0 ls st h k n = (oA (lget ls 0) (WP 51 G S f) 1 ls st h k n) := by rw [wp_s dd_51_0 rfl hs]; rfl
theorem dd_51_1 : decode (mB 51) 1 = .ok (.getfield 57, 3) := by decide +kernel
theorem u_51_1 {G : aG} {S : Nat → Bool} {f : Nat} {st : List Value} {ls : aL} {h : aH} {k n : Nat} {a : Nat} (hs : S 1 = false) : WP 51 G S (f + 1) 1 ls (.ref a :: st) h k n = (oV (fget h a 1 7) (WP 51 G S f) 4 ls st h k n) := by rw [wp_s dd_51_1 rfl hs]; rfl
theorem dd_51_4 : decode (mB 51) 4 = .ok (.invokestatic 105, 3) := by decide +kernel
theorem u_51_4 {G : aG} {S : Nat → Bool} {f : Nat} {st : List Value} {ls : aL} {h : aH} {k n : Nat} {v1 : Value} (hs : S 4 = false) : WP 51 G S (f + 1) 4 ls (v1 :: st) h k n = (CAL G (WP 51 G S f) 52 [v1] 7 ls st h k n) := by rw [wp_s dd_51_4 rfl hs]; rfl
theorem dd_51_7 : decode (mB 51) 7 = .ok (.ifCond .ne 5, 3) := by decide +kernel
theorem u_51_7 {G : aG} {S : Nat → Bool} {f : Nat} {st : List Value} {ls : aL} {h : aH} {k n : Nat} {x : Int32} (hs : S 7 = false) : WP 51 G S (f + 1) 7 ls (.int x :: st) h k n = (if x = nI 0 then WP 51 G S f 10 ls st h k n else WP 51 G S f 12 ls st h k n) := by rw [wp_s dd_51_7 rfl hs]; exact br_iten (c := x = nI 0)
theorem dd_51_10 : decode (mB 51) 10 = .ok (.iconst 0, 1) := by decide +kernel
theorem u_51_10 {G : aG} {S : Nat → Bool} {f : Nat} {st : List Value} {ls : aL} {h : aH} {k n : Nat} (hs : S 10 = false) : WP 51 G S (f + 1) 10 ls st h k n = (WP 51 G S f 11 ls (.int (nI 0) :: st) h k n) := by rw [wp_s dd_51_10 rfl hs]; rfl
theorem dd_51_11 : decode (mB 51) 11 = .ok (.ireturn, 1) := by decide +kernel
theorem u_51_11 {G : aG} {S : Nat → Bool} {f : Nat} {ls : aL} {h : aH} {k n : Nat} {x : Int32} (hs : S 11 = false) : WP 51 G S (f + 1) 11 ls [.int x] h k n = (cond (x == nI 0 || x == nI 1) (RET G (some (.int x)) h k n) False) := by rw [wp_s dd_51_11 rfl hs]; rfl
theorem dd_51_12 : decode (mB 51) 12 = .ok (.aload_n 0, 1) := by decide +kernel
theorem u_51_12 {G : aG} {S : Nat → Bool} {f : Nat} {st : List Value} {ls : aL} {h : aH} {k n : Nat} (hs : S 12 = false) : WP 51 G S (f + 1) 12 ls st h k n = (oA (lget ls 0) (WP 51 G S f) 13 ls st h k n) := by rw [wp_s dd_51_12 rfl hs]; rfl
theorem dd_51_13 : decode (mB 51) 13 = .ok (.iconst 1, 1) := by decide +kernel
theorem u_51_13 {G : aG} {S : Nat → Bool} {f : Nat} {st : List Value} {ls : aL} {h : aH} {k n : Nat} (hs : S 13 = false) : WP 51 G S (f + 1) 13 ls st h k n = (WP 51 G S f 14 ls (.int (nI 1) :: st) h k n) := by rw [wp_s dd_51_13 rfl hs]; rfl
theorem dd_51_14 : decode (mB 51) 14 = .ok (.invokevirtual 95, 3) := by decide +kernel
theorem u_51_14 {G : aG} {S : Nat → Bool} {f : Nat} {st : List Value} {ls : aL} {h : aH} {k n : Nat} {v1 : Value} {b : Nat} (hs : S 14 = false) : WP 51 G S (f + 1) 14 ls (v1 :: .ref b :: st) h k n = (rcv (hget h b) 1 ∧ CAL G (WP 51 G S f) 49 [.ref b, v1] 17 ls st h k n) := by rw [wp_s dd_51_14 rfl hs]; rfl
theorem dd_51_17 : decode (mB 51) 17 = .ok (.aload_n 0, 1) := by decide +kernel
theorem u_51_17 {G : aG} {S : Nat → Bool} {f : Nat} {st : List Value} {ls : aL} {h : aH} {k n : Nat} (hs : S 17 = false) : WP 51 G S (f + 1) 17 ls st h k n = (oA (lget ls 0) (WP 51 G S f) 18 ls st h k n) := by rw [wp_s dd_51_17 rfl hs]; rfl
theorem dd_51_18 : decode (mB 51) 18 = .ok (.getfield 9, 3) := by decide +kernel
theorem u_51_18 {G : aG} {S : Nat → Bool} {f : Nat} {st : List Value} {ls : aL} {h : aH} {k n : Nat} {a : Nat} (hs : S 18 = false) : WP 51 G S (f + 1) 18 ls (.ref a :: st) h k n = (oV (fget h a 1 0) (WP 51 G S f) 21 ls st h k n) := by rw [wp_s dd_51_18 rfl hs]; rfl
theorem dd_51_21 : decode (mB 51) 21 = .ok (.aload_n 0, 1) := by decide +kernel
theorem u_51_21 {G : aG} {S : Nat → Bool} {f : Nat} {st : List Value} {ls : aL} {h : aH} {k n : Nat} (hs : S 21 = false) : WP 51 G S (f + 1) 21 ls st h k n = (oA (lget ls 0) (WP 51 G S f) 22 ls st h k n) := by rw [wp_s dd_51_21 rfl hs]; rfl
theorem dd_51_22 : decode (mB 51) 22 = .ok (.getfield 57, 3) := by decide +kernel
theorem u_51_22 {G : aG} {S : Nat → Bool} {f : Nat} {st : List Value} {ls : aL} {h : aH} {k n : Nat} {a : Nat} (hs : S 22 = false) : WP 51 G S (f + 1) 22 ls (.ref a :: st) h k n = (oV (fget h a 1 7) (WP 51 G S f) 25 ls st h k n) := by rw [wp_s dd_51_22 rfl hs]; rfl
theorem dd_51_25 : decode (mB 51) 25 = .ok (.aload_n 0, 1) := by decide +kernel
theorem u_51_25 {G : aG} {S : Nat → Bool} {f : Nat} {st : List Value} {ls : aL} {h : aH} {k n : Nat} (hs : S 25 = false) : WP 51 G S (f + 1) 25 ls st h k n = (oA (lget ls 0) (WP 51 G S f) 26 ls st h k n) := by rw [wp_s dd_51_25 rfl hs]; rfl
theorem dd_51_26 : decode (mB 51) 26 = .ok (.getfield 72, 3) := by decide +kernel
theorem u_51_26 {G : aG} {S : Nat → Bool} {f : Nat} {st : List Value} {ls : aL} {h : aH} {k n : Nat} {a : Nat} (hs : S 26 = false) : WP 51 G S (f + 1) 26 ls (.ref a :: st) h k n = (oV (fget h a 1 6) (WP 51 G S f) 29 ls st h k n) := by rw [wp_s dd_51_26 rfl hs]; rfl
theorem dd_51_29 : decode (mB 51) 29 = .ok (.lastore, 1) := by decide +kernel
theorem u_51_29 {G : aG} {S : Nat → Bool} {f : Nat} {st : List Value} {ls : aL} {h : aH} {k n : Nat} {i : Int32} {x : Int64} {a : Nat} (hs : S 29 = false) : WP 51 G S (f + 1) 29 ls (.long x :: .int i :: .ref a :: st) h k n = (oJst (jget h a) a i x (WP 51 G S f) 30 ls st h k n) := by rw [wp_s dd_51_29 rfl hs]; rfl
theorem dd_51_30 : decode (mB 51) 30 = .ok (.aload_n 0, 1) := by decide +kernel
theorem u_51_30 {G : aG} {S : Nat → Bool} {f : Nat} {st : List Value} {ls : aL} {h : aH} {k n : Nat} (hs : S 30 = false) : WP 51 G S (f + 1) 30 ls st h k n = (oA (lget ls 0) (WP 51 G S f) 31 ls st h k n) := by rw [wp_s dd_51_30 rfl hs]; rfl
theorem dd_51_31 : decode (mB 51) 31 = .ok (.dup, 1) := by decide +kernel
theorem u_51_31 {G : aG} {S : Nat → Bool} {f : Nat} {st : List Value} {ls : aL} {h : aH} {k n : Nat} {v : Value} (hs : S 31 = false) : WP 51 G S (f + 1) 31 ls (v :: st) h k n = (cond (cat1 v) (WP 51 G S f 32 ls (v :: v :: st) h k n) False) := by rw [wp_s dd_51_31 rfl hs]; rfl
theorem dd_51_32 : decode (mB 51) 32 = .ok (.getfield 29, 3) := by decide +kernel
theorem u_51_32 {G : aG} {S : Nat → Bool} {f : Nat} {st : List Value} {ls : aL} {h : aH} {k n : Nat} {a : Nat} (hs : S 32 = false) : WP 51 G S (f + 1) 32 ls (.ref a :: st) h k n = (oV (fget h a 1 9) (WP 51 G S f) 35 ls st h k n) := by rw [wp_s dd_51_32 rfl hs]; rfl
theorem dd_51_35 : decode (mB 51) 35 = .ok (.iconst 1, 1) := by decide +kernel
theorem u_51_35 {G : aG} {S : Nat → Bool} {f : Nat} {st : List Value} {ls : aL} {h : aH} {k n : Nat} (hs : S 35 = false) : WP 51 G S (f + 1) 35 ls st h k n = (WP 51 G S f 36 ls (.int (nI 1) :: st) h k n) := by rw [wp_s dd_51_35 rfl hs]; rfl
theorem dd_51_36 : decode (mB 51) 36 = .ok (.iadd, 1) := by decide +kernel
theorem u_51_36 {G : aG} {S : Nat → Bool} {f : Nat} {st : List Value} {ls : aL} {h : aH} {k n : Nat} {x y : Int32} (hs : S 36 = false) : WP 51 G S (f + 1) 36 ls (.int y :: .int x :: st) h k n = (WP 51 G S f 37 ls (.int (x + y) :: st) h k n) := by rw [wp_s dd_51_36 rfl hs]; rfl
theorem dd_51_37 : decode (mB 51) 37 = .ok (.putfield 29, 3) := by decide +kernel
theorem u_51_37 {G : aG} {S : Nat → Bool} {f : Nat} {st : List Value} {ls : aL} {h : aH} {k n : Nat} {a : Nat} {x : Int32} (hs : S 37 = false) : WP 51 G S (f + 1) 37 ls (.int x :: .ref a :: st) h k n = (oH (fput h a 1 9 (.int x)) (WP 51 G S f) 40 ls st k n) := by rw [wp_s dd_51_37 rfl hs]; rfl
theorem dd_51_40 : decode (mB 51) 40 = .ok (.aload_n 0, 1) := by decide +kernel
theorem u_51_40 {G : aG} {S : Nat → Bool} {f : Nat} {st : List Value} {ls : aL} {h : aH} {k n : Nat} (hs : S 40 = false) : WP 51 G S (f + 1) 40 ls st h k n = (oA (lget ls 0) (WP 51 G S f) 41 ls st h k n) := by rw [wp_s dd_51_40 rfl hs]; rfl
theorem dd_51_41 : decode (mB 51) 41 = .ok (.iconst 0, 1) := by decide +kernel
theorem u_51_41 {G : aG} {S : Nat → Bool} {f : Nat} {st : List Value} {ls : aL} {h : aH} {k n : Nat} (hs : S 41 = false) : WP 51 G S (f + 1) 41 ls st h k n = (WP 51 G S f 42 ls (.int (nI 0) :: st) h k n) := by rw [wp_s dd_51_41 rfl hs]; rfl
theorem dd_51_42 : decode (mB 51) 42 = .ok (.putfield 25, 3) := by decide +kernel
theorem u_51_42 {G : aG} {S : Nat → Bool} {f : Nat} {st : List Value} {ls : aL} {h : aH} {k n : Nat} {a : Nat} {x : Int32} (hs : S 42 = false) : WP 51 G S (f + 1) 42 ls (.int x :: .ref a :: st) h k n = (oH (fput h a 1 8 (.int x)) (WP 51 G S f) 45 ls st k n) := by rw [wp_s dd_51_42 rfl hs]; rfl
theorem dd_51_45 : decode (mB 51) 45 = .ok (.iconst 1, 1) := by decide +kernel
theorem u_51_45 {G : aG} {S : Nat → Bool} {f : Nat} {st : List Value} {ls : aL} {h : aH} {k n : Nat} (hs : S 45 = false) : WP 51 G S (f + 1) 45 ls st h k n = (WP 51 G S f 46 ls (.int (nI 1) :: st) h k n) := by rw [wp_s dd_51_45 rfl hs]; rfl
theorem dd_51_46 : decode (mB 51) 46 = .ok (.ireturn, 1) := by decide +kernel
theorem u_51_46 {G : aG} {S : Nat → Bool} {f : Nat} {ls : aL} {h : aH} {k n : Nat} {x : Int32} (hs : S 46 = false) : WP 51 G S (f + 1) 46 ls [.int x] h k n = (cond (x == nI 0 || x == nI 1) (RET G (some (.int x)) h k n) False) := by rw [wp_s dd_51_46 rfl hs]; rfl
theorem dd_76_0 : decode (mB 76) 0 = .ok (.aload_n 0, 1) := by decide +kernel
theorem u_76_0 {G : aG} {S : Nat → Bool} {f : Nat} {st : List Value} {ls : aL} {h : aH} {k n : Nat} (hs : S 0 = false) : WP 76 G S (f + 1) 0 ls st h k n = (oA (lget ls 0) (WP 76 G S f) 1 ls st h k n) := by rw [wp_s dd_76_0 rfl hs]; rfl
theorem dd_76_1 : decode (mB 76) 1 = .ok (.invokevirtual 22, 3) := by decide +kernel
theorem u_76_1 {G : aG} {S : Nat → Bool} {f : Nat} {st : List Value} {ls : aL} {h : aH} {k n : Nat} {b : Nat} (hs : S 1 = false) : WP 76 G S (f + 1) 1 ls (.ref b :: st) h k n = (rcv (hget h b) 0 ∧ CAL G (WP 76 G S f) 77 [.ref b] 4 ls st h k n) := by rw [wp_s dd_76_1 rfl hs]; rfl
theorem dd_76_4 : decode (mB 76) 4 = .ok (.iconst 0, 1) := by decide +kernel
theorem u_76_4 {G : aG} {S : Nat → Bool} {f : Nat} {st : List Value} {ls : aL} {h : aH} {k n : Nat} (hs : S 4 = false) : WP 76 G S (f + 1) 4 ls st h k n = (WP 76 G S f 5 ls (.int (nI 0) :: st) h k n) := by rw [wp_s dd_76_4 rfl hs]; rfl
theorem dd_76_5 : decode (mB 76) 5 = .ok (.istore_n 2, 1) := by decide +kernel
theorem u_76_5 {G : aG} {S : Nat → Bool} {f : Nat} {st : List Value} {ls : aL} {h : aH} {k n : Nat} {x : Int32} (hs : S 5 = false) : WP 76 G S (f + 1) 5 ls (.int x :: st) h k n = (WP 76 G S f 6 (lput1 ls 2 (.int x)) st h k n) := by rw [wp_s dd_76_5 rfl hs]; rfl
theorem dd_76_6 : decode (mB 76) 6 = .ok (.iload_n 2, 1) := by decide +kernel
theorem u_76_6 {G : aG} {S : Nat → Bool} {f : Nat} {st : List Value} {ls : aL} {h : aH} {k n : Nat} (hs : S 6 = false) : WP 76 G S (f + 1) 6 ls st h k n = (oI (lget ls 2) (WP 76 G S f) 7 ls st h k n) := by rw [wp_s dd_76_6 rfl hs]; rfl
theorem v_76_6 {G : aG} {S : Nat → Bool} {f : Nat} {st : List Value} {ls : aL} {h : aH} {k n : Nat} : WQ 76 G S f 6 ls st h k n = (oI (lget ls 2) (WP 76 G S f) 7 ls st h k n) := by rw [wq_s dd_76_6 rfl]; rfl
theorem dd_76_7 : decode (mB 76) 7 = .ok (.aload_n 1, 1) := by decide +kernel
theorem u_76_7 {G : aG} {S : Nat → Bool} {f : Nat} {st : List Value} {ls : aL} {h : aH} {k n : Nat} (hs : S 7 = false) : WP 76 G S (f + 1) 7 ls st h k n = (oA (lget ls 1) (WP 76 G S f) 8 ls st h k n) := by rw [wp_s dd_76_7 rfl hs]; rfl
theorem dd_76_8 : decode (mB 76) 8 = .ok (.getfield 25, 3) := by decide +kernel
theorem u_76_8 {G : aG} {S : Nat → Bool} {f : Nat} {st : List Value} {ls : aL} {h : aH} {k n : Nat} {a : Nat} (hs : S 8 = false) : WP 76 G S (f + 1) 8 ls (.ref a :: st) h k n = (oV (fget h a 8 1) (WP 76 G S f) 11 ls st h k n) := by rw [wp_s dd_76_8 rfl hs]; rfl
theorem dd_76_11 : decode (mB 76) 11 = .ok (.if_icmp .ge 96, 3) := by decide +kernel
theorem u_76_11 {G : aG} {S : Nat → Bool} {f : Nat} {st : List Value} {ls : aL} {h : aH} {k n : Nat} {x y : Int32} (hs : S 11 = false) : WP 76 G S (f + 1) 11 ls (.int y :: .int x :: st) h k n = (if y ≤ x then WP 76 G S f 107 ls st h k n else WP 76 G S f 14 ls st h k n) := by rw [wp_s dd_76_11 rfl hs]; exact br_ite (c := y ≤ x)
theorem dd_76_14 : decode (mB 76) 14 = .ok (.aload_n 1, 1) := by decide +kernel
theorem u_76_14 {G : aG} {S : Nat → Bool} {f : Nat} {st : List Value} {ls : aL} {h : aH} {k n : Nat} (hs : S 14 = false) : WP 76 G S (f + 1) 14 ls st h k n = (oA (lget ls 1) (WP 76 G S f) 15 ls st h k n) := by rw [wp_s dd_76_14 rfl hs]; rfl
theorem dd_76_15 : decode (mB 76) 15 = .ok (.iload_n 2, 1) := by decide +kernel
theorem u_76_15 {G : aG} {S : Nat → Bool} {f : Nat} {st : List Value} {ls : aL} {h : aH} {k n : Nat} (hs : S 15 = false) : WP 76 G S (f + 1) 15 ls st h k n = (oI (lget ls 2) (WP 76 G S f) 16 ls st h k n) := by rw [wp_s dd_76_15 rfl hs]; rfl
theorem dd_76_16 : decode (mB 76) 16 = .ok (.invokevirtual 31, 3) := by decide +kernel
theorem u_76_16 {G : aG} {S : Nat → Bool} {f : Nat} {st : List Value} {ls : aL} {h : aH} {k n : Nat} {v1 : Value} {b : Nat} (hs : S 16 = false) : WP 76 G S (f + 1) 16 ls (v1 :: .ref b :: st) h k n = (rcv (hget h b) 8 ∧ CAL G (WP 76 G S f) 39 [.ref b, v1] 19 ls st h k n) := by rw [wp_s dd_76_16 rfl hs]; rfl
theorem dd_76_19 : decode (mB 76) 19 = .ok (.istore_n 3, 1) := by decide +kernel
theorem u_76_19 {G : aG} {S : Nat → Bool} {f : Nat} {st : List Value} {ls : aL} {h : aH} {k n : Nat} {x : Int32} (hs : S 19 = false) : WP 76 G S (f + 1) 19 ls (.int x :: st) h k n = (WP 76 G S f 20 (lput1 ls 3 (.int x)) st h k n) := by rw [wp_s dd_76_19 rfl hs]; rfl
theorem dd_76_20 : decode (mB 76) 20 = .ok (.iload_n 3, 1) := by decide +kernel
theorem u_76_20 {G : aG} {S : Nat → Bool} {f : Nat} {st : List Value} {ls : aL} {h : aH} {k n : Nat} (hs : S 20 = false) : WP 76 G S (f + 1) 20 ls st h k n = (oI (lget ls 3) (WP 76 G S f) 21 ls st h k n) := by rw [wp_s dd_76_20 rfl hs]; rfl
theorem dd_76_21 : decode (mB 76) 21 = .ok (.invokestatic 35, 3) := by decide +kernel
theorem u_76_21 {G : aG} {S : Nat → Bool} {f : Nat} {st : List Value} {ls : aL} {h : aH} {k n : Nat} {v1 : Value} (hs : S 21 = false) : WP 76 G S (f + 1) 21 ls (v1 :: st) h k n = (CAL G (WP 76 G S f) 42 [v1] 24 ls st h k n) := by rw [wp_s dd_76_21 rfl hs]; rfl
theorem dd_76_24 : decode (mB 76) 24 = .ok (.istore 4, 2) := by decide +kernel
theorem u_76_24 {G : aG} {S : Nat → Bool} {f : Nat} {st : List Value} {ls : aL} {h : aH} {k n : Nat} {x : Int32} (hs : S 24 = false) : WP 76 G S (f + 1) 24 ls (.int x :: st) h k n = (WP 76 G S f 26 (lput1 ls 4 (.int x)) st h k n) := by rw [wp_s dd_76_24 rfl hs]; rfl
theorem dd_76_26 : decode (mB 76) 26 = .ok (.iload 4, 2) := by decide +kernel
theorem u_76_26 {G : aG} {S : Nat → Bool} {f : Nat} {st : List Value} {ls : aL} {h : aH} {k n : Nat} (hs : S 26 = false) : WP 76 G S (f + 1) 26 ls st h k n = (oI (lget ls 4) (WP 76 G S f) 28 ls st h k n) := by rw [wp_s dd_76_26 rfl hs]; rfl
theorem dd_76_28 : decode (mB 76) 28 = .ok (.iconst (-1), 1) := by decide +kernel
theorem u_76_28 {G : aG} {S : Nat → Bool} {f : Nat} {st : List Value} {ls : aL} {h : aH} {k n : Nat} (hs : S 28 = false) : WP 76 G S (f + 1) 28 ls st h k n = (WP 76 G S f 29 ls (.int (-1) :: st) h k n) := by rw [wp_s dd_76_28 rfl hs]; rfl
theorem dd_76_29 : decode (mB 76) 29 = .ok (.if_icmp .eq 13, 3) := by decide +kernel
theorem u_76_29 {G : aG} {S : Nat → Bool} {f : Nat} {st : List Value} {ls : aL} {h : aH} {k n : Nat} {x y : Int32} (hs : S 29 = false) : WP 76 G S (f + 1) 29 ls (.int y :: .int x :: st) h k n = (if x = y then WP 76 G S f 42 ls st h k n else WP 76 G S f 32 ls st h k n) := by rw [wp_s dd_76_29 rfl hs]; exact br_ite (c := x = y)
theorem dd_76_32 : decode (mB 76) 32 = .ok (.aload_n 0, 1) := by decide +kernel
theorem u_76_32 {G : aG} {S : Nat → Bool} {f : Nat} {st : List Value} {ls : aL} {h : aH} {k n : Nat} (hs : S 32 = false) : WP 76 G S (f + 1) 32 ls st h k n = (oA (lget ls 0) (WP 76 G S f) 33 ls st h k n) := by rw [wp_s dd_76_32 rfl hs]; rfl
theorem dd_76_33 : decode (mB 76) 33 = .ok (.iload 4, 2) := by decide +kernel
theorem u_76_33 {G : aG} {S : Nat → Bool} {f : Nat} {st : List Value} {ls : aL} {h : aH} {k n : Nat} (hs : S 33 = false) : WP 76 G S (f + 1) 33 ls st h k n = (oI (lget ls 4) (WP 76 G S f) 35 ls st h k n) := by rw [wp_s dd_76_33 rfl hs]; rfl
theorem dd_76_35 : decode (mB 76) 35 = .ok (.iload_n 2, 1) := by decide +kernel
theorem u_76_35 {G : aG} {S : Nat → Bool} {f : Nat} {st : List Value} {ls : aL} {h : aH} {k n : Nat} (hs : S 35 = false) : WP 76 G S (f + 1) 35 ls st h k n = (oI (lget ls 2) (WP 76 G S f) 36 ls st h k n) := by rw [wp_s dd_76_35 rfl hs]; rfl
theorem dd_76_36 : decode (mB 76) 36 = .ok (.invokevirtual 38, 3) := by decide +kernel
theorem u_76_36 {G : aG} {S : Nat → Bool} {f : Nat} {st : List Value} {ls : aL} {h : aH} {k n : Nat} {v1 v2 : Value} {b : Nat} (hs : S 36 = false) : WP 76 G S (f + 1) 36 ls (v2 :: v1 :: .ref b :: st) h k n = (rcv (hget h b) 0 ∧ CAL G (WP 76 G S f) 78 [.ref b, v1, v2] 39 ls st h k n) := by rw [wp_s dd_76_36 rfl hs]; rfl
theorem dd_76_39 : decode (mB 76) 39 = .ok (.goto 62, 3) := by decide +kernel
theorem u_76_39 {G : aG} {S : Nat → Bool} {f : Nat} {st : List Value} {ls : aL} {h : aH} {k n : Nat} (hs : S 39 = false) : WP 76 G S (f + 1) 39 ls st h k n = (WP 76 G S f 101 ls st h k n) := by rw [wp_s dd_76_39 rfl hs]; rfl
theorem dd_76_42 : decode (mB 76) 42 = .ok (.iload_n 3, 1) := by decide +kernel
theorem u_76_42 {G : aG} {S : Nat → Bool} {f : Nat} {st : List Value} {ls : aL} {h : aH} {k n : Nat} (hs : S 42 = false) : WP 76 G S (f + 1) 42 ls st h k n = (oI (lget ls 3) (WP 76 G S f) 43 ls st h k n) := by rw [wp_s dd_76_42 rfl hs]; rfl
theorem dd_76_43 : decode (mB 76) 43 = .ok (.bipush 40, 2) := by decide +kernel
theorem u_76_43 {G : aG} {S : Nat → Bool} {f : Nat} {st : List Value} {ls : aL} {h : aH} {k n : Nat} (hs : S 43 = false) : WP 76 G S (f + 1) 43 ls st h k n = (WP 76 G S f 45 ls (.int (nI 40) :: st) h k n) := by rw [wp_s dd_76_43 rfl hs]; rfl
theorem dd_76_45 : decode (mB 76) 45 = .ok (.if_icmp .ne 27, 3) := by decide +kernel
theorem u_76_45 {G : aG} {S : Nat → Bool} {f : Nat} {st : List Value} {ls : aL} {h : aH} {k n : Nat} {x y : Int32} (hs : S 45 = false) : WP 76 G S (f + 1) 45 ls (.int y :: .int x :: st) h k n = (if x = y then WP 76 G S f 48 ls st h k n else WP 76 G S f 72 ls st h k n) := by rw [wp_s dd_76_45 rfl hs]; exact br_iten (c := x = y)
theorem dd_76_48 : decode (mB 76) 48 = .ok (.aload_n 0, 1) := by decide +kernel
theorem u_76_48 {G : aG} {S : Nat → Bool} {f : Nat} {st : List Value} {ls : aL} {h : aH} {k n : Nat} (hs : S 48 = false) : WP 76 G S (f + 1) 48 ls st h k n = (oA (lget ls 0) (WP 76 G S f) 49 ls st h k n) := by rw [wp_s dd_76_48 rfl hs]; rfl
theorem dd_76_49 : decode (mB 76) 49 = .ok (.getfield 42, 3) := by decide +kernel
theorem u_76_49 {G : aG} {S : Nat → Bool} {f : Nat} {st : List Value} {ls : aL} {h : aH} {k n : Nat} {a : Nat} (hs : S 49 = false) : WP 76 G S (f + 1) 49 ls (.ref a :: st) h k n = (oV (fget h a 0 4) (WP 76 G S f) 52 ls st h k n) := by rw [wp_s dd_76_49 rfl hs]; rfl
theorem dd_76_52 : decode (mB 76) 52 = .ok (.iconst (-1), 1) := by decide +kernel
theorem u_76_52 {G : aG} {S : Nat → Bool} {f : Nat} {st : List Value} {ls : aL} {h : aH} {k n : Nat} (hs : S 52 = false) : WP 76 G S (f + 1) 52 ls st h k n = (WP 76 G S f 53 ls (.int (-1) :: st) h k n) := by rw [wp_s dd_76_52 rfl hs]; rfl
theorem dd_76_53 : decode (mB 76) 53 = .ok (.if_icmp .eq 19, 3) := by decide +kernel
theorem u_76_53 {G : aG} {S : Nat → Bool} {f : Nat} {st : List Value} {ls : aL} {h : aH} {k n : Nat} {x y : Int32} (hs : S 53 = false) : WP 76 G S (f + 1) 53 ls (.int y :: .int x :: st) h k n = (if x = y then WP 76 G S f 72 ls st h k n else WP 76 G S f 56 ls st h k n) := by rw [wp_s dd_76_53 rfl hs]; exact br_ite (c := x = y)
theorem dd_76_56 : decode (mB 76) 56 = .ok (.aload_n 0, 1) := by decide +kernel
theorem u_76_56 {G : aG} {S : Nat → Bool} {f : Nat} {st : List Value} {ls : aL} {h : aH} {k n : Nat} (hs : S 56 = false) : WP 76 G S (f + 1) 56 ls st h k n = (oA (lget ls 0) (WP 76 G S f) 57 ls st h k n) := by rw [wp_s dd_76_56 rfl hs]; rfl
theorem dd_76_57 : decode (mB 76) 57 = .ok (.getfield 45, 3) := by decide +kernel
theorem u_76_57 {G : aG} {S : Nat → Bool} {f : Nat} {st : List Value} {ls : aL} {h : aH} {k n : Nat} {a : Nat} (hs : S 57 = false) : WP 76 G S (f + 1) 57 ls (.ref a :: st) h k n = (oV (fget h a 0 3) (WP 76 G S f) 60 ls st h k n) := by rw [wp_s dd_76_57 rfl hs]; rfl
theorem dd_76_60 : decode (mB 76) 60 = .ok (.bipush 8, 2) := by decide +kernel
theorem u_76_60 {G : aG} {S : Nat → Bool} {f : Nat} {st : List Value} {ls : aL} {h : aH} {k n : Nat} (hs : S 60 = false) : WP 76 G S (f + 1) 60 ls st h k n = (WP 76 G S f 62 ls (.int (nI 8) :: st) h k n) := by rw [wp_s dd_76_60 rfl hs]; rfl
theorem dd_76_62 : decode (mB 76) 62 = .ok (.if_icmp .ge 10, 3) := by decide +kernel
theorem u_76_62 {G : aG} {S : Nat → Bool} {f : Nat} {st : List Value} {ls : aL} {h : aH} {k n : Nat} {x y : Int32} (hs : S 62 = false) : WP 76 G S (f + 1) 62 ls (.int y :: .int x :: st) h k n = (if y ≤ x then WP 76 G S f 72 ls st h k n else WP 76 G S f 65 ls st h k n) := by rw [wp_s dd_76_62 rfl hs]; exact br_ite (c := y ≤ x)
theorem dd_76_65 : decode (mB 76) 65 = .ok (.aload_n 0, 1) := by decide +kernel
theorem u_76_65 {G : aG} {S : Nat → Bool} {f : Nat} {st : List Value} {ls : aL} {h : aH} {k n : Nat} (hs : S 65 = false) : WP 76 G S (f + 1) 65 ls st h k n = (oA (lget ls 0) (WP 76 G S f) 66 ls st h k n) := by rw [wp_s dd_76_65 rfl hs]; rfl
theorem dd_76_66 : decode (mB 76) 66 = .ok (.invokevirtual 48, 3) := by decide +kernel
theorem u_76_66 {G : aG} {S : Nat → Bool} {f : Nat} {st : List Value} {ls : aL} {h : aH} {k n : Nat} {b : Nat} (hs : S 66 = false) : WP 76 G S (f + 1) 66 ls (.ref b :: st) h k n = (rcv (hget h b) 0 ∧ CAL G (WP 76 G S f) 82 [.ref b] 69 ls st h k n) := by rw [wp_s dd_76_66 rfl hs]; rfl
theorem dd_76_69 : decode (mB 76) 69 = .ok (.goto 32, 3) := by decide +kernel
theorem u_76_69 {G : aG} {S : Nat → Bool} {f : Nat} {st : List Value} {ls : aL} {h : aH} {k n : Nat} (hs : S 69 = false) : WP 76 G S (f + 1) 69 ls st h k n = (WP 76 G S f 101 ls st h k n) := by rw [wp_s dd_76_69 rfl hs]; rfl
theorem dd_76_72 : decode (mB 76) 72 = .ok (.iload_n 3, 1) := by decide +kernel
theorem u_76_72 {G : aG} {S : Nat → Bool} {f : Nat} {st : List Value} {ls : aL} {h : aH} {k n : Nat} (hs : S 72 = false) : WP 76 G S (f + 1) 72 ls st h k n = (oI (lget ls 3) (WP 76 G S f) 73 ls st h k n) := by rw [wp_s dd_76_72 rfl hs]; rfl
theorem dd_76_73 : decode (mB 76) 73 = .ok (.bipush 41, 2) := by decide +kernel
theorem u_76_73 {G : aG} {S : Nat → Bool} {f : Nat} {st : List Value} {ls : aL} {h : aH} {k n : Nat} (hs : S 73 = false) : WP 76 G S (f + 1) 73 ls st h k n = (WP 76 G S f 75 ls (.int (nI 41) :: st) h k n) := by rw [wp_s dd_76_73 rfl hs]; rfl
theorem dd_76_75 : decode (mB 76) 75 = .ok (.if_icmp .ne 18, 3) := by decide +kernel
theorem u_76_75 {G : aG} {S : Nat → Bool} {f : Nat} {st : List Value} {ls : aL} {h : aH} {k n : Nat} {x y : Int32} (hs : S 75 = false) : WP 76 G S (f + 1) 75 ls (.int y :: .int x :: st) h k n = (if x = y then WP 76 G S f 78 ls st h k n else WP 76 G S f 93 ls st h k n) := by rw [wp_s dd_76_75 rfl hs]; exact br_iten (c := x = y)
theorem dd_76_78 : decode (mB 76) 78 = .ok (.aload_n 0, 1) := by decide +kernel
theorem u_76_78 {G : aG} {S : Nat → Bool} {f : Nat} {st : List Value} {ls : aL} {h : aH} {k n : Nat} (hs : S 78 = false) : WP 76 G S (f + 1) 78 ls st h k n = (oA (lget ls 0) (WP 76 G S f) 79 ls st h k n) := by rw [wp_s dd_76_78 rfl hs]; rfl
theorem dd_76_79 : decode (mB 76) 79 = .ok (.getfield 45, 3) := by decide +kernel
theorem u_76_79 {G : aG} {S : Nat → Bool} {f : Nat} {st : List Value} {ls : aL} {h : aH} {k n : Nat} {a : Nat} (hs : S 79 = false) : WP 76 G S (f + 1) 79 ls (.ref a :: st) h k n = (oV (fget h a 0 3) (WP 76 G S f) 82 ls st h k n) := by rw [wp_s dd_76_79 rfl hs]; rfl
theorem dd_76_82 : decode (mB 76) 82 = .ok (.ifCond .le 11, 3) := by decide +kernel
theorem u_76_82 {G : aG} {S : Nat → Bool} {f : Nat} {st : List Value} {ls : aL} {h : aH} {k n : Nat} {x : Int32} (hs : S 82 = false) : WP 76 G S (f + 1) 82 ls (.int x :: st) h k n = (if x ≤ nI 0 then WP 76 G S f 93 ls st h k n else WP 76 G S f 85 ls st h k n) := by rw [wp_s dd_76_82 rfl hs]; exact br_ite (c := x ≤ nI 0)
theorem dd_76_85 : decode (mB 76) 85 = .ok (.aload_n 0, 1) := by decide +kernel
theorem u_76_85 {G : aG} {S : Nat → Bool} {f : Nat} {st : List Value} {ls : aL} {h : aH} {k n : Nat} (hs : S 85 = false) : WP 76 G S (f + 1) 85 ls st h k n = (oA (lget ls 0) (WP 76 G S f) 86 ls st h k n) := by rw [wp_s dd_76_85 rfl hs]; rfl
theorem dd_76_86 : decode (mB 76) 86 = .ok (.iload_n 2, 1) := by decide +kernel
theorem u_76_86 {G : aG} {S : Nat → Bool} {f : Nat} {st : List Value} {ls : aL} {h : aH} {k n : Nat} (hs : S 86 = false) : WP 76 G S (f + 1) 86 ls st h k n = (oI (lget ls 2) (WP 76 G S f) 87 ls st h k n) := by rw [wp_s dd_76_86 rfl hs]; rfl
theorem dd_76_87 : decode (mB 76) 87 = .ok (.invokevirtual 51, 3) := by decide +kernel
theorem u_76_87 {G : aG} {S : Nat → Bool} {f : Nat} {st : List Value} {ls : aL} {h : aH} {k n : Nat} {v1 : Value} {b : Nat} (hs : S 87 = false) : WP 76 G S (f + 1) 87 ls (v1 :: .ref b :: st) h k n = (rcv (hget h b) 0 ∧ CAL G (WP 76 G S f) 83 [.ref b, v1] 90 ls st h k n) := by rw [wp_s dd_76_87 rfl hs]; rfl
theorem dd_76_90 : decode (mB 76) 90 = .ok (.goto 11, 3) := by decide +kernel
theorem u_76_90 {G : aG} {S : Nat → Bool} {f : Nat} {st : List Value} {ls : aL} {h : aH} {k n : Nat} (hs : S 90 = false) : WP 76 G S (f + 1) 90 ls st h k n = (WP 76 G S f 101 ls st h k n) := by rw [wp_s dd_76_90 rfl hs]; rfl
theorem dd_76_93 : decode (mB 76) 93 = .ok (.iload_n 3, 1) := by decide +kernel
theorem u_76_93 {G : aG} {S : Nat → Bool} {f : Nat} {st : List Value} {ls : aL} {h : aH} {k n : Nat} (hs : S 93 = false) : WP 76 G S (f + 1) 93 ls st h k n = (oI (lget ls 3) (WP 76 G S f) 94 ls st h k n) := by rw [wp_s dd_76_93 rfl hs]; rfl
theorem dd_76_94 : decode (mB 76) 94 = .ok (.bipush 32, 2) := by decide +kernel
theorem u_76_94 {G : aG} {S : Nat → Bool} {f : Nat} {st : List Value} {ls : aL} {h : aH} {k n : Nat} (hs : S 94 = false) : WP 76 G S (f + 1) 94 ls st h k n = (WP 76 G S f 96 ls (.int (nI 32) :: st) h k n) := by rw [wp_s dd_76_94 rfl hs]; rfl
theorem dd_76_96 : decode (mB 76) 96 = .ok (.if_icmp .eq 5, 3) := by decide +kernel
theorem u_76_96 {G : aG} {S : Nat → Bool} {f : Nat} {st : List Value} {ls : aL} {h : aH} {k n : Nat} {x y : Int32} (hs : S 96 = false) : WP 76 G S (f + 1) 96 ls (.int y :: .int x :: st) h k n = (if x = y then WP 76 G S f 101 ls st h k n else WP 76 G S f 99 ls st h k n) := by rw [wp_s dd_76_96 rfl hs]; exact br_ite (c := x = y)
theorem dd_76_99 : decode (mB 76) 99 = .ok (.iload_n 2, 1) := by decide +kernel
theorem u_76_99 {G : aG} {S : Nat → Bool} {f : Nat} {st : List Value} {ls : aL} {h : aH} {k n : Nat} (hs : S 99 = false) : WP 76 G S (f + 1) 99 ls st h k n = (oI (lget ls 2) (WP 76 G S f) 100 ls st h k n) := by rw [wp_s dd_76_99 rfl hs]; rfl
theorem dd_76_100 : decode (mB 76) 100 = .ok (.ireturn, 1) := by decide +kernel
theorem u_76_100 {G : aG} {S : Nat → Bool} {f : Nat} {ls : aL} {h : aH} {k n : Nat} {x : Int32} (hs : S 100 = false) : WP 76 G S (f + 1) 100 ls [.int x] h k n = (RET G (some (.int x)) h k n) := by rw [wp_s dd_76_100 rfl hs]; rfl
theorem dd_76_101 : decode (mB 76) 101 = .ok (.iinc 2 1, 3) := by decide +kernel
theorem u_76_101 {G : aG} {S : Nat → Bool} {f : Nat} {st : List Value} {ls : aL} {h : aH} {k n : Nat} (hs : S 101 = false) : WP 76 G S (f + 1) 101 ls st h k n = (oInc (lget ls 2) (nI 1) (WP 76 G S f) 2 104 ls st h k n) := by rw [wp_s dd_76_101 rfl hs]; rfl
theorem dd_76_104 : decode (mB 76) 104 = .ok (.goto (-98), 3) := by decide +kernel
theorem u_76_104 {G : aG} {S : Nat → Bool} {f : Nat} {st : List Value} {ls : aL} {h : aH} {k n : Nat} (hs : S 104 = false) : WP 76 G S (f + 1) 104 ls st h k n = (WP 76 G S f 6 ls st h k n) := by rw [wp_s dd_76_104 rfl hs]; rfl
theorem dd_76_107 : decode (mB 76) 107 = .ok (.aload_n 0, 1) := by decide +kernel
theorem u_76_107 {G : aG} {S : Nat → Bool} {f : Nat} {st : List Value} {ls : aL} {h : aH} {k n : Nat} (hs : S 107 = false) : WP 76 G S (f + 1) 107 ls st h k n = (oA (lget ls 0) (WP 76 G S f) 108 ls st h k n) := by rw [wp_s dd_76_107 rfl hs]; rfl
theorem dd_76_108 : decode (mB 76) 108 = .ok (.getfield 45, 3) := by decide +kernel
theorem u_76_108 {G : aG} {S : Nat → Bool} {f : Nat} {st : List Value} {ls : aL} {h : aH} {k n : Nat} {a : Nat} (hs : S 108 = false) : WP 76 G S (f + 1) 108 ls (.ref a :: st) h k n = (oV (fget h a 0 3) (WP 76 G S f) 111 ls st h k n) := by rw [wp_s dd_76_108 rfl hs]; rfl
theorem dd_76_111 : decode (mB 76) 111 = .ok (.ifCond .le 8, 3) := by decide +kernel
theorem u_76_111 {G : aG} {S : Nat → Bool} {f : Nat} {st : List Value} {ls : aL} {h : aH} {k n : Nat} {x : Int32} (hs : S 111 = false) : WP 76 G S (f + 1) 111 ls (.int x :: st) h k n = (if x ≤ nI 0 then WP 76 G S f 119 ls st h k n else WP 76 G S f 114 ls st h k n) := by rw [wp_s dd_76_111 rfl hs]; exact br_ite (c := x ≤ nI 0)
theorem dd_76_114 : decode (mB 76) 114 = .ok (.aload_n 1, 1) := by decide +kernel
theorem u_76_114 {G : aG} {S : Nat → Bool} {f : Nat} {st : List Value} {ls : aL} {h : aH} {k n : Nat} (hs : S 114 = false) : WP 76 G S (f + 1) 114 ls st h k n = (oA (lget ls 1) (WP 76 G S f) 115 ls st h k n) := by rw [wp_s dd_76_114 rfl hs]; rfl
theorem dd_76_115 : decode (mB 76) 115 = .ok (.getfield 25, 3) := by decide +kernel
theorem u_76_115 {G : aG} {S : Nat → Bool} {f : Nat} {st : List Value} {ls : aL} {h : aH} {k n : Nat} {a : Nat} (hs : S 115 = false) : WP 76 G S (f + 1) 115 ls (.ref a :: st) h k n = (oV (fget h a 8 1) (WP 76 G S f) 118 ls st h k n) := by rw [wp_s dd_76_115 rfl hs]; rfl
theorem dd_76_118 : decode (mB 76) 118 = .ok (.ireturn, 1) := by decide +kernel
theorem u_76_118 {G : aG} {S : Nat → Bool} {f : Nat} {ls : aL} {h : aH} {k n : Nat} {x : Int32} (hs : S 118 = false) : WP 76 G S (f + 1) 118 ls [.int x] h k n = (RET G (some (.int x)) h k n) := by rw [wp_s dd_76_118 rfl hs]; rfl
theorem dd_76_119 : decode (mB 76) 119 = .ok (.aload_n 0, 1) := by decide +kernel
theorem u_76_119 {G : aG} {S : Nat → Bool} {f : Nat} {st : List Value} {ls : aL} {h : aH} {k n : Nat} (hs : S 119 = false) : WP 76 G S (f + 1) 119 ls st h k n = (oA (lget ls 0) (WP 76 G S f) 120 ls st h k n) := by rw [wp_s dd_76_119 rfl hs]; rfl
theorem dd_76_120 : decode (mB 76) 120 = .ok (.aload_n 1, 1) := by decide +kernel
theorem u_76_120 {G : aG} {S : Nat → Bool} {f : Nat} {st : List Value} {ls : aL} {h : aH} {k n : Nat} (hs : S 120 = false) : WP 76 G S (f + 1) 120 ls st h k n = (oA (lget ls 1) (WP 76 G S f) 121 ls st h k n) := by rw [wp_s dd_76_120 rfl hs]; rfl
theorem dd_76_121 : decode (mB 76) 121 = .ok (.getfield 25, 3) := by decide +kernel
theorem u_76_121 {G : aG} {S : Nat → Bool} {f : Nat} {st : List Value} {ls : aL} {h : aH} {k n : Nat} {a : Nat} (hs : S 121 = false) : WP 76 G S (f + 1) 121 ls (.ref a :: st) h k n = (oV (fget h a 8 1) (WP 76 G S f) 124 ls st h k n) := by rw [wp_s dd_76_121 rfl hs]; rfl
theorem dd_76_124 : decode (mB 76) 124 = .ok (.invokevirtual 55, 3) := by decide +kernel
theorem u_76_124 {G : aG} {S : Nat → Bool} {f : Nat} {st : List Value} {ls : aL} {h : aH} {k n : Nat} {v1 : Value} {b : Nat} (hs : S 124 = false) : WP 76 G S (f + 1) 124 ls (v1 :: .ref b :: st) h k n = (rcv (hget h b) 0 ∧ CAL G (WP 76 G S f) 79 [.ref b, v1] 127 ls st h k n) := by rw [wp_s dd_76_124 rfl hs]; rfl
theorem dd_76_127 : decode (mB 76) 127 = .ok (.aload_n 0, 1) := by decide +kernel
theorem u_76_127 {G : aG} {S : Nat → Bool} {f : Nat} {st : List Value} {ls : aL} {h : aH} {k n : Nat} (hs : S 127 = false) : WP 76 G S (f + 1) 127 ls st h k n = (oA (lget ls 0) (WP 76 G S f) 128 ls st h k n) := by rw [wp_s dd_76_127 rfl hs]; rfl
theorem dd_76_128 : decode (mB 76) 128 = .ok (.aload_n 1, 1) := by decide +kernel
theorem u_76_128 {G : aG} {S : Nat → Bool} {f : Nat} {st : List Value} {ls : aL} {h : aH} {k n : Nat} (hs : S 128 = false) : WP 76 G S (f + 1) 128 ls st h k n = (oA (lget ls 1) (WP 76 G S f) 129 ls st h k n) := by rw [wp_s dd_76_128 rfl hs]; rfl
theorem dd_76_129 : decode (mB 76) 129 = .ok (.getfield 25, 3) := by decide +kernel
theorem u_76_129 {G : aG} {S : Nat → Bool} {f : Nat} {st : List Value} {ls : aL} {h : aH} {k n : Nat} {a : Nat} (hs : S 129 = false) : WP 76 G S (f + 1) 129 ls (.ref a :: st) h k n = (oV (fget h a 8 1) (WP 76 G S f) 132 ls st h k n) := by rw [wp_s dd_76_129 rfl hs]; rfl
theorem dd_76_132 : decode (mB 76) 132 = .ok (.invokevirtual 58, 3) := by decide +kernel
theorem u_76_132 {G : aG} {S : Nat → Bool} {f : Nat} {st : List Value} {ls : aL} {h : aH} {k n : Nat} {v1 : Value} {b : Nat} (hs : S 132 = false) : WP 76 G S (f + 1) 132 ls (v1 :: .ref b :: st) h k n = (rcv (hget h b) 0 ∧ CAL G (WP 76 G S f) 84 [.ref b, v1] 135 ls st h k n) := by rw [wp_s dd_76_132 rfl hs]; rfl
theorem dd_76_135 : decode (mB 76) 135 = .ok (.iconst (-1), 1) := by decide +kernel
theorem u_76_135 {G : aG} {S : Nat → Bool} {f : Nat} {st : List Value} {ls : aL} {h : aH} {k n : Nat} (hs : S 135 = false) : WP 76 G S (f + 1) 135 ls st h k n = (WP 76 G S f 136 ls (.int (-1) :: st) h k n) := by rw [wp_s dd_76_135 rfl hs]; rfl
theorem dd_76_136 : decode (mB 76) 136 = .ok (.ireturn, 1) := by decide +kernel
theorem u_76_136 {G : aG} {S : Nat → Bool} {f : Nat} {ls : aL} {h : aH} {k n : Nat} {x : Int32} (hs : S 136 = false) : WP 76 G S (f + 1) 136 ls [.int x] h k n = (RET G (some (.int x)) h k n) := by rw [wp_s dd_76_136 rfl hs]; rfl
theorem dd_77_0 : decode (mB 77) 0 = .ok (.aload_n 0, 1) := by decide +kernel
theorem u_77_0 {G : aG} {S : Nat → Bool} {f : Nat} {st : List Value} {ls : aL} {h : aH} {k n : Nat} (hs : S 0 = false) : WP 77 G S (f + 1) 0 ls st h k n = (oA (lget ls 0) (WP 77 G S f) 1 ls st h k n) := by rw [wp_s dd_77_0 rfl hs]; rfl
theorem dd_77_1 : decode (mB 77) 1 = .ok (.iconst 0, 1) := by decide +kernel
theorem u_77_1 {G : aG} {S : Nat → Bool} {f : Nat} {st : List Value} {ls : aL} {h : aH} {k n : Nat} (hs : S 1 = false) : WP 77 G S (f + 1) 1 ls st h k n = (WP 77 G S f 2 ls (.int (nI 0) :: st) h k n) := by rw [wp_s dd_77_1 rfl hs]; rfl
theorem dd_77_2 : decode (mB 77) 2 = .ok (.putfield 45, 3) := by decide +kernel
theorem u_77_2 {G : aG} {S : Nat → Bool} {f : Nat} {st : List Value} {ls : aL} {h : aH} {k n : Nat} {a : Nat} {x : Int32} (hs : S 2 = false) : WP 77 G S (f + 1) 2 ls (.int x :: .ref a :: st) h k n = (oH (fput h a 0 3 (.int x)) (WP 77 G S f) 5 ls st k n) := by rw [wp_s dd_77_2 rfl hs]; rfl
theorem dd_77_5 : decode (mB 77) 5 = .ok (.aload_n 0, 1) := by decide +kernel
theorem u_77_5 {G : aG} {S : Nat → Bool} {f : Nat} {st : List Value} {ls : aL} {h : aH} {k n : Nat} (hs : S 5 = false) : WP 77 G S (f + 1) 5 ls st h k n = (oA (lget ls 0) (WP 77 G S f) 6 ls st h k n) := by rw [wp_s dd_77_5 rfl hs]; rfl
theorem dd_77_6 : decode (mB 77) 6 = .ok (.getfield 9, 3) := by decide +kernel
theorem u_77_6 {G : aG} {S : Nat → Bool} {f : Nat} {st : List Value} {ls : aL} {h : aH} {k n : Nat} {a : Nat} (hs : S 6 = false) : WP 77 G S (f + 1) 6 ls (.ref a :: st) h k n = (oV (fget h a 0 1) (WP 77 G S f) 9 ls st h k n) := by rw [wp_s dd_77_6 rfl hs]; rfl
theorem dd_77_9 : decode (mB 77) 9 = .ok (.iconst 0, 1) := by decide +kernel
theorem u_77_9 {G : aG} {S : Nat → Bool} {f : Nat} {st : List Value} {ls : aL} {h : aH} {k n : Nat} (hs : S 9 = false) : WP 77 G S (f + 1) 9 ls st h k n = (WP 77 G S f 10 ls (.int (nI 0) :: st) h k n) := by rw [wp_s dd_77_9 rfl hs]; rfl
theorem dd_77_10 : decode (mB 77) 10 = .ok (.bipush 8, 2) := by decide +kernel
theorem u_77_10 {G : aG} {S : Nat → Bool} {f : Nat} {st : List Value} {ls : aL} {h : aH} {k n : Nat} (hs : S 10 = false) : WP 77 G S (f + 1) 10 ls st h k n = (WP 77 G S f 12 ls (.int (nI 8) :: st) h k n) := by rw [wp_s dd_77_10 rfl hs]; rfl
theorem dd_77_12 : decode (mB 77) 12 = .ok (.iastore, 1) := by decide +kernel
theorem u_77_12 {G : aG} {S : Nat → Bool} {f : Nat} {st : List Value} {ls : aL} {h : aH} {k n : Nat} {i x : Int32} {a : Nat} (hs : S 12 = false) : WP 77 G S (f + 1) 12 ls (.int x :: .int i :: .ref a :: st) h k n = (oIst (iget h a 1) a i x (WP 77 G S f) 13 ls st h k n) := by rw [wp_s dd_77_12 rfl hs]; rfl
theorem dd_77_13 : decode (mB 77) 13 = .ok (.aload_n 0, 1) := by decide +kernel
theorem u_77_13 {G : aG} {S : Nat → Bool} {f : Nat} {st : List Value} {ls : aL} {h : aH} {k n : Nat} (hs : S 13 = false) : WP 77 G S (f + 1) 13 ls st h k n = (oA (lget ls 0) (WP 77 G S f) 14 ls st h k n) := by rw [wp_s dd_77_13 rfl hs]; rfl
theorem dd_77_14 : decode (mB 77) 14 = .ok (.getfield 15, 3) := by decide +kernel
theorem u_77_14 {G : aG} {S : Nat → Bool} {f : Nat} {st : List Value} {ls : aL} {h : aH} {k n : Nat} {a : Nat} (hs : S 14 = false) : WP 77 G S (f + 1) 14 ls (.ref a :: st) h k n = (oV (fget h a 0 2) (WP 77 G S f) 17 ls st h k n) := by rw [wp_s dd_77_14 rfl hs]; rfl
theorem dd_77_17 : decode (mB 77) 17 = .ok (.iconst 0, 1) := by decide +kernel
theorem u_77_17 {G : aG} {S : Nat → Bool} {f : Nat} {st : List Value} {ls : aL} {h : aH} {k n : Nat} (hs : S 17 = false) : WP 77 G S (f + 1) 17 ls st h k n = (WP 77 G S f 18 ls (.int (nI 0) :: st) h k n) := by rw [wp_s dd_77_17 rfl hs]; rfl
theorem dd_77_18 : decode (mB 77) 18 = .ok (.iconst 0, 1) := by decide +kernel
theorem u_77_18 {G : aG} {S : Nat → Bool} {f : Nat} {st : List Value} {ls : aL} {h : aH} {k n : Nat} (hs : S 18 = false) : WP 77 G S (f + 1) 18 ls st h k n = (WP 77 G S f 19 ls (.int (nI 0) :: st) h k n) := by rw [wp_s dd_77_18 rfl hs]; rfl
theorem dd_77_19 : decode (mB 77) 19 = .ok (.iastore, 1) := by decide +kernel
theorem u_77_19 {G : aG} {S : Nat → Bool} {f : Nat} {st : List Value} {ls : aL} {h : aH} {k n : Nat} {i x : Int32} {a : Nat} (hs : S 19 = false) : WP 77 G S (f + 1) 19 ls (.int x :: .int i :: .ref a :: st) h k n = (oIst (iget h a 1) a i x (WP 77 G S f) 20 ls st h k n) := by rw [wp_s dd_77_19 rfl hs]; rfl
theorem dd_77_20 : decode (mB 77) 20 = .ok (.aload_n 0, 1) := by decide +kernel
theorem u_77_20 {G : aG} {S : Nat → Bool} {f : Nat} {st : List Value} {ls : aL} {h : aH} {k n : Nat} (hs : S 20 = false) : WP 77 G S (f + 1) 20 ls st h k n = (oA (lget ls 0) (WP 77 G S f) 21 ls st h k n) := by rw [wp_s dd_77_20 rfl hs]; rfl
theorem dd_77_21 : decode (mB 77) 21 = .ok (.iconst (-1), 1) := by decide +kernel
theorem u_77_21 {G : aG} {S : Nat → Bool} {f : Nat} {st : List Value} {ls : aL} {h : aH} {k n : Nat} (hs : S 21 = false) : WP 77 G S (f + 1) 21 ls st h k n = (WP 77 G S f 22 ls (.int (-1) :: st) h k n) := by rw [wp_s dd_77_21 rfl hs]; rfl
theorem dd_77_22 : decode (mB 77) 22 = .ok (.putfield 42, 3) := by decide +kernel
theorem u_77_22 {G : aG} {S : Nat → Bool} {f : Nat} {st : List Value} {ls : aL} {h : aH} {k n : Nat} {a : Nat} {x : Int32} (hs : S 22 = false) : WP 77 G S (f + 1) 22 ls (.int x :: .ref a :: st) h k n = (oH (fput h a 0 4 (.int x)) (WP 77 G S f) 25 ls st k n) := by rw [wp_s dd_77_22 rfl hs]; rfl
theorem dd_77_25 : decode (mB 77) 25 = .ok (.aload_n 0, 1) := by decide +kernel
theorem u_77_25 {G : aG} {S : Nat → Bool} {f : Nat} {st : List Value} {ls : aL} {h : aH} {k n : Nat} (hs : S 25 = false) : WP 77 G S (f + 1) 25 ls st h k n = (oA (lget ls 0) (WP 77 G S f) 26 ls st h k n) := by rw [wp_s dd_77_25 rfl hs]; rfl
theorem dd_77_26 : decode (mB 77) 26 = .ok (.iconst (-1), 1) := by decide +kernel
theorem u_77_26 {G : aG} {S : Nat → Bool} {f : Nat} {st : List Value} {ls : aL} {h : aH} {k n : Nat} (hs : S 26 = false) : WP 77 G S (f + 1) 26 ls st h k n = (WP 77 G S f 27 ls (.int (-1) :: st) h k n) := by rw [wp_s dd_77_26 rfl hs]; rfl
theorem dd_77_27 : decode (mB 77) 27 = .ok (.putfield 64, 3) := by decide +kernel
theorem u_77_27 {G : aG} {S : Nat → Bool} {f : Nat} {st : List Value} {ls : aL} {h : aH} {k n : Nat} {a : Nat} {x : Int32} (hs : S 27 = false) : WP 77 G S (f + 1) 27 ls (.int x :: .ref a :: st) h k n = (oH (fput h a 0 5 (.int x)) (WP 77 G S f) 30 ls st k n) := by rw [wp_s dd_77_27 rfl hs]; rfl
theorem dd_77_30 : decode (mB 77) 30 = .ok (.aload_n 0, 1) := by decide +kernel
theorem u_77_30 {G : aG} {S : Nat → Bool} {f : Nat} {st : List Value} {ls : aL} {h : aH} {k n : Nat} (hs : S 30 = false) : WP 77 G S (f + 1) 30 ls st h k n = (oA (lget ls 0) (WP 77 G S f) 31 ls st h k n) := by rw [wp_s dd_77_30 rfl hs]; rfl
theorem dd_77_31 : decode (mB 77) 31 = .ok (.iconst 0, 1) := by decide +kernel
theorem u_77_31 {G : aG} {S : Nat → Bool} {f : Nat} {st : List Value} {ls : aL} {h : aH} {k n : Nat} (hs : S 31 = false) : WP 77 G S (f + 1) 31 ls st h k n = (WP 77 G S f 32 ls (.int (nI 0) :: st) h k n) := by rw [wp_s dd_77_31 rfl hs]; rfl
theorem dd_77_32 : decode (mB 77) 32 = .ok (.putfield 72, 3) := by decide +kernel
theorem u_77_32 {G : aG} {S : Nat → Bool} {f : Nat} {st : List Value} {ls : aL} {h : aH} {k n : Nat} {a : Nat} {x : Int32} (hs : S 32 = false) : WP 77 G S (f + 1) 32 ls (.int x :: .ref a :: st) h k n = (oH (fput h a 0 6 (.int x)) (WP 77 G S f) 35 ls st k n) := by rw [wp_s dd_77_32 rfl hs]; rfl
theorem dd_77_35 : decode (mB 77) 35 = .ok (.aload_n 0, 1) := by decide +kernel
theorem u_77_35 {G : aG} {S : Nat → Bool} {f : Nat} {st : List Value} {ls : aL} {h : aH} {k n : Nat} (hs : S 35 = false) : WP 77 G S (f + 1) 35 ls st h k n = (oA (lget ls 0) (WP 77 G S f) 36 ls st h k n) := by rw [wp_s dd_77_35 rfl hs]; rfl
theorem dd_77_36 : decode (mB 77) 36 = .ok (.iconst 1, 1) := by decide +kernel
theorem u_77_36 {G : aG} {S : Nat → Bool} {f : Nat} {st : List Value} {ls : aL} {h : aH} {k n : Nat} (hs : S 36 = false) : WP 77 G S (f + 1) 36 ls st h k n = (WP 77 G S f 37 ls (.int (nI 1) :: st) h k n) := by rw [wp_s dd_77_36 rfl hs]; rfl
theorem dd_77_37 : decode (mB 77) 37 = .ok (.putfield 75, 3) := by decide +kernel
theorem u_77_37 {G : aG} {S : Nat → Bool} {f : Nat} {st : List Value} {ls : aL} {h : aH} {k n : Nat} {a : Nat} {x : Int32} (hs : S 37 = false) : WP 77 G S (f + 1) 37 ls (.int x :: .ref a :: st) h k n = (cond ((x == nI 0 || x == nI 1) && true) (oH (fput h a 0 7 (.int x)) (WP 77 G S f) 40 ls st k n) False) := by rw [wp_s dd_77_37 rfl hs]; rfl
theorem dd_77_40 : decode (mB 77) 40 = .ok (.aload_n 0, 1) := by decide +kernel
theorem u_77_40 {G : aG} {S : Nat → Bool} {f : Nat} {st : List Value} {ls : aL} {h : aH} {k n : Nat} (hs : S 40 = false) : WP 77 G S (f + 1) 40 ls st h k n = (oA (lget ls 0) (WP 77 G S f) 41 ls st h k n) := by rw [wp_s dd_77_40 rfl hs]; rfl
theorem dd_77_41 : decode (mB 77) 41 = .ok (.iconst 0, 1) := by decide +kernel
theorem u_77_41 {G : aG} {S : Nat → Bool} {f : Nat} {st : List Value} {ls : aL} {h : aH} {k n : Nat} (hs : S 41 = false) : WP 77 G S (f + 1) 41 ls st h k n = (WP 77 G S f 42 ls (.int (nI 0) :: st) h k n) := by rw [wp_s dd_77_41 rfl hs]; rfl
theorem dd_77_42 : decode (mB 77) 42 = .ok (.putfield 61, 3) := by decide +kernel
theorem u_77_42 {G : aG} {S : Nat → Bool} {f : Nat} {st : List Value} {ls : aL} {h : aH} {k n : Nat} {a : Nat} {x : Int32} (hs : S 42 = false) : WP 77 G S (f + 1) 42 ls (.int x :: .ref a :: st) h k n = (oH (fput h a 0 8 (.int x)) (WP 77 G S f) 45 ls st k n) := by rw [wp_s dd_77_42 rfl hs]; rfl
theorem dd_77_45 : decode (mB 77) 45 = .ok (.aload_n 0, 1) := by decide +kernel
theorem u_77_45 {G : aG} {S : Nat → Bool} {f : Nat} {st : List Value} {ls : aL} {h : aH} {k n : Nat} (hs : S 45 = false) : WP 77 G S (f + 1) 45 ls st h k n = (oA (lget ls 0) (WP 77 G S f) 46 ls st h k n) := by rw [wp_s dd_77_45 rfl hs]; rfl
theorem dd_77_46 : decode (mB 77) 46 = .ok (.iconst 0, 1) := by decide +kernel
theorem u_77_46 {G : aG} {S : Nat → Bool} {f : Nat} {st : List Value} {ls : aL} {h : aH} {k n : Nat} (hs : S 46 = false) : WP 77 G S (f + 1) 46 ls st h k n = (WP 77 G S f 47 ls (.int (nI 0) :: st) h k n) := by rw [wp_s dd_77_46 rfl hs]; rfl
theorem dd_77_47 : decode (mB 77) 47 = .ok (.putfield 67, 3) := by decide +kernel
theorem u_77_47 {G : aG} {S : Nat → Bool} {f : Nat} {st : List Value} {ls : aL} {h : aH} {k n : Nat} {a : Nat} {x : Int32} (hs : S 47 = false) : WP 77 G S (f + 1) 47 ls (.int x :: .ref a :: st) h k n = (oH (fput h a 0 9 (.int x)) (WP 77 G S f) 50 ls st k n) := by rw [wp_s dd_77_47 rfl hs]; rfl
theorem dd_77_50 : decode (mB 77) 50 = .ok (.aload_n 0, 1) := by decide +kernel
theorem u_77_50 {G : aG} {S : Nat → Bool} {f : Nat} {st : List Value} {ls : aL} {h : aH} {k n : Nat} (hs : S 50 = false) : WP 77 G S (f + 1) 50 ls st h k n = (oA (lget ls 0) (WP 77 G S f) 51 ls st h k n) := by rw [wp_s dd_77_50 rfl hs]; rfl
theorem dd_77_51 : decode (mB 77) 51 = .ok (.iconst 0, 1) := by decide +kernel
theorem u_77_51 {G : aG} {S : Nat → Bool} {f : Nat} {st : List Value} {ls : aL} {h : aH} {k n : Nat} (hs : S 51 = false) : WP 77 G S (f + 1) 51 ls st h k n = (WP 77 G S f 52 ls (.int (nI 0) :: st) h k n) := by rw [wp_s dd_77_51 rfl hs]; rfl
theorem dd_77_52 : decode (mB 77) 52 = .ok (.putfield 79, 3) := by decide +kernel
theorem u_77_52 {G : aG} {S : Nat → Bool} {f : Nat} {st : List Value} {ls : aL} {h : aH} {k n : Nat} {a : Nat} {x : Int32} (hs : S 52 = false) : WP 77 G S (f + 1) 52 ls (.int x :: .ref a :: st) h k n = (oH (fput h a 0 10 (.int x)) (WP 77 G S f) 55 ls st k n) := by rw [wp_s dd_77_52 rfl hs]; rfl
theorem dd_77_55 : decode (mB 77) 55 = .ok (.return_, 1) := by decide +kernel
theorem u_77_55 {G : aG} {S : Nat → Bool} {f : Nat} {ls : aL} {h : aH} {k n : Nat} (hs : S 55 = false) : WP 77 G S (f + 1) 55 ls [] h k n = (RET G none h k n) := by rw [wp_s dd_77_55 rfl hs]; rfl
theorem dd_78_0 : decode (mB 78) 0 = .ok (.aload_n 0, 1) := by decide +kernel
theorem u_78_0 {G : aG} {S : Nat → Bool} {f : Nat} {st : List Value} {ls : aL} {h : aH} {k n : Nat} (hs : S 0 = false) : WP 78 G S (f + 1) 0 ls st h k n = (oA (lget ls 0) (WP 78 G S f) 1 ls st h k n) := by rw [wp_s dd_78_0 rfl hs]; rfl
theorem dd_78_1 : decode (mB 78) 1 = .ok (.iload_n 2, 1) := by decide +kernel
theorem u_78_1 {G : aG} {S : Nat → Bool} {f : Nat} {st : List Value} {ls : aL} {h : aH} {k n : Nat} (hs : S 1 = false) : WP 78 G S (f + 1) 1 ls st h k n = (oI (lget ls 2) (WP 78 G S f) 2 ls st h k n) := by rw [wp_s dd_78_1 rfl hs]; rfl
theorem dd_78_2 : decode (mB 78) 2 = .ok (.invokevirtual 55, 3) := by decide +kernel
theorem u_78_2 {G : aG} {S : Nat → Bool} {f : Nat} {st : List Value} {ls : aL} {h : aH} {k n : Nat} {v1 : Value} {b : Nat} (hs : S 2 = false) : WP 78 G S (f + 1) 2 ls (v1 :: .ref b :: st) h k n = (rcv (hget h b) 0 ∧ CAL G (WP 78 G S f) 79 [.ref b, v1] 5 ls st h k n) := by rw [wp_s dd_78_2 rfl hs]; rfl
theorem dd_78_5 : decode (mB 78) 5 = .ok (.aload_n 0, 1) := by decide +kernel
theorem u_78_5 {G : aG} {S : Nat → Bool} {f : Nat} {st : List Value} {ls : aL} {h : aH} {k n : Nat} (hs : S 5 = false) : WP 78 G S (f + 1) 5 ls st h k n = (oA (lget ls 0) (WP 78 G S f) 6 ls st h k n) := by rw [wp_s dd_78_5 rfl hs]; rfl
theorem dd_78_6 : decode (mB 78) 6 = .ok (.getfield 64, 3) := by decide +kernel
theorem u_78_6 {G : aG} {S : Nat → Bool} {f : Nat} {st : List Value} {ls : aL} {h : aH} {k n : Nat} {a : Nat} (hs : S 6 = false) : WP 78 G S (f + 1) 6 ls (.ref a :: st) h k n = (oV (fget h a 0 5) (WP 78 G S f) 9 ls st h k n) := by rw [wp_s dd_78_6 rfl hs]; rfl
theorem dd_78_9 : decode (mB 78) 9 = .ok (.iconst (-1), 1) := by decide +kernel
theorem u_78_9 {G : aG} {S : Nat → Bool} {f : Nat} {st : List Value} {ls : aL} {h : aH} {k n : Nat} (hs : S 9 = false) : WP 78 G S (f + 1) 9 ls st h k n = (WP 78 G S f 10 ls (.int (-1) :: st) h k n) := by rw [wp_s dd_78_9 rfl hs]; rfl
theorem dd_78_10 : decode (mB 78) 10 = .ok (.if_icmp .ne 71, 3) := by decide +kernel
theorem u_78_10 {G : aG} {S : Nat → Bool} {f : Nat} {st : List Value} {ls : aL} {h : aH} {k n : Nat} {x y : Int32} (hs : S 10 = false) : WP 78 G S (f + 1) 10 ls (.int y :: .int x :: st) h k n = (if x = y then WP 78 G S f 13 ls st h k n else WP 78 G S f 81 ls st h k n) := by rw [wp_s dd_78_10 rfl hs]; exact br_iten (c := x = y)
theorem dd_78_13 : decode (mB 78) 13 = .ok (.aload_n 0, 1) := by decide +kernel
theorem u_78_13 {G : aG} {S : Nat → Bool} {f : Nat} {st : List Value} {ls : aL} {h : aH} {k n : Nat} (hs : S 13 = false) : WP 78 G S (f + 1) 13 ls st h k n = (oA (lget ls 0) (WP 78 G S f) 14 ls st h k n) := by rw [wp_s dd_78_13 rfl hs]; rfl
theorem dd_78_14 : decode (mB 78) 14 = .ok (.getfield 18, 3) := by decide +kernel
theorem u_78_14 {G : aG} {S : Nat → Bool} {f : Nat} {st : List Value} {ls : aL} {h : aH} {k n : Nat} {a : Nat} (hs : S 14 = false) : WP 78 G S (f + 1) 14 ls (.ref a :: st) h k n = (oV (fget h a 0 0) (WP 78 G S f) 17 ls st h k n) := by rw [wp_s dd_78_14 rfl hs]; rfl
theorem dd_78_17 : decode (mB 78) 17 = .ok (.aload_n 0, 1) := by decide +kernel
theorem u_78_17 {G : aG} {S : Nat → Bool} {f : Nat} {st : List Value} {ls : aL} {h : aH} {k n : Nat} (hs : S 17 = false) : WP 78 G S (f + 1) 17 ls st h k n = (oA (lget ls 0) (WP 78 G S f) 18 ls st h k n) := by rw [wp_s dd_78_17 rfl hs]; rfl
theorem dd_78_18 : decode (mB 78) 18 = .ok (.getfield 9, 3) := by decide +kernel
theorem u_78_18 {G : aG} {S : Nat → Bool} {f : Nat} {st : List Value} {ls : aL} {h : aH} {k n : Nat} {a : Nat} (hs : S 18 = false) : WP 78 G S (f + 1) 18 ls (.ref a :: st) h k n = (oV (fget h a 0 1) (WP 78 G S f) 21 ls st h k n) := by rw [wp_s dd_78_18 rfl hs]; rfl
theorem dd_78_21 : decode (mB 78) 21 = .ok (.aload_n 0, 1) := by decide +kernel
theorem u_78_21 {G : aG} {S : Nat → Bool} {f : Nat} {st : List Value} {ls : aL} {h : aH} {k n : Nat} (hs : S 21 = false) : WP 78 G S (f + 1) 21 ls st h k n = (oA (lget ls 0) (WP 78 G S f) 22 ls st h k n) := by rw [wp_s dd_78_21 rfl hs]; rfl
theorem dd_78_22 : decode (mB 78) 22 = .ok (.getfield 45, 3) := by decide +kernel
theorem u_78_22 {G : aG} {S : Nat → Bool} {f : Nat} {st : List Value} {ls : aL} {h : aH} {k n : Nat} {a : Nat} (hs : S 22 = false) : WP 78 G S (f + 1) 22 ls (.ref a :: st) h k n = (oV (fget h a 0 3) (WP 78 G S f) 25 ls st h k n) := by rw [wp_s dd_78_22 rfl hs]; rfl
theorem dd_78_25 : decode (mB 78) 25 = .ok (.iaload, 1) := by decide +kernel
theorem u_78_25 {G : aG} {S : Nat → Bool} {f : Nat} {st : List Value} {ls : aL} {h : aH} {k n : Nat} {i : Int32} {a : Nat} (hs : S 25 = false) : WP 78 G S (f + 1) 25 ls (.int i :: .ref a :: st) h k n = (oIld (iget h a 1) i (WP 78 G S f) 26 ls st h k n) := by rw [wp_s dd_78_25 rfl hs]; rfl
theorem dd_78_26 : decode (mB 78) 26 = .ok (.invokevirtual 82, 3) := by decide +kernel
theorem u_78_26 {G : aG} {S : Nat → Bool} {f : Nat} {st : List Value} {ls : aL} {h : aH} {k n : Nat} {v1 : Value} {b : Nat} (hs : S 26 = false) : WP 78 G S (f + 1) 26 ls (v1 :: .ref b :: st) h k n = (rcv (hget h b) 3 ∧ CAL G (WP 78 G S f) 58 [.ref b, v1] 29 ls st h k n) := by rw [wp_s dd_78_26 rfl hs]; rfl
theorem dd_78_29 : decode (mB 78) 29 = .ok (.astore_n 3, 1) := by decide +kernel
theorem u_78_29 {G : aG} {S : Nat → Bool} {f : Nat} {st : List Value} {ls : aL} {h : aH} {k n : Nat} {x : Nat} (hs : S 29 = false) : WP 78 G S (f + 1) 29 ls (.ref x :: st) h k n = (WP 78 G S f 30 (lput1 ls 3 (.ref x)) st h k n) := by rw [wp_s dd_78_29 rfl hs]; rfl
theorem dd_78_30 : decode (mB 78) 30 = .ok (.aload_n 3, 1) := by decide +kernel
theorem u_78_30 {G : aG} {S : Nat → Bool} {f : Nat} {st : List Value} {ls : aL} {h : aH} {k n : Nat} (hs : S 30 = false) : WP 78 G S (f + 1) 30 ls st h k n = (oA (lget ls 3) (WP 78 G S f) 31 ls st h k n) := by rw [wp_s dd_78_30 rfl hs]; rfl
theorem dd_78_31 : decode (mB 78) 31 = .ok (.aload_n 0, 1) := by decide +kernel
theorem u_78_31 {G : aG} {S : Nat → Bool} {f : Nat} {st : List Value} {ls : aL} {h : aH} {k n : Nat} (hs : S 31 = false) : WP 78 G S (f + 1) 31 ls st h k n = (oA (lget ls 0) (WP 78 G S f) 32 ls st h k n) := by rw [wp_s dd_78_31 rfl hs]; rfl
theorem dd_78_32 : decode (mB 78) 32 = .ok (.getfield 15, 3) := by decide +kernel
theorem u_78_32 {G : aG} {S : Nat → Bool} {f : Nat} {st : List Value} {ls : aL} {h : aH} {k n : Nat} {a : Nat} (hs : S 32 = false) : WP 78 G S (f + 1) 32 ls (.ref a :: st) h k n = (oV (fget h a 0 2) (WP 78 G S f) 35 ls st h k n) := by rw [wp_s dd_78_32 rfl hs]; rfl
theorem dd_78_35 : decode (mB 78) 35 = .ok (.aload_n 0, 1) := by decide +kernel
theorem u_78_35 {G : aG} {S : Nat → Bool} {f : Nat} {st : List Value} {ls : aL} {h : aH} {k n : Nat} (hs : S 35 = false) : WP 78 G S (f + 1) 35 ls st h k n = (oA (lget ls 0) (WP 78 G S f) 36 ls st h k n) := by rw [wp_s dd_78_35 rfl hs]; rfl
theorem dd_78_36 : decode (mB 78) 36 = .ok (.getfield 45, 3) := by decide +kernel
theorem u_78_36 {G : aG} {S : Nat → Bool} {f : Nat} {st : List Value} {ls : aL} {h : aH} {k n : Nat} {a : Nat} (hs : S 36 = false) : WP 78 G S (f + 1) 36 ls (.ref a :: st) h k n = (oV (fget h a 0 3) (WP 78 G S f) 39 ls st h k n) := by rw [wp_s dd_78_36 rfl hs]; rfl
theorem dd_78_39 : decode (mB 78) 39 = .ok (.iaload, 1) := by decide +kernel
theorem u_78_39 {G : aG} {S : Nat → Bool} {f : Nat} {st : List Value} {ls : aL} {h : aH} {k n : Nat} {i : Int32} {a : Nat} (hs : S 39 = false) : WP 78 G S (f + 1) 39 ls (.int i :: .ref a :: st) h k n = (oIld (iget h a 1) i (WP 78 G S f) 40 ls st h k n) := by rw [wp_s dd_78_39 rfl hs]; rfl
theorem dd_78_40 : decode (mB 78) 40 = .ok (.iload_n 1, 1) := by decide +kernel
theorem u_78_40 {G : aG} {S : Nat → Bool} {f : Nat} {st : List Value} {ls : aL} {h : aH} {k n : Nat} (hs : S 40 = false) : WP 78 G S (f + 1) 40 ls st h k n = (oI (lget ls 1) (WP 78 G S f) 41 ls st h k n) := by rw [wp_s dd_78_40 rfl hs]; rfl
theorem dd_78_41 : decode (mB 78) 41 = .ok (.invokevirtual 87, 3) := by decide +kernel
theorem u_78_41 {G : aG} {S : Nat → Bool} {f : Nat} {st : List Value} {ls : aL} {h : aH} {k n : Nat} {v1 v2 : Value} {b : Nat} (hs : S 41 = false) : WP 78 G S (f + 1) 41 ls (v2 :: v1 :: .ref b :: st) h k n = (rcv (hget h b) 2 ∧ CAL G (WP 78 G S f) 71 [.ref b, v1, v2] 44 ls st h k n) := by rw [wp_s dd_78_41 rfl hs]; rfl
theorem dd_78_44 : decode (mB 78) 44 = .ok (.istore 4, 2) := by decide +kernel
theorem u_78_44 {G : aG} {S : Nat → Bool} {f : Nat} {st : List Value} {ls : aL} {h : aH} {k n : Nat} {x : Int32} (hs : S 44 = false) : WP 78 G S (f + 1) 44 ls (.int x :: st) h k n = (WP 78 G S f 46 (lput1 ls 4 (.int x)) st h k n) := by rw [wp_s dd_78_44 rfl hs]; rfl
theorem dd_78_46 : decode (mB 78) 46 = .ok (.iload 4, 2) := by decide +kernel
theorem u_78_46 {G : aG} {S : Nat → Bool} {f : Nat} {st : List Value} {ls : aL} {h : aH} {k n : Nat} (hs : S 46 = false) : WP 78 G S (f + 1) 46 ls st h k n = (oI (lget ls 4) (WP 78 G S f) 48 ls st h k n) := by rw [wp_s dd_78_46 rfl hs]; rfl
theorem dd_78_48 : decode (mB 78) 48 = .ok (.iconst (-1), 1) := by decide +kernel
theorem u_78_48 {G : aG} {S : Nat → Bool} {f : Nat} {st : List Value} {ls : aL} {h : aH} {k n : Nat} (hs : S 48 = false) : WP 78 G S (f + 1) 48 ls st h k n = (WP 78 G S f 49 ls (.int (-1) :: st) h k n) := by rw [wp_s dd_78_48 rfl hs]; rfl
theorem dd_78_49 : decode (mB 78) 49 = .ok (.if_icmp .ne 21, 3) := by decide +kernel
theorem u_78_49 {G : aG} {S : Nat → Bool} {f : Nat} {st : List Value} {ls : aL} {h : aH} {k n : Nat} {x y : Int32} (hs : S 49 = false) : WP 78 G S (f + 1) 49 ls (.int y :: .int x :: st) h k n = (if x = y then WP 78 G S f 52 ls st h k n else WP 78 G S f 70 ls st h k n) := by rw [wp_s dd_78_49 rfl hs]; exact br_iten (c := x = y)
theorem dd_78_52 : decode (mB 78) 52 = .ok (.aload_n 0, 1) := by decide +kernel
theorem u_78_52 {G : aG} {S : Nat → Bool} {f : Nat} {st : List Value} {ls : aL} {h : aH} {k n : Nat} (hs : S 52 = false) : WP 78 G S (f + 1) 52 ls st h k n = (oA (lget ls 0) (WP 78 G S f) 53 ls st h k n) := by rw [wp_s dd_78_52 rfl hs]; rfl
theorem dd_78_53 : decode (mB 78) 53 = .ok (.iload_n 2, 1) := by decide +kernel
theorem u_78_53 {G : aG} {S : Nat → Bool} {f : Nat} {st : List Value} {ls : aL} {h : aH} {k n : Nat} (hs : S 53 = false) : WP 78 G S (f + 1) 53 ls st h k n = (oI (lget ls 2) (WP 78 G S f) 54 ls st h k n) := by rw [wp_s dd_78_53 rfl hs]; rfl
theorem dd_78_54 : decode (mB 78) 54 = .ok (.aload_n 3, 1) := by decide +kernel
theorem u_78_54 {G : aG} {S : Nat → Bool} {f : Nat} {st : List Value} {ls : aL} {h : aH} {k n : Nat} (hs : S 54 = false) : WP 78 G S (f + 1) 54 ls st h k n = (oA (lget ls 3) (WP 78 G S f) 55 ls st h k n) := by rw [wp_s dd_78_54 rfl hs]; rfl
theorem dd_78_55 : decode (mB 78) 55 = .ok (.aload_n 0, 1) := by decide +kernel
theorem u_78_55 {G : aG} {S : Nat → Bool} {f : Nat} {st : List Value} {ls : aL} {h : aH} {k n : Nat} (hs : S 55 = false) : WP 78 G S (f + 1) 55 ls st h k n = (oA (lget ls 0) (WP 78 G S f) 56 ls st h k n) := by rw [wp_s dd_78_55 rfl hs]; rfl
theorem dd_78_56 : decode (mB 78) 56 = .ok (.getfield 15, 3) := by decide +kernel
theorem u_78_56 {G : aG} {S : Nat → Bool} {f : Nat} {st : List Value} {ls : aL} {h : aH} {k n : Nat} {a : Nat} (hs : S 56 = false) : WP 78 G S (f + 1) 56 ls (.ref a :: st) h k n = (oV (fget h a 0 2) (WP 78 G S f) 59 ls st h k n) := by rw [wp_s dd_78_56 rfl hs]; rfl
theorem dd_78_59 : decode (mB 78) 59 = .ok (.aload_n 0, 1) := by decide +kernel
theorem u_78_59 {G : aG} {S : Nat → Bool} {f : Nat} {st : List Value} {ls : aL} {h : aH} {k n : Nat} (hs : S 59 = false) : WP 78 G S (f + 1) 59 ls st h k n = (oA (lget ls 0) (WP 78 G S f) 60 ls st h k n) := by rw [wp_s dd_78_59 rfl hs]; rfl
theorem dd_78_60 : decode (mB 78) 60 = .ok (.getfield 45, 3) := by decide +kernel
theorem u_78_60 {G : aG} {S : Nat → Bool} {f : Nat} {st : List Value} {ls : aL} {h : aH} {k n : Nat} {a : Nat} (hs : S 60 = false) : WP 78 G S (f + 1) 60 ls (.ref a :: st) h k n = (oV (fget h a 0 3) (WP 78 G S f) 63 ls st h k n) := by rw [wp_s dd_78_60 rfl hs]; rfl
theorem dd_78_63 : decode (mB 78) 63 = .ok (.iaload, 1) := by decide +kernel
theorem u_78_63 {G : aG} {S : Nat → Bool} {f : Nat} {st : List Value} {ls : aL} {h : aH} {k n : Nat} {i : Int32} {a : Nat} (hs : S 63 = false) : WP 78 G S (f + 1) 63 ls (.int i :: .ref a :: st) h k n = (oIld (iget h a 1) i (WP 78 G S f) 64 ls st h k n) := by rw [wp_s dd_78_63 rfl hs]; rfl
theorem dd_78_64 : decode (mB 78) 64 = .ok (.invokevirtual 91, 3) := by decide +kernel
theorem u_78_64 {G : aG} {S : Nat → Bool} {f : Nat} {st : List Value} {ls : aL} {h : aH} {k n : Nat} {v1 v2 v3 : Value} {b : Nat} (hs : S 64 = false) : WP 78 G S (f + 1) 64 ls (v3 :: v2 :: v1 :: .ref b :: st) h k n = (rcv (hget h b) 0 ∧ CAL G (WP 78 G S f) 81 [.ref b, v1, v2, v3] 67 ls st h k n) := by rw [wp_s dd_78_64 rfl hs]; rfl
theorem dd_78_67 : decode (mB 78) 67 = .ok (.goto 14, 3) := by decide +kernel
theorem u_78_67 {G : aG} {S : Nat → Bool} {f : Nat} {st : List Value} {ls : aL} {h : aH} {k n : Nat} (hs : S 67 = false) : WP 78 G S (f + 1) 67 ls st h k n = (WP 78 G S f 81 ls st h k n) := by rw [wp_s dd_78_67 rfl hs]; rfl
theorem dd_78_70 : decode (mB 78) 70 = .ok (.aload_n 0, 1) := by decide +kernel
theorem u_78_70 {G : aG} {S : Nat → Bool} {f : Nat} {st : List Value} {ls : aL} {h : aH} {k n : Nat} (hs : S 70 = false) : WP 78 G S (f + 1) 70 ls st h k n = (oA (lget ls 0) (WP 78 G S f) 71 ls st h k n) := by rw [wp_s dd_78_70 rfl hs]; rfl
theorem dd_78_71 : decode (mB 78) 71 = .ok (.getfield 15, 3) := by decide +kernel
theorem u_78_71 {G : aG} {S : Nat → Bool} {f : Nat} {st : List Value} {ls : aL} {h : aH} {k n : Nat} {a : Nat} (hs : S 71 = false) : WP 78 G S (f + 1) 71 ls (.ref a :: st) h k n = (oV (fget h a 0 2) (WP 78 G S f) 74 ls st h k n) := by rw [wp_s dd_78_71 rfl hs]; rfl
theorem dd_78_74 : decode (mB 78) 74 = .ok (.aload_n 0, 1) := by decide +kernel
theorem u_78_74 {G : aG} {S : Nat → Bool} {f : Nat} {st : List Value} {ls : aL} {h : aH} {k n : Nat} (hs : S 74 = false) : WP 78 G S (f + 1) 74 ls st h k n = (oA (lget ls 0) (WP 78 G S f) 75 ls st h k n) := by rw [wp_s dd_78_74 rfl hs]; rfl
theorem dd_78_75 : decode (mB 78) 75 = .ok (.getfield 45, 3) := by decide +kernel
theorem u_78_75 {G : aG} {S : Nat → Bool} {f : Nat} {st : List Value} {ls : aL} {h : aH} {k n : Nat} {a : Nat} (hs : S 75 = false) : WP 78 G S (f + 1) 75 ls (.ref a :: st) h k n = (oV (fget h a 0 3) (WP 78 G S f) 78 ls st h k n) := by rw [wp_s dd_78_75 rfl hs]; rfl
theorem dd_78_78 : decode (mB 78) 78 = .ok (.iload 4, 2) := by decide +kernel
theorem u_78_78 {G : aG} {S : Nat → Bool} {f : Nat} {st : List Value} {ls : aL} {h : aH} {k n : Nat} (hs : S 78 = false) : WP 78 G S (f + 1) 78 ls st h k n = (oI (lget ls 4) (WP 78 G S f) 80 ls st h k n) := by rw [wp_s dd_78_78 rfl hs]; rfl
theorem dd_78_80 : decode (mB 78) 80 = .ok (.iastore, 1) := by decide +kernel
theorem u_78_80 {G : aG} {S : Nat → Bool} {f : Nat} {st : List Value} {ls : aL} {h : aH} {k n : Nat} {i x : Int32} {a : Nat} (hs : S 80 = false) : WP 78 G S (f + 1) 80 ls (.int x :: .int i :: .ref a :: st) h k n = (oIst (iget h a 1) a i x (WP 78 G S f) 81 ls st h k n) := by rw [wp_s dd_78_80 rfl hs]; rfl
theorem dd_78_81 : decode (mB 78) 81 = .ok (.aload_n 0, 1) := by decide +kernel
theorem u_78_81 {G : aG} {S : Nat → Bool} {f : Nat} {st : List Value} {ls : aL} {h : aH} {k n : Nat} (hs : S 81 = false) : WP 78 G S (f + 1) 81 ls st h k n = (oA (lget ls 0) (WP 78 G S f) 82 ls st h k n) := by rw [wp_s dd_78_81 rfl hs]; rfl
theorem dd_78_82 : decode (mB 78) 82 = .ok (.dup, 1) := by decide +kernel
theorem u_78_82 {G : aG} {S : Nat → Bool} {f : Nat} {st : List Value} {ls : aL} {h : aH} {k n : Nat} {v : Value} (hs : S 82 = false) : WP 78 G S (f + 1) 82 ls (v :: st) h k n = (cond (cat1 v) (WP 78 G S f 83 ls (v :: v :: st) h k n) False) := by rw [wp_s dd_78_82 rfl hs]; rfl
theorem dd_78_83 : decode (mB 78) 83 = .ok (.getfield 61, 3) := by decide +kernel
theorem u_78_83 {G : aG} {S : Nat → Bool} {f : Nat} {st : List Value} {ls : aL} {h : aH} {k n : Nat} {a : Nat} (hs : S 83 = false) : WP 78 G S (f + 1) 83 ls (.ref a :: st) h k n = (oV (fget h a 0 8) (WP 78 G S f) 86 ls st h k n) := by rw [wp_s dd_78_83 rfl hs]; rfl
theorem dd_78_86 : decode (mB 78) 86 = .ok (.iconst 1, 1) := by decide +kernel
theorem u_78_86 {G : aG} {S : Nat → Bool} {f : Nat} {st : List Value} {ls : aL} {h : aH} {k n : Nat} (hs : S 86 = false) : WP 78 G S (f + 1) 86 ls st h k n = (WP 78 G S f 87 ls (.int (nI 1) :: st) h k n) := by rw [wp_s dd_78_86 rfl hs]; rfl
theorem dd_78_87 : decode (mB 78) 87 = .ok (.iadd, 1) := by decide +kernel
theorem u_78_87 {G : aG} {S : Nat → Bool} {f : Nat} {st : List Value} {ls : aL} {h : aH} {k n : Nat} {x y : Int32} (hs : S 87 = false) : WP 78 G S (f + 1) 87 ls (.int y :: .int x :: st) h k n = (WP 78 G S f 88 ls (.int (x + y) :: st) h k n) := by rw [wp_s dd_78_87 rfl hs]; rfl
theorem dd_78_88 : decode (mB 78) 88 = .ok (.putfield 61, 3) := by decide +kernel
theorem u_78_88 {G : aG} {S : Nat → Bool} {f : Nat} {st : List Value} {ls : aL} {h : aH} {k n : Nat} {a : Nat} {x : Int32} (hs : S 88 = false) : WP 78 G S (f + 1) 88 ls (.int x :: .ref a :: st) h k n = (oH (fput h a 0 8 (.int x)) (WP 78 G S f) 91 ls st k n) := by rw [wp_s dd_78_88 rfl hs]; rfl
theorem dd_78_91 : decode (mB 78) 91 = .ok (.aload_n 0, 1) := by decide +kernel
theorem u_78_91 {G : aG} {S : Nat → Bool} {f : Nat} {st : List Value} {ls : aL} {h : aH} {k n : Nat} (hs : S 91 = false) : WP 78 G S (f + 1) 91 ls st h k n = (oA (lget ls 0) (WP 78 G S f) 92 ls st h k n) := by rw [wp_s dd_78_91 rfl hs]; rfl
theorem dd_78_92 : decode (mB 78) 92 = .ok (.aload_n 0, 1) := by decide +kernel
theorem u_78_92 {G : aG} {S : Nat → Bool} {f : Nat} {st : List Value} {ls : aL} {h : aH} {k n : Nat} (hs : S 92 = false) : WP 78 G S (f + 1) 92 ls st h k n = (oA (lget ls 0) (WP 78 G S f) 93 ls st h k n) := by rw [wp_s dd_78_92 rfl hs]; rfl
theorem dd_78_93 : decode (mB 78) 93 = .ok (.getfield 79, 3) := by decide +kernel
theorem u_78_93 {G : aG} {S : Nat → Bool} {f : Nat} {st : List Value} {ls : aL} {h : aH} {k n : Nat} {a : Nat} (hs : S 93 = false) : WP 78 G S (f + 1) 93 ls (.ref a :: st) h k n = (oV (fget h a 0 10) (WP 78 G S f) 96 ls st h k n) := by rw [wp_s dd_78_93 rfl hs]; rfl
theorem dd_78_96 : decode (mB 78) 96 = .ok (.aload_n 0, 1) := by decide +kernel
theorem u_78_96 {G : aG} {S : Nat → Bool} {f : Nat} {st : List Value} {ls : aL} {h : aH} {k n : Nat} (hs : S 96 = false) : WP 78 G S (f + 1) 96 ls st h k n = (oA (lget ls 0) (WP 78 G S f) 97 ls st h k n) := by rw [wp_s dd_78_96 rfl hs]; rfl
theorem dd_78_97 : decode (mB 78) 97 = .ok (.getfield 45, 3) := by decide +kernel
theorem u_78_97 {G : aG} {S : Nat → Bool} {f : Nat} {st : List Value} {ls : aL} {h : aH} {k n : Nat} {a : Nat} (hs : S 97 = false) : WP 78 G S (f + 1) 97 ls (.ref a :: st) h k n = (oV (fget h a 0 3) (WP 78 G S f) 100 ls st h k n) := by rw [wp_s dd_78_97 rfl hs]; rfl
theorem dd_78_100 : decode (mB 78) 100 = .ok (.iconst 1, 1) := by decide +kernel
theorem u_78_100 {G : aG} {S : Nat → Bool} {f : Nat} {st : List Value} {ls : aL} {h : aH} {k n : Nat} (hs : S 100 = false) : WP 78 G S (f + 1) 100 ls st h k n = (WP 78 G S f 101 ls (.int (nI 1) :: st) h k n) := by rw [wp_s dd_78_100 rfl hs]; rfl
theorem dd_78_101 : decode (mB 78) 101 = .ok (.iadd, 1) := by decide +kernel
theorem u_78_101 {G : aG} {S : Nat → Bool} {f : Nat} {st : List Value} {ls : aL} {h : aH} {k n : Nat} {x y : Int32} (hs : S 101 = false) : WP 78 G S (f + 1) 101 ls (.int y :: .int x :: st) h k n = (WP 78 G S f 102 ls (.int (x + y) :: st) h k n) := by rw [wp_s dd_78_101 rfl hs]; rfl
theorem dd_78_102 : decode (mB 78) 102 = .ok (.invokestatic 95, 3) := by decide +kernel
theorem u_78_102 {G : aG} {S : Nat → Bool} {f : Nat} {st : List Value} {ls : aL} {h : aH} {k n : Nat} {v1 v2 : Value} (hs : S 102 = false) : WP 78 G S (f + 1) 102 ls (v2 :: v1 :: st) h k n = (CAL G (WP 78 G S f) 25 [v1, v2] 105 ls st h k n) := by rw [wp_s dd_78_102 rfl hs]; rfl
theorem dd_78_105 : decode (mB 78) 105 = .ok (.putfield 79, 3) := by decide +kernel
theorem u_78_105 {G : aG} {S : Nat → Bool} {f : Nat} {st : List Value} {ls : aL} {h : aH} {k n : Nat} {a : Nat} {x : Int32} (hs : S 105 = false) : WP 78 G S (f + 1) 105 ls (.int x :: .ref a :: st) h k n = (oH (fput h a 0 10 (.int x)) (WP 78 G S f) 108 ls st k n) := by rw [wp_s dd_78_105 rfl hs]; rfl
theorem dd_78_108 : decode (mB 78) 108 = .ok (.aload_n 0, 1) := by decide +kernel
theorem u_78_108 {G : aG} {S : Nat → Bool} {f : Nat} {st : List Value} {ls : aL} {h : aH} {k n : Nat} (hs : S 108 = false) : WP 78 G S (f + 1) 108 ls st h k n = (oA (lget ls 0) (WP 78 G S f) 109 ls st h k n) := by rw [wp_s dd_78_108 rfl hs]; rfl
theorem dd_78_109 : decode (mB 78) 109 = .ok (.iload_n 1, 1) := by decide +kernel
theorem u_78_109 {G : aG} {S : Nat → Bool} {f : Nat} {st : List Value} {ls : aL} {h : aH} {k n : Nat} (hs : S 109 = false) : WP 78 G S (f + 1) 109 ls st h k n = (oI (lget ls 1) (WP 78 G S f) 110 ls st h k n) := by rw [wp_s dd_78_109 rfl hs]; rfl
theorem dd_78_110 : decode (mB 78) 110 = .ok (.putfield 42, 3) := by decide +kernel
theorem u_78_110 {G : aG} {S : Nat → Bool} {f : Nat} {st : List Value} {ls : aL} {h : aH} {k n : Nat} {a : Nat} {x : Int32} (hs : S 110 = false) : WP 78 G S (f + 1) 110 ls (.int x :: .ref a :: st) h k n = (oH (fput h a 0 4 (.int x)) (WP 78 G S f) 113 ls st k n) := by rw [wp_s dd_78_110 rfl hs]; rfl
theorem dd_78_113 : decode (mB 78) 113 = .ok (.return_, 1) := by decide +kernel
theorem u_78_113 {G : aG} {S : Nat → Bool} {f : Nat} {ls : aL} {h : aH} {k n : Nat} (hs : S 113 = false) : WP 78 G S (f + 1) 113 ls [] h k n = (RET G none h k n) := by rw [wp_s dd_78_113 rfl hs]; rfl
theorem dd_79_0 : decode (mB 79) 0 = .ok (.aload_n 0, 1) := by decide +kernel
theorem u_79_0 {G : aG} {S : Nat → Bool} {f : Nat} {st : List Value} {ls : aL} {h : aH} {k n : Nat} (hs : S 0 = false) : WP 79 G S (f + 1) 0 ls st h k n = (oA (lget ls 0) (WP 79 G S f) 1 ls st h k n) := by rw [wp_s dd_79_0 rfl hs]; rfl
theorem dd_79_1 : decode (mB 79) 1 = .ok (.getfield 42, 3) := by decide +kernel
theorem u_79_1 {G : aG} {S : Nat → Bool} {f : Nat} {st : List Value} {ls : aL} {h : aH} {k n : Nat} {a : Nat} (hs : S 1 = false) : WP 79 G S (f + 1) 1 ls (.ref a :: st) h k n = (oV (fget h a 0 4) (WP 79 G S f) 4 ls st h k n) := by rw [wp_s dd_79_1 rfl hs]; rfl
theorem dd_79_4 : decode (mB 79) 4 = .ok (.iconst (-1), 1) := by decide +kernel
theorem u_79_4 {G : aG} {S : Nat → Bool} {f : Nat} {st : List Value} {ls : aL} {h : aH} {k n : Nat} (hs : S 4 = false) : WP 79 G S (f + 1) 4 ls st h k n = (WP 79 G S f 5 ls (.int (-1) :: st) h k n) := by rw [wp_s dd_79_4 rfl hs]; rfl
theorem dd_79_5 : decode (mB 79) 5 = .ok (.if_icmp .eq 18, 3) := by decide +kernel
theorem u_79_5 {G : aG} {S : Nat → Bool} {f : Nat} {st : List Value} {ls : aL} {h : aH} {k n : Nat} {x y : Int32} (hs : S 5 = false) : WP 79 G S (f + 1) 5 ls (.int y :: .int x :: st) h k n = (if x = y then WP 79 G S f 23 ls st h k n else WP 79 G S f 8 ls st h k n) := by rw [wp_s dd_79_5 rfl hs]; exact br_ite (c := x = y)
theorem dd_79_8 : decode (mB 79) 8 = .ok (.aload_n 0, 1) := by decide +kernel
theorem u_79_8 {G : aG} {S : Nat → Bool} {f : Nat} {st : List Value} {ls : aL} {h : aH} {k n : Nat} (hs : S 8 = false) : WP 79 G S (f + 1) 8 ls st h k n = (oA (lget ls 0) (WP 79 G S f) 9 ls st h k n) := by rw [wp_s dd_79_8 rfl hs]; rfl
theorem dd_79_9 : decode (mB 79) 9 = .ok (.iload_n 1, 1) := by decide +kernel
theorem u_79_9 {G : aG} {S : Nat → Bool} {f : Nat} {st : List Value} {ls : aL} {h : aH} {k n : Nat} (hs : S 9 = false) : WP 79 G S (f + 1) 9 ls st h k n = (oI (lget ls 1) (WP 79 G S f) 10 ls st h k n) := by rw [wp_s dd_79_9 rfl hs]; rfl
theorem dd_79_10 : decode (mB 79) 10 = .ok (.aload_n 0, 1) := by decide +kernel
theorem u_79_10 {G : aG} {S : Nat → Bool} {f : Nat} {st : List Value} {ls : aL} {h : aH} {k n : Nat} (hs : S 10 = false) : WP 79 G S (f + 1) 10 ls st h k n = (oA (lget ls 0) (WP 79 G S f) 11 ls st h k n) := by rw [wp_s dd_79_10 rfl hs]; rfl
theorem dd_79_11 : decode (mB 79) 11 = .ok (.getfield 42, 3) := by decide +kernel
theorem u_79_11 {G : aG} {S : Nat → Bool} {f : Nat} {st : List Value} {ls : aL} {h : aH} {k n : Nat} {a : Nat} (hs : S 11 = false) : WP 79 G S (f + 1) 11 ls (.ref a :: st) h k n = (oV (fget h a 0 4) (WP 79 G S f) 14 ls st h k n) := by rw [wp_s dd_79_11 rfl hs]; rfl
theorem dd_79_14 : decode (mB 79) 14 = .ok (.iconst 0, 1) := by decide +kernel
theorem u_79_14 {G : aG} {S : Nat → Bool} {f : Nat} {st : List Value} {ls : aL} {h : aH} {k n : Nat} (hs : S 14 = false) : WP 79 G S (f + 1) 14 ls st h k n = (WP 79 G S f 15 ls (.int (nI 0) :: st) h k n) := by rw [wp_s dd_79_14 rfl hs]; rfl
theorem dd_79_15 : decode (mB 79) 15 = .ok (.invokevirtual 100, 3) := by decide +kernel
theorem u_79_15 {G : aG} {S : Nat → Bool} {f : Nat} {st : List Value} {ls : aL} {h : aH} {k n : Nat} {v1 v2 v3 : Value} {b : Nat} (hs : S 15 = false) : WP 79 G S (f + 1) 15 ls (v3 :: v2 :: v1 :: .ref b :: st) h k n = (rcv (hget h b) 0 ∧ CAL G (WP 79 G S f) 80 [.ref b, v1, v2, v3] 18 ls st h k n) := by rw [wp_s dd_79_15 rfl hs]; rfl
theorem dd_79_18 : decode (mB 79) 18 = .ok (.aload_n 0, 1) := by decide +kernel
theorem u_79_18 {G : aG} {S : Nat → Bool} {f : Nat} {st : List Value} {ls : aL} {h : aH} {k n : Nat} (hs : S 18 = false) : WP 79 G S (f + 1) 18 ls st h k n = (oA (lget ls 0) (WP 79 G S f) 19 ls st h k n) := by rw [wp_s dd_79_18 rfl hs]; rfl
theorem dd_79_19 : decode (mB 79) 19 = .ok (.iconst (-1), 1) := by decide +kernel
theorem u_79_19 {G : aG} {S : Nat → Bool} {f : Nat} {st : List Value} {ls : aL} {h : aH} {k n : Nat} (hs : S 19 = false) : WP 79 G S (f + 1) 19 ls st h k n = (WP 79 G S f 20 ls (.int (-1) :: st) h k n) := by rw [wp_s dd_79_19 rfl hs]; rfl
theorem dd_79_20 : decode (mB 79) 20 = .ok (.putfield 42, 3) := by decide +kernel
theorem u_79_20 {G : aG} {S : Nat → Bool} {f : Nat} {st : List Value} {ls : aL} {h : aH} {k n : Nat} {a : Nat} {x : Int32} (hs : S 20 = false) : WP 79 G S (f + 1) 20 ls (.int x :: .ref a :: st) h k n = (oH (fput h a 0 4 (.int x)) (WP 79 G S f) 23 ls st k n) := by rw [wp_s dd_79_20 rfl hs]; rfl
theorem dd_79_23 : decode (mB 79) 23 = .ok (.return_, 1) := by decide +kernel
theorem u_79_23 {G : aG} {S : Nat → Bool} {f : Nat} {ls : aL} {h : aH} {k n : Nat} (hs : S 23 = false) : WP 79 G S (f + 1) 23 ls [] h k n = (RET G none h k n) := by rw [wp_s dd_79_23 rfl hs]; rfl
theorem dd_80_0 : decode (mB 80) 0 = .ok (.aload_n 0, 1) := by decide +kernel
theorem u_80_0 {G : aG} {S : Nat → Bool} {f : Nat} {st : List Value} {ls : aL} {h : aH} {k n : Nat} (hs : S 0 = false) : WP 80 G S (f + 1) 0 ls st h k n = (oA (lget ls 0) (WP 80 G S f) 1 ls st h k n) := by rw [wp_s dd_80_0 rfl hs]; rfl
theorem dd_80_1 : decode (mB 80) 1 = .ok (.getfield 64, 3) := by decide +kernel
theorem u_80_1 {G : aG} {S : Nat → Bool} {f : Nat} {st : List Value} {ls : aL} {h : aH} {k n : Nat} {a : Nat} (hs : S 1 = false) : WP 80 G S (f + 1) 1 ls (.ref a :: st) h k n = (oV (fget h a 0 5) (WP 80 G S f) 4 ls st h k n) := by rw [wp_s dd_80_1 rfl hs]; rfl
theorem dd_80_4 : decode (mB 80) 4 = .ok (.iconst (-1), 1) := by decide +kernel
theorem u_80_4 {G : aG} {S : Nat → Bool} {f : Nat} {st : List Value} {ls : aL} {h : aH} {k n : Nat} (hs : S 4 = false) : WP 80 G S (f + 1) 4 ls st h k n = (WP 80 G S f 5 ls (.int (-1) :: st) h k n) := by rw [wp_s dd_80_4 rfl hs]; rfl
theorem dd_80_5 : decode (mB 80) 5 = .ok (.if_icmp .ne 30, 3) := by decide +kernel
theorem u_80_5 {G : aG} {S : Nat → Bool} {f : Nat} {st : List Value} {ls : aL} {h : aH} {k n : Nat} {x y : Int32} (hs : S 5 = false) : WP 80 G S (f + 1) 5 ls (.int y :: .int x :: st) h k n = (if x = y then WP 80 G S f 8 ls st h k n else WP 80 G S f 35 ls st h k n) := by rw [wp_s dd_80_5 rfl hs]; exact br_iten (c := x = y)
theorem dd_80_8 : decode (mB 80) 8 = .ok (.aload_n 0, 1) := by decide +kernel
theorem u_80_8 {G : aG} {S : Nat → Bool} {f : Nat} {st : List Value} {ls : aL} {h : aH} {k n : Nat} (hs : S 8 = false) : WP 80 G S (f + 1) 8 ls st h k n = (oA (lget ls 0) (WP 80 G S f) 9 ls st h k n) := by rw [wp_s dd_80_8 rfl hs]; rfl
theorem dd_80_9 : decode (mB 80) 9 = .ok (.getfield 18, 3) := by decide +kernel
theorem u_80_9 {G : aG} {S : Nat → Bool} {f : Nat} {st : List Value} {ls : aL} {h : aH} {k n : Nat} {a : Nat} (hs : S 9 = false) : WP 80 G S (f + 1) 9 ls (.ref a :: st) h k n = (oV (fget h a 0 0) (WP 80 G S f) 12 ls st h k n) := by rw [wp_s dd_80_9 rfl hs]; rfl
theorem dd_80_12 : decode (mB 80) 12 = .ok (.iload_n 2, 1) := by decide +kernel
theorem u_80_12 {G : aG} {S : Nat → Bool} {f : Nat} {st : List Value} {ls : aL} {h : aH} {k n : Nat} (hs : S 12 = false) : WP 80 G S (f + 1) 12 ls st h k n = (oI (lget ls 2) (WP 80 G S f) 13 ls st h k n) := by rw [wp_s dd_80_12 rfl hs]; rfl
theorem dd_80_13 : decode (mB 80) 13 = .ok (.invokevirtual 82, 3) := by decide +kernel
theorem u_80_13 {G : aG} {S : Nat → Bool} {f : Nat} {st : List Value} {ls : aL} {h : aH} {k n : Nat} {v1 : Value} {b : Nat} (hs : S 13 = false) : WP 80 G S (f + 1) 13 ls (v1 :: .ref b :: st) h k n = (rcv (hget h b) 3 ∧ CAL G (WP 80 G S f) 58 [.ref b, v1] 16 ls st h k n) := by rw [wp_s dd_80_13 rfl hs]; rfl
theorem dd_80_16 : decode (mB 80) 16 = .ok (.astore 4, 2) := by decide +kernel
theorem u_80_16 {G : aG} {S : Nat → Bool} {f : Nat} {st : List Value} {ls : aL} {h : aH} {k n : Nat} {x : Nat} (hs : S 16 = false) : WP 80 G S (f + 1) 16 ls (.ref x :: st) h k n = (WP 80 G S f 18 (lput1 ls 4 (.ref x)) st h k n) := by rw [wp_s dd_80_16 rfl hs]; rfl
theorem dd_80_18 : decode (mB 80) 18 = .ok (.aload 4, 2) := by decide +kernel
theorem u_80_18 {G : aG} {S : Nat → Bool} {f : Nat} {st : List Value} {ls : aL} {h : aH} {k n : Nat} (hs : S 18 = false) : WP 80 G S (f + 1) 18 ls st h k n = (oA (lget ls 4) (WP 80 G S f) 20 ls st h k n) := by rw [wp_s dd_80_18 rfl hs]; rfl
theorem dd_80_20 : decode (mB 80) 20 = .ok (.iload_n 3, 1) := by decide +kernel
theorem u_80_20 {G : aG} {S : Nat → Bool} {f : Nat} {st : List Value} {ls : aL} {h : aH} {k n : Nat} (hs : S 20 = false) : WP 80 G S (f + 1) 20 ls st h k n = (oI (lget ls 3) (WP 80 G S f) 21 ls st h k n) := by rw [wp_s dd_80_20 rfl hs]; rfl
theorem dd_80_21 : decode (mB 80) 21 = .ok (.invokevirtual 104, 3) := by decide +kernel
theorem u_80_21 {G : aG} {S : Nat → Bool} {f : Nat} {st : List Value} {ls : aL} {h : aH} {k n : Nat} {v1 : Value} {b : Nat} (hs : S 21 = false) : WP 80 G S (f + 1) 21 ls (v1 :: .ref b :: st) h k n = (rcv (hget h b) 2 ∧ CAL G (WP 80 G S f) 60 [.ref b, v1] 24 ls st h k n) := by rw [wp_s dd_80_21 rfl hs]; rfl
theorem dd_80_24 : decode (mB 80) 24 = .ok (.ifCond .ne 11, 3) := by decide +kernel
theorem u_80_24 {G : aG} {S : Nat → Bool} {f : Nat} {st : List Value} {ls : aL} {h : aH} {k n : Nat} {x : Int32} (hs : S 24 = false) : WP 80 G S (f + 1) 24 ls (.int x :: st) h k n = (if x = nI 0 then WP 80 G S f 27 ls st h k n else WP 80 G S f 35 ls st h k n) := by rw [wp_s dd_80_24 rfl hs]; exact br_iten (c := x = nI 0)
theorem dd_80_27 : decode (mB 80) 27 = .ok (.aload_n 0, 1) := by decide +kernel
theorem u_80_27 {G : aG} {S : Nat → Bool} {f : Nat} {st : List Value} {ls : aL} {h : aH} {k n : Nat} (hs : S 27 = false) : WP 80 G S (f + 1) 27 ls st h k n = (oA (lget ls 0) (WP 80 G S f) 28 ls st h k n) := by rw [wp_s dd_80_27 rfl hs]; rfl
theorem dd_80_28 : decode (mB 80) 28 = .ok (.iload_n 1, 1) := by decide +kernel
theorem u_80_28 {G : aG} {S : Nat → Bool} {f : Nat} {st : List Value} {ls : aL} {h : aH} {k n : Nat} (hs : S 28 = false) : WP 80 G S (f + 1) 28 ls st h k n = (oI (lget ls 1) (WP 80 G S f) 29 ls st h k n) := by rw [wp_s dd_80_28 rfl hs]; rfl
theorem dd_80_29 : decode (mB 80) 29 = .ok (.aload 4, 2) := by decide +kernel
theorem u_80_29 {G : aG} {S : Nat → Bool} {f : Nat} {st : List Value} {ls : aL} {h : aH} {k n : Nat} (hs : S 29 = false) : WP 80 G S (f + 1) 29 ls st h k n = (oA (lget ls 4) (WP 80 G S f) 31 ls st h k n) := by rw [wp_s dd_80_29 rfl hs]; rfl
theorem dd_80_31 : decode (mB 80) 31 = .ok (.iload_n 3, 1) := by decide +kernel
theorem u_80_31 {G : aG} {S : Nat → Bool} {f : Nat} {st : List Value} {ls : aL} {h : aH} {k n : Nat} (hs : S 31 = false) : WP 80 G S (f + 1) 31 ls st h k n = (oI (lget ls 3) (WP 80 G S f) 32 ls st h k n) := by rw [wp_s dd_80_31 rfl hs]; rfl
theorem dd_80_32 : decode (mB 80) 32 = .ok (.invokevirtual 91, 3) := by decide +kernel
theorem u_80_32 {G : aG} {S : Nat → Bool} {f : Nat} {st : List Value} {ls : aL} {h : aH} {k n : Nat} {v1 v2 v3 : Value} {b : Nat} (hs : S 32 = false) : WP 80 G S (f + 1) 32 ls (v3 :: v2 :: v1 :: .ref b :: st) h k n = (rcv (hget h b) 0 ∧ CAL G (WP 80 G S f) 81 [.ref b, v1, v2, v3] 35 ls st h k n) := by rw [wp_s dd_80_32 rfl hs]; rfl
theorem dd_80_35 : decode (mB 80) 35 = .ok (.return_, 1) := by decide +kernel
theorem u_80_35 {G : aG} {S : Nat → Bool} {f : Nat} {ls : aL} {h : aH} {k n : Nat} (hs : S 35 = false) : WP 80 G S (f + 1) 35 ls [] h k n = (RET G none h k n) := by rw [wp_s dd_80_35 rfl hs]; rfl
theorem dd_81_0 : decode (mB 81) 0 = .ok (.aload_n 0, 1) := by decide +kernel
theorem u_81_0 {G : aG} {S : Nat → Bool} {f : Nat} {st : List Value} {ls : aL} {h : aH} {k n : Nat} (hs : S 0 = false) : WP 81 G S (f + 1) 0 ls st h k n = (oA (lget ls 0) (WP 81 G S f) 1 ls st h k n) := by rw [wp_s dd_81_0 rfl hs]; rfl
theorem dd_81_1 : decode (mB 81) 1 = .ok (.iload_n 1, 1) := by decide +kernel
theorem u_81_1 {G : aG} {S : Nat → Bool} {f : Nat} {st : List Value} {ls : aL} {h : aH} {k n : Nat} (hs : S 1 = false) : WP 81 G S (f + 1) 1 ls st h k n = (oI (lget ls 1) (WP 81 G S f) 2 ls st h k n) := by rw [wp_s dd_81_1 rfl hs]; rfl
theorem dd_81_2 : decode (mB 81) 2 = .ok (.putfield 64, 3) := by decide +kernel
theorem u_81_2 {G : aG} {S : Nat → Bool} {f : Nat} {st : List Value} {ls : aL} {h : aH} {k n : Nat} {a : Nat} {x : Int32} (hs : S 2 = false) : WP 81 G S (f + 1) 2 ls (.int x :: .ref a :: st) h k n = (oH (fput h a 0 5 (.int x)) (WP 81 G S f) 5 ls st k n) := by rw [wp_s dd_81_2 rfl hs]; rfl
theorem dd_81_5 : decode (mB 81) 5 = .ok (.aload_n 0, 1) := by decide +kernel
theorem u_81_5 {G : aG} {S : Nat → Bool} {f : Nat} {st : List Value} {ls : aL} {h : aH} {k n : Nat} (hs : S 5 = false) : WP 81 G S (f + 1) 5 ls st h k n = (oA (lget ls 0) (WP 81 G S f) 6 ls st h k n) := by rw [wp_s dd_81_5 rfl hs]; rfl
theorem dd_81_6 : decode (mB 81) 6 = .ok (.aload_n 2, 1) := by decide +kernel
theorem u_81_6 {G : aG} {S : Nat → Bool} {f : Nat} {st : List Value} {ls : aL} {h : aH} {k n : Nat} (hs : S 6 = false) : WP 81 G S (f + 1) 6 ls st h k n = (oA (lget ls 2) (WP 81 G S f) 7 ls st h k n) := by rw [wp_s dd_81_6 rfl hs]; rfl
theorem dd_81_7 : decode (mB 81) 7 = .ok (.iload_n 3, 1) := by decide +kernel
theorem u_81_7 {G : aG} {S : Nat → Bool} {f : Nat} {st : List Value} {ls : aL} {h : aH} {k n : Nat} (hs : S 7 = false) : WP 81 G S (f + 1) 7 ls st h k n = (oI (lget ls 3) (WP 81 G S f) 8 ls st h k n) := by rw [wp_s dd_81_7 rfl hs]; rfl
theorem dd_81_8 : decode (mB 81) 8 = .ok (.invokevirtual 108, 3) := by decide +kernel
theorem u_81_8 {G : aG} {S : Nat → Bool} {f : Nat} {st : List Value} {ls : aL} {h : aH} {k n : Nat} {v1 : Value} {b : Nat} (hs : S 8 = false) : WP 81 G S (f + 1) 8 ls (v1 :: .ref b :: st) h k n = (rcv (hget h b) 2 ∧ CAL G (WP 81 G S f) 62 [.ref b, v1] 11 ls st h k n) := by rw [wp_s dd_81_8 rfl hs]; rfl
theorem dd_81_11 : decode (mB 81) 11 = .ok (.putfield 72, 3) := by decide +kernel
theorem u_81_11 {G : aG} {S : Nat → Bool} {f : Nat} {st : List Value} {ls : aL} {h : aH} {k n : Nat} {a : Nat} {x : Int32} (hs : S 11 = false) : WP 81 G S (f + 1) 11 ls (.int x :: .ref a :: st) h k n = (oH (fput h a 0 6 (.int x)) (WP 81 G S f) 14 ls st k n) := by rw [wp_s dd_81_11 rfl hs]; rfl
theorem dd_81_14 : decode (mB 81) 14 = .ok (.aload_n 0, 1) := by decide +kernel
theorem u_81_14 {G : aG} {S : Nat → Bool} {f : Nat} {st : List Value} {ls : aL} {h : aH} {k n : Nat} (hs : S 14 = false) : WP 81 G S (f + 1) 14 ls st h k n = (oA (lget ls 0) (WP 81 G S f) 15 ls st h k n) := by rw [wp_s dd_81_14 rfl hs]; rfl
theorem dd_81_15 : decode (mB 81) 15 = .ok (.aload_n 2, 1) := by decide +kernel
theorem u_81_15 {G : aG} {S : Nat → Bool} {f : Nat} {st : List Value} {ls : aL} {h : aH} {k n : Nat} (hs : S 15 = false) : WP 81 G S (f + 1) 15 ls st h k n = (oA (lget ls 2) (WP 81 G S f) 16 ls st h k n) := by rw [wp_s dd_81_15 rfl hs]; rfl
theorem dd_81_16 : decode (mB 81) 16 = .ok (.iload_n 3, 1) := by decide +kernel
theorem u_81_16 {G : aG} {S : Nat → Bool} {f : Nat} {st : List Value} {ls : aL} {h : aH} {k n : Nat} (hs : S 16 = false) : WP 81 G S (f + 1) 16 ls st h k n = (oI (lget ls 3) (WP 81 G S f) 17 ls st h k n) := by rw [wp_s dd_81_16 rfl hs]; rfl
theorem dd_81_17 : decode (mB 81) 17 = .ok (.invokevirtual 104, 3) := by decide +kernel
theorem u_81_17 {G : aG} {S : Nat → Bool} {f : Nat} {st : List Value} {ls : aL} {h : aH} {k n : Nat} {v1 : Value} {b : Nat} (hs : S 17 = false) : WP 81 G S (f + 1) 17 ls (v1 :: .ref b :: st) h k n = (rcv (hget h b) 2 ∧ CAL G (WP 81 G S f) 60 [.ref b, v1] 20 ls st h k n) := by rw [wp_s dd_81_17 rfl hs]; rfl
theorem dd_81_20 : decode (mB 81) 20 = .ok (.putfield 75, 3) := by decide +kernel
theorem u_81_20 {G : aG} {S : Nat → Bool} {f : Nat} {st : List Value} {ls : aL} {h : aH} {k n : Nat} {a : Nat} {x : Int32} (hs : S 20 = false) : WP 81 G S (f + 1) 20 ls (.int x :: .ref a :: st) h k n = (cond ((x == nI 0 || x == nI 1) && true) (oH (fput h a 0 7 (.int x)) (WP 81 G S f) 23 ls st k n) False) := by rw [wp_s dd_81_20 rfl hs]; rfl
theorem dd_81_23 : decode (mB 81) 23 = .ok (.aload_n 0, 1) := by decide +kernel
theorem u_81_23 {G : aG} {S : Nat → Bool} {f : Nat} {st : List Value} {ls : aL} {h : aH} {k n : Nat} (hs : S 23 = false) : WP 81 G S (f + 1) 23 ls st h k n = (oA (lget ls 0) (WP 81 G S f) 24 ls st h k n) := by rw [wp_s dd_81_23 rfl hs]; rfl
theorem dd_81_24 : decode (mB 81) 24 = .ok (.aload_n 0, 1) := by decide +kernel
theorem u_81_24 {G : aG} {S : Nat → Bool} {f : Nat} {st : List Value} {ls : aL} {h : aH} {k n : Nat} (hs : S 24 = false) : WP 81 G S (f + 1) 24 ls st h k n = (oA (lget ls 0) (WP 81 G S f) 25 ls st h k n) := by rw [wp_s dd_81_24 rfl hs]; rfl
theorem dd_81_25 : decode (mB 81) 25 = .ok (.getfield 61, 3) := by decide +kernel
theorem u_81_25 {G : aG} {S : Nat → Bool} {f : Nat} {st : List Value} {ls : aL} {h : aH} {k n : Nat} {a : Nat} (hs : S 25 = false) : WP 81 G S (f + 1) 25 ls (.ref a :: st) h k n = (oV (fget h a 0 8) (WP 81 G S f) 28 ls st h k n) := by rw [wp_s dd_81_25 rfl hs]; rfl
theorem dd_81_28 : decode (mB 81) 28 = .ok (.putfield 67, 3) := by decide +kernel
theorem u_81_28 {G : aG} {S : Nat → Bool} {f : Nat} {st : List Value} {ls : aL} {h : aH} {k n : Nat} {a : Nat} {x : Int32} (hs : S 28 = false) : WP 81 G S (f + 1) 28 ls (.int x :: .ref a :: st) h k n = (oH (fput h a 0 9 (.int x)) (WP 81 G S f) 31 ls st k n) := by rw [wp_s dd_81_28 rfl hs]; rfl
theorem dd_81_31 : decode (mB 81) 31 = .ok (.return_, 1) := by decide +kernel
theorem u_81_31 {G : aG} {S : Nat → Bool} {f : Nat} {ls : aL} {h : aH} {k n : Nat} (hs : S 31 = false) : WP 81 G S (f + 1) 31 ls [] h k n = (RET G none h k n) := by rw [wp_s dd_81_31 rfl hs]; rfl
theorem dd_82_0 : decode (mB 82) 0 = .ok (.aload_n 0, 1) := by decide +kernel
theorem u_82_0 {G : aG} {S : Nat → Bool} {f : Nat} {st : List Value} {ls : aL} {h : aH} {k n : Nat} (hs : S 0 = false) : WP 82 G S (f + 1) 0 ls st h k n = (oA (lget ls 0) (WP 82 G S f) 1 ls st h k n) := by rw [wp_s dd_82_0 rfl hs]; rfl
theorem dd_82_1 : decode (mB 82) 1 = .ok (.dup, 1) := by decide +kernel
theorem u_82_1 {G : aG} {S : Nat → Bool} {f : Nat} {st : List Value} {ls : aL} {h : aH} {k n : Nat} {v : Value} (hs : S 1 = false) : WP 82 G S (f + 1) 1 ls (v :: st) h k n = (cond (cat1 v) (WP 82 G S f 2 ls (v :: v :: st) h k n) False) := by rw [wp_s dd_82_1 rfl hs]; rfl
theorem dd_82_2 : decode (mB 82) 2 = .ok (.getfield 45, 3) := by decide +kernel
theorem u_82_2 {G : aG} {S : Nat → Bool} {f : Nat} {st : List Value} {ls : aL} {h : aH} {k n : Nat} {a : Nat} (hs : S 2 = false) : WP 82 G S (f + 1) 2 ls (.ref a :: st) h k n = (oV (fget h a 0 3) (WP 82 G S f) 5 ls st h k n) := by rw [wp_s dd_82_2 rfl hs]; rfl
theorem dd_82_5 : decode (mB 82) 5 = .ok (.iconst 1, 1) := by decide +kernel
theorem u_82_5 {G : aG} {S : Nat → Bool} {f : Nat} {st : List Value} {ls : aL} {h : aH} {k n : Nat} (hs : S 5 = false) : WP 82 G S (f + 1) 5 ls st h k n = (WP 82 G S f 6 ls (.int (nI 1) :: st) h k n) := by rw [wp_s dd_82_5 rfl hs]; rfl
theorem dd_82_6 : decode (mB 82) 6 = .ok (.iadd, 1) := by decide +kernel
theorem u_82_6 {G : aG} {S : Nat → Bool} {f : Nat} {st : List Value} {ls : aL} {h : aH} {k n : Nat} {x y : Int32} (hs : S 6 = false) : WP 82 G S (f + 1) 6 ls (.int y :: .int x :: st) h k n = (WP 82 G S f 7 ls (.int (x + y) :: st) h k n) := by rw [wp_s dd_82_6 rfl hs]; rfl
theorem dd_82_7 : decode (mB 82) 7 = .ok (.putfield 45, 3) := by decide +kernel
theorem u_82_7 {G : aG} {S : Nat → Bool} {f : Nat} {st : List Value} {ls : aL} {h : aH} {k n : Nat} {a : Nat} {x : Int32} (hs : S 7 = false) : WP 82 G S (f + 1) 7 ls (.int x :: .ref a :: st) h k n = (oH (fput h a 0 3 (.int x)) (WP 82 G S f) 10 ls st k n) := by rw [wp_s dd_82_7 rfl hs]; rfl
theorem dd_82_10 : decode (mB 82) 10 = .ok (.aload_n 0, 1) := by decide +kernel
theorem u_82_10 {G : aG} {S : Nat → Bool} {f : Nat} {st : List Value} {ls : aL} {h : aH} {k n : Nat} (hs : S 10 = false) : WP 82 G S (f + 1) 10 ls st h k n = (oA (lget ls 0) (WP 82 G S f) 11 ls st h k n) := by rw [wp_s dd_82_10 rfl hs]; rfl
theorem dd_82_11 : decode (mB 82) 11 = .ok (.getfield 9, 3) := by decide +kernel
theorem u_82_11 {G : aG} {S : Nat → Bool} {f : Nat} {st : List Value} {ls : aL} {h : aH} {k n : Nat} {a : Nat} (hs : S 11 = false) : WP 82 G S (f + 1) 11 ls (.ref a :: st) h k n = (oV (fget h a 0 1) (WP 82 G S f) 14 ls st h k n) := by rw [wp_s dd_82_11 rfl hs]; rfl
theorem dd_82_14 : decode (mB 82) 14 = .ok (.aload_n 0, 1) := by decide +kernel
theorem u_82_14 {G : aG} {S : Nat → Bool} {f : Nat} {st : List Value} {ls : aL} {h : aH} {k n : Nat} (hs : S 14 = false) : WP 82 G S (f + 1) 14 ls st h k n = (oA (lget ls 0) (WP 82 G S f) 15 ls st h k n) := by rw [wp_s dd_82_14 rfl hs]; rfl
theorem dd_82_15 : decode (mB 82) 15 = .ok (.getfield 45, 3) := by decide +kernel
theorem u_82_15 {G : aG} {S : Nat → Bool} {f : Nat} {st : List Value} {ls : aL} {h : aH} {k n : Nat} {a : Nat} (hs : S 15 = false) : WP 82 G S (f + 1) 15 ls (.ref a :: st) h k n = (oV (fget h a 0 3) (WP 82 G S f) 18 ls st h k n) := by rw [wp_s dd_82_15 rfl hs]; rfl
theorem dd_82_18 : decode (mB 82) 18 = .ok (.aload_n 0, 1) := by decide +kernel
theorem u_82_18 {G : aG} {S : Nat → Bool} {f : Nat} {st : List Value} {ls : aL} {h : aH} {k n : Nat} (hs : S 18 = false) : WP 82 G S (f + 1) 18 ls st h k n = (oA (lget ls 0) (WP 82 G S f) 19 ls st h k n) := by rw [wp_s dd_82_18 rfl hs]; rfl
theorem dd_82_19 : decode (mB 82) 19 = .ok (.getfield 42, 3) := by decide +kernel
theorem u_82_19 {G : aG} {S : Nat → Bool} {f : Nat} {st : List Value} {ls : aL} {h : aH} {k n : Nat} {a : Nat} (hs : S 19 = false) : WP 82 G S (f + 1) 19 ls (.ref a :: st) h k n = (oV (fget h a 0 4) (WP 82 G S f) 22 ls st h k n) := by rw [wp_s dd_82_19 rfl hs]; rfl
theorem dd_82_22 : decode (mB 82) 22 = .ok (.iastore, 1) := by decide +kernel
theorem u_82_22 {G : aG} {S : Nat → Bool} {f : Nat} {st : List Value} {ls : aL} {h : aH} {k n : Nat} {i x : Int32} {a : Nat} (hs : S 22 = false) : WP 82 G S (f + 1) 22 ls (.int x :: .int i :: .ref a :: st) h k n = (oIst (iget h a 1) a i x (WP 82 G S f) 23 ls st h k n) := by rw [wp_s dd_82_22 rfl hs]; rfl
theorem dd_82_23 : decode (mB 82) 23 = .ok (.aload_n 0, 1) := by decide +kernel
theorem u_82_23 {G : aG} {S : Nat → Bool} {f : Nat} {st : List Value} {ls : aL} {h : aH} {k n : Nat} (hs : S 23 = false) : WP 82 G S (f + 1) 23 ls st h k n = (oA (lget ls 0) (WP 82 G S f) 24 ls st h k n) := by rw [wp_s dd_82_23 rfl hs]; rfl
theorem dd_82_24 : decode (mB 82) 24 = .ok (.getfield 15, 3) := by decide +kernel
theorem u_82_24 {G : aG} {S : Nat → Bool} {f : Nat} {st : List Value} {ls : aL} {h : aH} {k n : Nat} {a : Nat} (hs : S 24 = false) : WP 82 G S (f + 1) 24 ls (.ref a :: st) h k n = (oV (fget h a 0 2) (WP 82 G S f) 27 ls st h k n) := by rw [wp_s dd_82_24 rfl hs]; rfl
theorem dd_82_27 : decode (mB 82) 27 = .ok (.aload_n 0, 1) := by decide +kernel
theorem u_82_27 {G : aG} {S : Nat → Bool} {f : Nat} {st : List Value} {ls : aL} {h : aH} {k n : Nat} (hs : S 27 = false) : WP 82 G S (f + 1) 27 ls st h k n = (oA (lget ls 0) (WP 82 G S f) 28 ls st h k n) := by rw [wp_s dd_82_27 rfl hs]; rfl
theorem dd_82_28 : decode (mB 82) 28 = .ok (.getfield 45, 3) := by decide +kernel
theorem u_82_28 {G : aG} {S : Nat → Bool} {f : Nat} {st : List Value} {ls : aL} {h : aH} {k n : Nat} {a : Nat} (hs : S 28 = false) : WP 82 G S (f + 1) 28 ls (.ref a :: st) h k n = (oV (fget h a 0 3) (WP 82 G S f) 31 ls st h k n) := by rw [wp_s dd_82_28 rfl hs]; rfl
theorem dd_82_31 : decode (mB 82) 31 = .ok (.iconst 0, 1) := by decide +kernel
theorem u_82_31 {G : aG} {S : Nat → Bool} {f : Nat} {st : List Value} {ls : aL} {h : aH} {k n : Nat} (hs : S 31 = false) : WP 82 G S (f + 1) 31 ls st h k n = (WP 82 G S f 32 ls (.int (nI 0) :: st) h k n) := by rw [wp_s dd_82_31 rfl hs]; rfl
theorem dd_82_32 : decode (mB 82) 32 = .ok (.iastore, 1) := by decide +kernel
theorem u_82_32 {G : aG} {S : Nat → Bool} {f : Nat} {st : List Value} {ls : aL} {h : aH} {k n : Nat} {i x : Int32} {a : Nat} (hs : S 32 = false) : WP 82 G S (f + 1) 32 ls (.int x :: .int i :: .ref a :: st) h k n = (oIst (iget h a 1) a i x (WP 82 G S f) 33 ls st h k n) := by rw [wp_s dd_82_32 rfl hs]; rfl
theorem dd_82_33 : decode (mB 82) 33 = .ok (.aload_n 0, 1) := by decide +kernel
theorem u_82_33 {G : aG} {S : Nat → Bool} {f : Nat} {st : List Value} {ls : aL} {h : aH} {k n : Nat} (hs : S 33 = false) : WP 82 G S (f + 1) 33 ls st h k n = (oA (lget ls 0) (WP 82 G S f) 34 ls st h k n) := by rw [wp_s dd_82_33 rfl hs]; rfl
theorem dd_82_34 : decode (mB 82) 34 = .ok (.iconst (-1), 1) := by decide +kernel
theorem u_82_34 {G : aG} {S : Nat → Bool} {f : Nat} {st : List Value} {ls : aL} {h : aH} {k n : Nat} (hs : S 34 = false) : WP 82 G S (f + 1) 34 ls st h k n = (WP 82 G S f 35 ls (.int (-1) :: st) h k n) := by rw [wp_s dd_82_34 rfl hs]; rfl
theorem dd_82_35 : decode (mB 82) 35 = .ok (.putfield 42, 3) := by decide +kernel
theorem u_82_35 {G : aG} {S : Nat → Bool} {f : Nat} {st : List Value} {ls : aL} {h : aH} {k n : Nat} {a : Nat} {x : Int32} (hs : S 35 = false) : WP 82 G S (f + 1) 35 ls (.int x :: .ref a :: st) h k n = (oH (fput h a 0 4 (.int x)) (WP 82 G S f) 38 ls st k n) := by rw [wp_s dd_82_35 rfl hs]; rfl
theorem dd_82_38 : decode (mB 82) 38 = .ok (.return_, 1) := by decide +kernel
theorem u_82_38 {G : aG} {S : Nat → Bool} {f : Nat} {ls : aL} {h : aH} {k n : Nat} (hs : S 38 = false) : WP 82 G S (f + 1) 38 ls [] h k n = (RET G none h k n) := by rw [wp_s dd_82_38 rfl hs]; rfl
theorem dd_83_0 : decode (mB 83) 0 = .ok (.aload_n 0, 1) := by decide +kernel
theorem u_83_0 {G : aG} {S : Nat → Bool} {f : Nat} {st : List Value} {ls : aL} {h : aH} {k n : Nat} (hs : S 0 = false) : WP 83 G S (f + 1) 0 ls st h k n = (oA (lget ls 0) (WP 83 G S f) 1 ls st h k n) := by rw [wp_s dd_83_0 rfl hs]; rfl
theorem dd_83_1 : decode (mB 83) 1 = .ok (.iload_n 1, 1) := by decide +kernel
theorem u_83_1 {G : aG} {S : Nat → Bool} {f : Nat} {st : List Value} {ls : aL} {h : aH} {k n : Nat} (hs : S 1 = false) : WP 83 G S (f + 1) 1 ls st h k n = (oI (lget ls 1) (WP 83 G S f) 2 ls st h k n) := by rw [wp_s dd_83_1 rfl hs]; rfl
theorem dd_83_2 : decode (mB 83) 2 = .ok (.invokevirtual 55, 3) := by decide +kernel
theorem u_83_2 {G : aG} {S : Nat → Bool} {f : Nat} {st : List Value} {ls : aL} {h : aH} {k n : Nat} {v1 : Value} {b : Nat} (hs : S 2 = false) : WP 83 G S (f + 1) 2 ls (v1 :: .ref b :: st) h k n = (rcv (hget h b) 0 ∧ CAL G (WP 83 G S f) 79 [.ref b, v1] 5 ls st h k n) := by rw [wp_s dd_83_2 rfl hs]; rfl
theorem dd_83_5 : decode (mB 83) 5 = .ok (.aload_n 0, 1) := by decide +kernel
theorem u_83_5 {G : aG} {S : Nat → Bool} {f : Nat} {st : List Value} {ls : aL} {h : aH} {k n : Nat} (hs : S 5 = false) : WP 83 G S (f + 1) 5 ls st h k n = (oA (lget ls 0) (WP 83 G S f) 6 ls st h k n) := by rw [wp_s dd_83_5 rfl hs]; rfl
theorem dd_83_6 : decode (mB 83) 6 = .ok (.iload_n 1, 1) := by decide +kernel
theorem u_83_6 {G : aG} {S : Nat → Bool} {f : Nat} {st : List Value} {ls : aL} {h : aH} {k n : Nat} (hs : S 6 = false) : WP 83 G S (f + 1) 6 ls st h k n = (oI (lget ls 1) (WP 83 G S f) 7 ls st h k n) := by rw [wp_s dd_83_6 rfl hs]; rfl
theorem dd_83_7 : decode (mB 83) 7 = .ok (.invokevirtual 58, 3) := by decide +kernel
theorem u_83_7 {G : aG} {S : Nat → Bool} {f : Nat} {st : List Value} {ls : aL} {h : aH} {k n : Nat} {v1 : Value} {b : Nat} (hs : S 7 = false) : WP 83 G S (f + 1) 7 ls (v1 :: .ref b :: st) h k n = (rcv (hget h b) 0 ∧ CAL G (WP 83 G S f) 84 [.ref b, v1] 10 ls st h k n) := by rw [wp_s dd_83_7 rfl hs]; rfl
theorem dd_83_10 : decode (mB 83) 10 = .ok (.aload_n 0, 1) := by decide +kernel
theorem u_83_10 {G : aG} {S : Nat → Bool} {f : Nat} {st : List Value} {ls : aL} {h : aH} {k n : Nat} (hs : S 10 = false) : WP 83 G S (f + 1) 10 ls st h k n = (oA (lget ls 0) (WP 83 G S f) 11 ls st h k n) := by rw [wp_s dd_83_10 rfl hs]; rfl
theorem dd_83_11 : decode (mB 83) 11 = .ok (.dup, 1) := by decide +kernel
theorem u_83_11 {G : aG} {S : Nat → Bool} {f : Nat} {st : List Value} {ls : aL} {h : aH} {k n : Nat} {v : Value} (hs : S 11 = false) : WP 83 G S (f + 1) 11 ls (v :: st) h k n = (cond (cat1 v) (WP 83 G S f 12 ls (v :: v :: st) h k n) False) := by rw [wp_s dd_83_11 rfl hs]; rfl
theorem dd_83_12 : decode (mB 83) 12 = .ok (.getfield 45, 3) := by decide +kernel
theorem u_83_12 {G : aG} {S : Nat → Bool} {f : Nat} {st : List Value} {ls : aL} {h : aH} {k n : Nat} {a : Nat} (hs : S 12 = false) : WP 83 G S (f + 1) 12 ls (.ref a :: st) h k n = (oV (fget h a 0 3) (WP 83 G S f) 15 ls st h k n) := by rw [wp_s dd_83_12 rfl hs]; rfl
theorem dd_83_15 : decode (mB 83) 15 = .ok (.iconst 1, 1) := by decide +kernel
theorem u_83_15 {G : aG} {S : Nat → Bool} {f : Nat} {st : List Value} {ls : aL} {h : aH} {k n : Nat} (hs : S 15 = false) : WP 83 G S (f + 1) 15 ls st h k n = (WP 83 G S f 16 ls (.int (nI 1) :: st) h k n) := by rw [wp_s dd_83_15 rfl hs]; rfl
theorem dd_83_16 : decode (mB 83) 16 = .ok (.isub, 1) := by decide +kernel
theorem u_83_16 {G : aG} {S : Nat → Bool} {f : Nat} {st : List Value} {ls : aL} {h : aH} {k n : Nat} {x y : Int32} (hs : S 16 = false) : WP 83 G S (f + 1) 16 ls (.int y :: .int x :: st) h k n = (WP 83 G S f 17 ls (.int (x - y) :: st) h k n) := by rw [wp_s dd_83_16 rfl hs]; rfl
theorem dd_83_17 : decode (mB 83) 17 = .ok (.putfield 45, 3) := by decide +kernel
theorem u_83_17 {G : aG} {S : Nat → Bool} {f : Nat} {st : List Value} {ls : aL} {h : aH} {k n : Nat} {a : Nat} {x : Int32} (hs : S 17 = false) : WP 83 G S (f + 1) 17 ls (.int x :: .ref a :: st) h k n = (oH (fput h a 0 3 (.int x)) (WP 83 G S f) 20 ls st k n) := by rw [wp_s dd_83_17 rfl hs]; rfl
theorem dd_83_20 : decode (mB 83) 20 = .ok (.return_, 1) := by decide +kernel
theorem u_83_20 {G : aG} {S : Nat → Bool} {f : Nat} {ls : aL} {h : aH} {k n : Nat} (hs : S 20 = false) : WP 83 G S (f + 1) 20 ls [] h k n = (RET G none h k n) := by rw [wp_s dd_83_20 rfl hs]; rfl
theorem dd_84_0 : decode (mB 84) 0 = .ok (.aload_n 0, 1) := by decide +kernel
theorem u_84_0 {G : aG} {S : Nat → Bool} {f : Nat} {st : List Value} {ls : aL} {h : aH} {k n : Nat} (hs : S 0 = false) : WP 84 G S (f + 1) 0 ls st h k n = (oA (lget ls 0) (WP 84 G S f) 1 ls st h k n) := by rw [wp_s dd_84_0 rfl hs]; rfl
theorem dd_84_1 : decode (mB 84) 1 = .ok (.iload_n 1, 1) := by decide +kernel
theorem u_84_1 {G : aG} {S : Nat → Bool} {f : Nat} {st : List Value} {ls : aL} {h : aH} {k n : Nat} (hs : S 1 = false) : WP 84 G S (f + 1) 1 ls st h k n = (oI (lget ls 1) (WP 84 G S f) 2 ls st h k n) := by rw [wp_s dd_84_1 rfl hs]; rfl
theorem dd_84_2 : decode (mB 84) 2 = .ok (.aload_n 0, 1) := by decide +kernel
theorem u_84_2 {G : aG} {S : Nat → Bool} {f : Nat} {st : List Value} {ls : aL} {h : aH} {k n : Nat} (hs : S 2 = false) : WP 84 G S (f + 1) 2 ls st h k n = (oA (lget ls 0) (WP 84 G S f) 3 ls st h k n) := by rw [wp_s dd_84_2 rfl hs]; rfl
theorem dd_84_3 : decode (mB 84) 3 = .ok (.getfield 9, 3) := by decide +kernel
theorem u_84_3 {G : aG} {S : Nat → Bool} {f : Nat} {st : List Value} {ls : aL} {h : aH} {k n : Nat} {a : Nat} (hs : S 3 = false) : WP 84 G S (f + 1) 3 ls (.ref a :: st) h k n = (oV (fget h a 0 1) (WP 84 G S f) 6 ls st h k n) := by rw [wp_s dd_84_3 rfl hs]; rfl
theorem dd_84_6 : decode (mB 84) 6 = .ok (.aload_n 0, 1) := by decide +kernel
theorem u_84_6 {G : aG} {S : Nat → Bool} {f : Nat} {st : List Value} {ls : aL} {h : aH} {k n : Nat} (hs : S 6 = false) : WP 84 G S (f + 1) 6 ls st h k n = (oA (lget ls 0) (WP 84 G S f) 7 ls st h k n) := by rw [wp_s dd_84_6 rfl hs]; rfl
theorem dd_84_7 : decode (mB 84) 7 = .ok (.getfield 45, 3) := by decide +kernel
theorem u_84_7 {G : aG} {S : Nat → Bool} {f : Nat} {st : List Value} {ls : aL} {h : aH} {k n : Nat} {a : Nat} (hs : S 7 = false) : WP 84 G S (f + 1) 7 ls (.ref a :: st) h k n = (oV (fget h a 0 3) (WP 84 G S f) 10 ls st h k n) := by rw [wp_s dd_84_7 rfl hs]; rfl
theorem dd_84_10 : decode (mB 84) 10 = .ok (.iaload, 1) := by decide +kernel
theorem u_84_10 {G : aG} {S : Nat → Bool} {f : Nat} {st : List Value} {ls : aL} {h : aH} {k n : Nat} {i : Int32} {a : Nat} (hs : S 10 = false) : WP 84 G S (f + 1) 10 ls (.int i :: .ref a :: st) h k n = (oIld (iget h a 1) i (WP 84 G S f) 11 ls st h k n) := by rw [wp_s dd_84_10 rfl hs]; rfl
theorem dd_84_11 : decode (mB 84) 11 = .ok (.aload_n 0, 1) := by decide +kernel
theorem u_84_11 {G : aG} {S : Nat → Bool} {f : Nat} {st : List Value} {ls : aL} {h : aH} {k n : Nat} (hs : S 11 = false) : WP 84 G S (f + 1) 11 ls st h k n = (oA (lget ls 0) (WP 84 G S f) 12 ls st h k n) := by rw [wp_s dd_84_11 rfl hs]; rfl
theorem dd_84_12 : decode (mB 84) 12 = .ok (.getfield 15, 3) := by decide +kernel
theorem u_84_12 {G : aG} {S : Nat → Bool} {f : Nat} {st : List Value} {ls : aL} {h : aH} {k n : Nat} {a : Nat} (hs : S 12 = false) : WP 84 G S (f + 1) 12 ls (.ref a :: st) h k n = (oV (fget h a 0 2) (WP 84 G S f) 15 ls st h k n) := by rw [wp_s dd_84_12 rfl hs]; rfl
theorem dd_84_15 : decode (mB 84) 15 = .ok (.aload_n 0, 1) := by decide +kernel
theorem u_84_15 {G : aG} {S : Nat → Bool} {f : Nat} {st : List Value} {ls : aL} {h : aH} {k n : Nat} (hs : S 15 = false) : WP 84 G S (f + 1) 15 ls st h k n = (oA (lget ls 0) (WP 84 G S f) 16 ls st h k n) := by rw [wp_s dd_84_15 rfl hs]; rfl
theorem dd_84_16 : decode (mB 84) 16 = .ok (.getfield 45, 3) := by decide +kernel
theorem u_84_16 {G : aG} {S : Nat → Bool} {f : Nat} {st : List Value} {ls : aL} {h : aH} {k n : Nat} {a : Nat} (hs : S 16 = false) : WP 84 G S (f + 1) 16 ls (.ref a :: st) h k n = (oV (fget h a 0 3) (WP 84 G S f) 19 ls st h k n) := by rw [wp_s dd_84_16 rfl hs]; rfl
theorem dd_84_19 : decode (mB 84) 19 = .ok (.iaload, 1) := by decide +kernel
theorem u_84_19 {G : aG} {S : Nat → Bool} {f : Nat} {st : List Value} {ls : aL} {h : aH} {k n : Nat} {i : Int32} {a : Nat} (hs : S 19 = false) : WP 84 G S (f + 1) 19 ls (.int i :: .ref a :: st) h k n = (oIld (iget h a 1) i (WP 84 G S f) 20 ls st h k n) := by rw [wp_s dd_84_19 rfl hs]; rfl
theorem dd_84_20 : decode (mB 84) 20 = .ok (.invokevirtual 100, 3) := by decide +kernel
theorem u_84_20 {G : aG} {S : Nat → Bool} {f : Nat} {st : List Value} {ls : aL} {h : aH} {k n : Nat} {v1 v2 v3 : Value} {b : Nat} (hs : S 20 = false) : WP 84 G S (f + 1) 20 ls (v3 :: v2 :: v1 :: .ref b :: st) h k n = (rcv (hget h b) 0 ∧ CAL G (WP 84 G S f) 80 [.ref b, v1, v2, v3] 23 ls st h k n) := by rw [wp_s dd_84_20 rfl hs]; rfl
theorem dd_84_23 : decode (mB 84) 23 = .ok (.return_, 1) := by decide +kernel
theorem u_84_23 {G : aG} {S : Nat → Bool} {f : Nat} {ls : aL} {h : aH} {k n : Nat} (hs : S 23 = false) : WP 84 G S (f + 1) 23 ls [] h k n = (RET G none h k n) := by rw [wp_s dd_84_23 rfl hs]; rfl
theorem dd_87_0 : decode (mB 87) 0 = .ok (.aload_n 0, 1) := by decide +kernel
theorem u_87_0 {G : aG} {S : Nat → Bool} {f : Nat} {st : List Value} {ls : aL} {h : aH} {k n : Nat} (hs : S 0 = false) : WP 87 G S (f + 1) 0 ls st h k n = (oA (lget ls 0) (WP 87 G S f) 1 ls st h k n) := by rw [wp_s dd_87_0 rfl hs]; rfl
theorem dd_87_1 : decode (mB 87) 1 = .ok (.getfield 61, 3) := by decide +kernel
theorem u_87_1 {G : aG} {S : Nat → Bool} {f : Nat} {st : List Value} {ls : aL} {h : aH} {k n : Nat} {a : Nat} (hs : S 1 = false) : WP 87 G S (f + 1) 1 ls (.ref a :: st) h k n = (oV (fget h a 0 8) (WP 87 G S f) 4 ls st h k n) := by rw [wp_s dd_87_1 rfl hs]; rfl
theorem dd_87_4 : decode (mB 87) 4 = .ok (.ifCond .ne 17, 3) := by decide +kernel
theorem u_87_4 {G : aG} {S : Nat → Bool} {f : Nat} {st : List Value} {ls : aL} {h : aH} {k n : Nat} {x : Int32} (hs : S 4 = false) : WP 87 G S (f + 1) 4 ls (.int x :: st) h k n = (if x = nI 0 then WP 87 G S f 7 ls st h k n else WP 87 G S f 21 ls st h k n) := by rw [wp_s dd_87_4 rfl hs]; exact br_iten (c := x = nI 0)
theorem dd_87_7 : decode (mB 87) 7 = .ok (.aload_n 0, 1) := by decide +kernel
theorem u_87_7 {G : aG} {S : Nat → Bool} {f : Nat} {st : List Value} {ls : aL} {h : aH} {k n : Nat} (hs : S 7 = false) : WP 87 G S (f + 1) 7 ls st h k n = (oA (lget ls 0) (WP 87 G S f) 8 ls st h k n) := by rw [wp_s dd_87_7 rfl hs]; rfl
theorem dd_87_8 : decode (mB 87) 8 = .ok (.getfield 64, 3) := by decide +kernel
theorem u_87_8 {G : aG} {S : Nat → Bool} {f : Nat} {st : List Value} {ls : aL} {h : aH} {k n : Nat} {a : Nat} (hs : S 8 = false) : WP 87 G S (f + 1) 8 ls (.ref a :: st) h k n = (oV (fget h a 0 5) (WP 87 G S f) 11 ls st h k n) := by rw [wp_s dd_87_8 rfl hs]; rfl
theorem dd_87_11 : decode (mB 87) 11 = .ok (.iconst (-1), 1) := by decide +kernel
theorem u_87_11 {G : aG} {S : Nat → Bool} {f : Nat} {st : List Value} {ls : aL} {h : aH} {k n : Nat} (hs : S 11 = false) : WP 87 G S (f + 1) 11 ls st h k n = (WP 87 G S f 12 ls (.int (-1) :: st) h k n) := by rw [wp_s dd_87_11 rfl hs]; rfl
theorem dd_87_12 : decode (mB 87) 12 = .ok (.if_icmp .ne 7, 3) := by decide +kernel
theorem u_87_12 {G : aG} {S : Nat → Bool} {f : Nat} {st : List Value} {ls : aL} {h : aH} {k n : Nat} {x y : Int32} (hs : S 12 = false) : WP 87 G S (f + 1) 12 ls (.int y :: .int x :: st) h k n = (if x = y then WP 87 G S f 15 ls st h k n else WP 87 G S f 19 ls st h k n) := by rw [wp_s dd_87_12 rfl hs]; exact br_iten (c := x = y)
theorem dd_87_15 : decode (mB 87) 15 = .ok (.fconst 1, 1) := by decide +kernel
theorem u_87_15 {G : aG} {S : Nat → Bool} {f : Nat} {st : List Value} {ls : aL} {h : aH} {k n : Nat} (hs : S 15 = false) : WP 87 G S (f + 1) 15 ls st h k n = (WP 87 G S f 16 ls (.float FP.fconst1 :: st) h k n) := by rw [wp_s dd_87_15 rfl hs]; rfl
theorem dd_87_16 : decode (mB 87) 16 = .ok (.goto 4, 3) := by decide +kernel
theorem u_87_16 {G : aG} {S : Nat → Bool} {f : Nat} {st : List Value} {ls : aL} {h : aH} {k n : Nat} (hs : S 16 = false) : WP 87 G S (f + 1) 16 ls st h k n = (WP 87 G S f 20 ls st h k n) := by rw [wp_s dd_87_16 rfl hs]; rfl
theorem dd_87_19 : decode (mB 87) 19 = .ok (.fconst 0, 1) := by decide +kernel
theorem u_87_19 {G : aG} {S : Nat → Bool} {f : Nat} {st : List Value} {ls : aL} {h : aH} {k n : Nat} (hs : S 19 = false) : WP 87 G S (f + 1) 19 ls st h k n = (WP 87 G S f 20 ls (.float FP.fconst0 :: st) h k n) := by rw [wp_s dd_87_19 rfl hs]; rfl
theorem dd_87_20 : decode (mB 87) 20 = .ok (.freturn, 1) := by decide +kernel
theorem u_87_20 {G : aG} {S : Nat → Bool} {f : Nat} {ls : aL} {h : aH} {k n : Nat} {x : UInt32} (hs : S 20 = false) : WP 87 G S (f + 1) 20 ls [.float x] h k n = (RET G (some (.float x)) h k n) := by rw [wp_s dd_87_20 rfl hs]; rfl
theorem dd_87_21 : decode (mB 87) 21 = .ok (.aload_n 0, 1) := by decide +kernel
theorem u_87_21 {G : aG} {S : Nat → Bool} {f : Nat} {st : List Value} {ls : aL} {h : aH} {k n : Nat} (hs : S 21 = false) : WP 87 G S (f + 1) 21 ls st h k n = (oA (lget ls 0) (WP 87 G S f) 22 ls st h k n) := by rw [wp_s dd_87_21 rfl hs]; rfl
theorem dd_87_22 : decode (mB 87) 22 = .ok (.getfield 64, 3) := by decide +kernel
theorem u_87_22 {G : aG} {S : Nat → Bool} {f : Nat} {st : List Value} {ls : aL} {h : aH} {k n : Nat} {a : Nat} (hs : S 22 = false) : WP 87 G S (f + 1) 22 ls (.ref a :: st) h k n = (oV (fget h a 0 5) (WP 87 G S f) 25 ls st h k n) := by rw [wp_s dd_87_22 rfl hs]; rfl
theorem dd_87_25 : decode (mB 87) 25 = .ok (.iconst (-1), 1) := by decide +kernel
theorem u_87_25 {G : aG} {S : Nat → Bool} {f : Nat} {st : List Value} {ls : aL} {h : aH} {k n : Nat} (hs : S 25 = false) : WP 87 G S (f + 1) 25 ls st h k n = (WP 87 G S f 26 ls (.int (-1) :: st) h k n) := by rw [wp_s dd_87_25 rfl hs]; rfl
theorem dd_87_26 : decode (mB 87) 26 = .ok (.if_icmp .ne 10, 3) := by decide +kernel
theorem u_87_26 {G : aG} {S : Nat → Bool} {f : Nat} {st : List Value} {ls : aL} {h : aH} {k n : Nat} {x y : Int32} (hs : S 26 = false) : WP 87 G S (f + 1) 26 ls (.int y :: .int x :: st) h k n = (if x = y then WP 87 G S f 29 ls st h k n else WP 87 G S f 36 ls st h k n) := by rw [wp_s dd_87_26 rfl hs]; exact br_iten (c := x = y)
theorem dd_87_29 : decode (mB 87) 29 = .ok (.aload_n 0, 1) := by decide +kernel
theorem u_87_29 {G : aG} {S : Nat → Bool} {f : Nat} {st : List Value} {ls : aL} {h : aH} {k n : Nat} (hs : S 29 = false) : WP 87 G S (f + 1) 29 ls st h k n = (oA (lget ls 0) (WP 87 G S f) 30 ls st h k n) := by rw [wp_s dd_87_29 rfl hs]; rfl
theorem dd_87_30 : decode (mB 87) 30 = .ok (.getfield 61, 3) := by decide +kernel
theorem u_87_30 {G : aG} {S : Nat → Bool} {f : Nat} {st : List Value} {ls : aL} {h : aH} {k n : Nat} {a : Nat} (hs : S 30 = false) : WP 87 G S (f + 1) 30 ls (.ref a :: st) h k n = (oV (fget h a 0 8) (WP 87 G S f) 33 ls st h k n) := by rw [wp_s dd_87_30 rfl hs]; rfl
theorem dd_87_33 : decode (mB 87) 33 = .ok (.goto 7, 3) := by decide +kernel
theorem u_87_33 {G : aG} {S : Nat → Bool} {f : Nat} {st : List Value} {ls : aL} {h : aH} {k n : Nat} (hs : S 33 = false) : WP 87 G S (f + 1) 33 ls st h k n = (WP 87 G S f 40 ls st h k n) := by rw [wp_s dd_87_33 rfl hs]; rfl
theorem dd_87_36 : decode (mB 87) 36 = .ok (.aload_n 0, 1) := by decide +kernel
theorem u_87_36 {G : aG} {S : Nat → Bool} {f : Nat} {st : List Value} {ls : aL} {h : aH} {k n : Nat} (hs : S 36 = false) : WP 87 G S (f + 1) 36 ls st h k n = (oA (lget ls 0) (WP 87 G S f) 37 ls st h k n) := by rw [wp_s dd_87_36 rfl hs]; rfl
theorem dd_87_37 : decode (mB 87) 37 = .ok (.getfield 67, 3) := by decide +kernel
theorem u_87_37 {G : aG} {S : Nat → Bool} {f : Nat} {st : List Value} {ls : aL} {h : aH} {k n : Nat} {a : Nat} (hs : S 37 = false) : WP 87 G S (f + 1) 37 ls (.ref a :: st) h k n = (oV (fget h a 0 9) (WP 87 G S f) 40 ls st h k n) := by rw [wp_s dd_87_37 rfl hs]; rfl
theorem dd_87_40 : decode (mB 87) 40 = .ok (.i2f, 1) := by decide +kernel
theorem u_87_40 {G : aG} {S : Nat → Bool} {f : Nat} {st : List Value} {ls : aL} {h : aH} {k n : Nat} {x : Int32} (hs : S 40 = false) : WP 87 G S (f + 1) 40 ls (.int x :: st) h k n = (WP 87 G S f 41 ls (.float (FP.i2f x) :: st) h k n) := by rw [wp_s dd_87_40 rfl hs]; rfl
theorem dd_87_41 : decode (mB 87) 41 = .ok (.aload_n 0, 1) := by decide +kernel
theorem u_87_41 {G : aG} {S : Nat → Bool} {f : Nat} {st : List Value} {ls : aL} {h : aH} {k n : Nat} (hs : S 41 = false) : WP 87 G S (f + 1) 41 ls st h k n = (oA (lget ls 0) (WP 87 G S f) 42 ls st h k n) := by rw [wp_s dd_87_41 rfl hs]; rfl
theorem dd_87_42 : decode (mB 87) 42 = .ok (.getfield 61, 3) := by decide +kernel
theorem u_87_42 {G : aG} {S : Nat → Bool} {f : Nat} {st : List Value} {ls : aL} {h : aH} {k n : Nat} {a : Nat} (hs : S 42 = false) : WP 87 G S (f + 1) 42 ls (.ref a :: st) h k n = (oV (fget h a 0 8) (WP 87 G S f) 45 ls st h k n) := by rw [wp_s dd_87_42 rfl hs]; rfl
theorem dd_87_45 : decode (mB 87) 45 = .ok (.i2f, 1) := by decide +kernel
theorem u_87_45 {G : aG} {S : Nat → Bool} {f : Nat} {st : List Value} {ls : aL} {h : aH} {k n : Nat} {x : Int32} (hs : S 45 = false) : WP 87 G S (f + 1) 45 ls (.int x :: st) h k n = (WP 87 G S f 46 ls (.float (FP.i2f x) :: st) h k n) := by rw [wp_s dd_87_45 rfl hs]; rfl
theorem dd_87_46 : decode (mB 87) 46 = .ok (.fdiv, 1) := by decide +kernel
theorem u_87_46 {G : aG} {S : Nat → Bool} {f : Nat} {st : List Value} {ls : aL} {h : aH} {k n : Nat} {x y : UInt32} (hs : S 46 = false) : WP 87 G S (f + 1) 46 ls (.float y :: .float x :: st) h k n = (vf_n32 (FP.fdiv x y) ∧ WP 87 G S f 47 ls (.float (FP.fdiv x y) :: st) h k n) := by rw [wp_s dd_87_46 rfl hs]; rfl
theorem dd_87_47 : decode (mB 87) 47 = .ok (.freturn, 1) := by decide +kernel
theorem u_87_47 {G : aG} {S : Nat → Bool} {f : Nat} {ls : aL} {h : aH} {k n : Nat} {x : UInt32} (hs : S 47 = false) : WP 87 G S (f + 1) 47 ls [.float x] h k n = (RET G (some (.float x)) h k n) := by rw [wp_s dd_87_47 rfl hs]; rfl
