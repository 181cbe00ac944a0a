/-! rows of 5 Reader.init, 31 Book.init, 37 Reader.readOrders, 39 Reader.takes, 40 Reader.takesOwner, 42 Reader.takesUnit, 43 Reader.waitsFor, 44 Reader.countsNode, 45 Reader.places, 46 Reader.takesBehindUnit, 47 Reader.takesBetween, 48 Reader.placeWaiting, 49 Reader.takesClosing, 50 Reader.takesEnd, 76 Book.goThrough, 77 Book.begin, 78 Book.takeLetter, 79 Book.endBare, 80 Book.endAt, 81 Book.tellFlaw, 82 Book.takeOpening, 83 Book.takeClosing, 84 Book.endRow, 87 Book.share -/
theorem dd_5_0 : decode (mB 5) 0 = .ok (.aload_n 0, 1) := by decide +kernel
theorem u_5_0 {G : aG} {S : Nat → Bool} {f : Nat} {st : List Value} {ls : aL} {h : aH} {k n : Nat} (hs : S 0 = false) : WP 5 G S (f + 1) 0 ls st h k n = (oA (lget ls 0) (WP 5 G S f) 1 ls st h k n) := by rw [wp_s dd_5_0 rfl hs]; rfl
theorem dd_5_1 : decode (mB 5) 1 = .ok (.invokespecial 3, 3) := by decide +kernel
theorem u_5_1 {G : aG} {S : Nat → Bool} {f : Nat} {st : List Value} {ls : aL} {h : aH} {k n : Nat} {a : Nat} (hs : S 1 = false) : WP 5 G S (f + 1) 1 ls (.ref a :: st) h k n = ((st.map fun v => v.category).sum ≤ 8 ∧ 1 ≤ gD G ∧ WP 5 G S f 4 ls st h k n) := by rw [wp_s dd_5_1 rfl hs]; rfl
theorem dd_5_4 : decode (mB 5) 4 = .ok (.aload_n 0, 1) := by decide +kernel
theorem u_5_4 {G : aG} {S : Nat → Bool} {f : Nat} {st : List Value} {ls : aL} {h : aH} {k n : Nat} (hs : S 4 = false) : WP 5 G S (f + 1) 4 ls st h k n = (oA (lget ls 0) (WP 5 G S f) 5 ls st h k n) := by rw [wp_s dd_5_4 rfl hs]; rfl
theorem dd_5_5 : decode (mB 5) 5 = .ok (.bipush 9, 2) := by decide +kernel
theorem u_5_5 {G : aG} {S : Nat → Bool} {f : Nat} {st : List Value} {ls : aL} {h : aH} {k n : Nat} (hs : S 5 = false) : WP 5 G S (f + 1) 5 ls st h k n = (WP 5 G S f 7 ls (.int (nI 9) :: st) h k n) := by rw [wp_s dd_5_5 rfl hs]; rfl
theorem dd_5_7 : decode (mB 5) 7 = .ok (.newarray .long, 2) := by decide +kernel
theorem u_5_7 {G : aG} {S : Nat → Bool} {f : Nat} {st : List Value} {ls : aL} {h : aH} {k n : Nat} {x : Int32} (hs : S 7 = false) : WP 5 G S (f + 1) 7 ls (.int x :: st) h k n = (¬ x < 0 ∧ x.toNatClampNeg * 8 ≤ 536870912 ∧ oNew G (cJ x.toNatClampNeg) x.toNatClampNeg (WP 5 G S f) 9 ls st h k n) := by rw [wp_s dd_5_7 rfl hs]; rfl
theorem dd_5_9 : decode (mB 5) 9 = .ok (.putfield 9, 3) := by decide +kernel
theorem u_5_9 {G : aG} {S : Nat → Bool} {f : Nat} {st : List Value} {ls : aL} {h : aH} {k n : Nat} {a : Nat} {x : Nat} (hs : S 9 = false) : WP 5 G S (f + 1) 9 ls (.ref x :: .ref a :: st) h k n = (oH (fput h a 1 0 (.ref x)) (WP 5 G S f) 12 ls st k n) := by rw [wp_s dd_5_9 rfl hs]; rfl
theorem dd_5_12 : decode (mB 5) 12 = .ok (.aload_n 0, 1) := by decide +kernel
theorem u_5_12 {G : aG} {S : Nat → Bool} {f : Nat} {st : List Value} {ls : aL} {h : aH} {k n : Nat} (hs : S 12 = false) : WP 5 G S (f + 1) 12 ls st h k n = (oA (lget ls 0) (WP 5 G S f) 13 ls st h k n) := by rw [wp_s dd_5_12 rfl hs]; rfl
theorem dd_5_13 : decode (mB 5) 13 = .ok (.bipush 24, 2) := by decide +kernel
theorem u_5_13 {G : aG} {S : Nat → Bool} {f : Nat} {st : List Value} {ls : aL} {h : aH} {k n : Nat} (hs : S 13 = false) : WP 5 G S (f + 1) 13 ls st h k n = (WP 5 G S f 15 ls (.int (nI 24) :: st) h k n) := by rw [wp_s dd_5_13 rfl hs]; rfl
theorem dd_5_15 : decode (mB 5) 15 = .ok (.newarray .int, 2) := by decide +kernel
theorem u_5_15 {G : aG} {S : Nat → Bool} {f : Nat} {st : List Value} {ls : aL} {h : aH} {k n : Nat} {x : Int32} (hs : S 15 = false) : WP 5 G S (f + 1) 15 ls (.int x :: st) h k n = (¬ x < 0 ∧ x.toNatClampNeg * 4 ≤ 536870912 ∧ oNew G (cI x.toNatClampNeg) x.toNatClampNeg (WP 5 G S f) 17 ls st h k n) := by rw [wp_s dd_5_15 rfl hs]; rfl
theorem dd_5_17 : decode (mB 5) 17 = .ok (.putfield 15, 3) := by decide +kernel
theorem u_5_17 {G : aG} {S : Nat → Bool} {f : Nat} {st : List Value} {ls : aL} {h : aH} {k n : Nat} {a : Nat} {x : Nat} (hs : S 17 = false) : WP 5 G S (f + 1) 17 ls (.ref x :: .ref a :: st) h k n = (oH (fput h a 1 1 (.ref x)) (WP 5 G S f) 20 ls st k n) := by rw [wp_s dd_5_17 rfl hs]; rfl
theorem dd_5_20 : decode (mB 5) 20 = .ok (.return_, 1) := by decide +kernel
theorem u_5_20 {G : aG} {S : Nat → Bool} {f : Nat} {ls : aL} {h : aH} {k n : Nat} (hs : S 20 = false) : WP 5 G S (f + 1) 20 ls [] h k n = (RET G none h k n) := by rw [wp_s dd_5_20 rfl hs]; rfl
theorem dd_31_0 : decode (mB 31) 0 = .ok (.aload_n 0, 1) := by decide +kernel
theorem u_31_0 {G : aG} {S : Nat → Bool} {f : Nat} {st : List Value} {ls : aL} {h : aH} {k n : Nat} (hs : S 0 = false) : WP 31 G S (f + 1) 0 ls st h k n = (oA (lget ls 0) (WP 31 G S f) 1 ls st h k n) := by rw [wp_s dd_31_0 rfl hs]; rfl
theorem dd_31_1 : decode (mB 31) 1 = .ok (.invokespecial 3, 3) := by decide +kernel
theorem u_31_1 {G : aG} {S : Nat → Bool} {f : Nat} {st : List Value} {ls : aL} {h : aH} {k n : Nat} {a : Nat} (hs : S 1 = false) : WP 31 G S (f + 1) 1 ls (.ref a :: st) h k n = ((st.map fun v => v.category).sum ≤ 8 ∧ 1 ≤ gD G ∧ WP 31 G S f 4 ls st h k n) := by rw [wp_s dd_31_1 rfl hs]; rfl
theorem dd_31_4 : decode (mB 31) 4 = .ok (.aload_n 0, 1) := by decide +kernel
theorem u_31_4 {G : aG} {S : Nat → Bool} {f : Nat} {st : List Value} {ls : aL} {h : aH} {k n : Nat} (hs : S 4 = false) : WP 31 G S (f + 1) 4 ls st h k n = (oA (lget ls 0) (WP 31 G S f) 5 ls st h k n) := by rw [wp_s dd_31_4 rfl hs]; rfl
theorem dd_31_5 : decode (mB 31) 5 = .ok (.bipush 9, 2) := by decide +kernel
theorem u_31_5 {G : aG} {S : Nat → Bool} {f : Nat} {st : List Value} {ls : aL} {h : aH} {k n : Nat} (hs : S 5 = false) : WP 31 G S (f + 1) 5 ls st h k n = (WP 31 G S f 7 ls (.int (nI 9) :: st) h k n) := by rw [wp_s dd_31_5 rfl hs]; rfl
theorem dd_31_7 : decode (mB 31) 7 = .ok (.newarray .int, 2) := by decide +kernel
theorem u_31_7 {G : aG} {S : Nat → Bool} {f : Nat} {st : List Value} {ls : aL} {h : aH} {k n : Nat} {x : Int32} (hs : S 7 = false) : WP 31 G S (f + 1) 7 ls (.int x :: st) h k n = (¬ x < 0 ∧ x.toNatClampNeg * 4 ≤ 536870912 ∧ oNew G (cI x.toNatClampNeg) x.toNatClampNeg (WP 31 G S f) 9 ls st h k n) := by rw [wp_s dd_31_7 rfl hs]; rfl
theorem dd_31_9 : decode (mB 31) 9 = .ok (.putfield 9, 3) := by decide +kernel
theorem u_31_9 {G : aG} {S : Nat → Bool} {f : Nat} {st : List Value} {ls : aL} {h : aH} {k n : Nat} {a : Nat} {x : Nat} (hs : S 9 = false) : WP 31 G S (f + 1) 9 ls (.ref x :: .ref a :: st) h k n = (oH (fput h a 0 0 (.ref x)) (WP 31 G S f) 12 ls st k n) := by rw [wp_s dd_31_9 rfl hs]; rfl
theorem dd_31_12 : decode (mB 31) 12 = .ok (.aload_n 0, 1) := by decide +kernel
theorem u_31_12 {G : aG} {S : Nat → Bool} {f : Nat} {st : List Value} {ls : aL} {h : aH} {k n : Nat} (hs : S 12 = false) : WP 31 G S (f + 1) 12 ls st h k n = (oA (lget ls 0) (WP 31 G S f) 13 ls st h k n) := by rw [wp_s dd_31_12 rfl hs]; rfl
theorem dd_31_13 : decode (mB 31) 13 = .ok (.bipush 9, 2) := by decide +kernel
theorem u_31_13 {G : aG} {S : Nat → Bool} {f : Nat} {st : List Value} {ls : aL} {h : aH} {k n : Nat} (hs : S 13 = false) : WP 31 G S (f + 1) 13 ls st h k n = (WP 31 G S f 15 ls (.int (nI 9) :: st) h k n) := by rw [wp_s dd_31_13 rfl hs]; rfl
theorem dd_31_15 : decode (mB 31) 15 = .ok (.newarray .int, 2) := by decide +kernel
theorem u_31_15 {G : aG} {S : Nat → Bool} {f : Nat} {st : List Value} {ls : aL} {h : aH} {k n : Nat} {x : Int32} (hs : S 15 = false) : WP 31 G S (f + 1) 15 ls (.int x :: st) h k n = (¬ x < 0 ∧ x.toNatClampNeg * 4 ≤ 536870912 ∧ oNew G (cI x.toNatClampNeg) x.toNatClampNeg (WP 31 G S f) 17 ls st h k n) := by rw [wp_s dd_31_15 rfl hs]; rfl
theorem dd_31_17 : decode (mB 31) 17 = .ok (.putfield 15, 3) := by decide +kernel
theorem u_31_17 {G : aG} {S : Nat → Bool} {f : Nat} {st : List Value} {ls : aL} {h : aH} {k n : Nat} {a : Nat} {x : Nat} (hs : S 17 = false) : WP 31 G S (f + 1) 17 ls (.ref x :: .ref a :: st) h k n = (oH (fput h a 0 1 (.ref x)) (WP 31 G S f) 20 ls st k n) := by rw [wp_s dd_31_17 rfl hs]; rfl
theorem dd_31_20 : decode (mB 31) 20 = .ok (.return_, 1) := by decide +kernel
theorem u_31_20 {G : aG} {S : Nat → Bool} {f : Nat} {ls : aL} {h : aH} {k n : Nat} (hs : S 20 = false) : WP 31 G S (f + 1) 20 ls [] h k n = (RET G none h k n) := by rw [wp_s dd_31_20 rfl hs]; rfl
theorem dd_37_0 : decode (mB 37) 0 = .ok (.aload_n 2, 1) := by decide +kernel
theorem u_37_0 {G : aG} {S : Nat → Bool} {f : Nat} {st : List Value} {ls : aL} {h : aH} {k n : Nat} (hs : S 0 = false) : WP 37 G S (f + 1) 0 ls st h k n = (oA (lget ls 2) (WP 37 G S f) 1 ls st h k n) := by rw [wp_s dd_37_0 rfl hs]; rfl
theorem dd_37_1 : decode (mB 37) 1 = .ok (.iconst 0, 1) := by decide +kernel
theorem u_37_1 {G : aG} {S : Nat → Bool} {f : Nat} {st : List Value} {ls : aL} {h : aH} {k n : Nat} (hs : S 1 = false) : WP 37 G S (f + 1) 1 ls st h k n = (WP 37 G S f 2 ls (.int (nI 0) :: st) h k n) := by rw [wp_s dd_37_1 rfl hs]; rfl
theorem dd_37_2 : decode (mB 37) 2 = .ok (.aload_n 0, 1) := by decide +kernel
theorem u_37_2 {G : aG} {S : Nat → Bool} {f : Nat} {st : List Value} {ls : aL} {h : aH} {k n : Nat} (hs : S 2 = false) : WP 37 G S (f + 1) 2 ls st h k n = (oA (lget ls 0) (WP 37 G S f) 3 ls st h k n) := by rw [wp_s dd_37_2 rfl hs]; rfl
theorem dd_37_3 : decode (mB 37) 3 = .ok (.getfield 9, 3) := by decide +kernel
theorem u_37_3 {G : aG} {S : Nat → Bool} {f : Nat} {st : List Value} {ls : aL} {h : aH} {k n : Nat} {a : Nat} (hs : S 3 = false) : WP 37 G S (f + 1) 3 ls (.ref a :: st) h k n = (oV (fget h a 1 0) (WP 37 G S f) 6 ls st h k n) := by rw [wp_s dd_37_3 rfl hs]; rfl
theorem dd_37_6 : decode (mB 37) 6 = .ok (.iconst 0, 1) := by decide +kernel
theorem u_37_6 {G : aG} {S : Nat → Bool} {f : Nat} {st : List Value} {ls : aL} {h : aH} {k n : Nat} (hs : S 6 = false) : WP 37 G S (f + 1) 6 ls st h k n = (WP 37 G S f 7 ls (.int (nI 0) :: st) h k n) := by rw [wp_s dd_37_6 rfl hs]; rfl
theorem dd_37_7 : decode (mB 37) 7 = .ok (.bipush 9, 2) := by decide +kernel
theorem u_37_7 {G : aG} {S : Nat → Bool} {f : Nat} {st : List Value} {ls : aL} {h : aH} {k n : Nat} (hs : S 7 = false) : WP 37 G S (f + 1) 7 ls st h k n = (WP 37 G S f 9 ls (.int (nI 9) :: st) h k n) := by rw [wp_s dd_37_7 rfl hs]; rfl
theorem dd_37_9 : decode (mB 37) 9 = .ok (.invokestatic 19, 3) := by decide +kernel
theorem u_37_9 {G : aG} {S : Nat → Bool} {f : Nat} {st : List Value} {ls : aL} {h : aH} {k n : Nat} {x sp dp : Int32} {a0 a1 : Nat} (hs : S 9 = false) : WP 37 G S (f + 1) 9 ls (.int x :: .int dp :: .ref a1 :: .int sp :: .ref a0 :: st) h k n = ((st.map fun v => v.category).sum ≤ 8 ∧ 1 ≤ gD G ∧ oCp (iget h a0 1) a0 a1 sp dp x (WP 37 G S f) 12 ls st h k n) := by rw [wp_s dd_37_9 rfl hs]; rfl
theorem dd_37_12 : decode (mB 37) 12 = .ok (.aload_n 0, 1) := by decide +kernel
theorem u_37_12 {G : aG} {S : Nat → Bool} {f : Nat} {st : List Value} {ls : aL} {h : aH} {k n : Nat} (hs : S 12 = false) : WP 37 G S (f + 1) 12 ls st h k n = (oA (lget ls 0) (WP 37 G S f) 13 ls st h k n) := by rw [wp_s dd_37_12 rfl hs]; rfl
theorem dd_37_13 : decode (mB 37) 13 = .ok (.iconst 0, 1) := by decide +kernel
theorem u_37_13 {G : aG} {S : Nat → Bool} {f : Nat} {st : List Value} {ls : aL} {h : aH} {k n : Nat} (hs : S 13 = false) : WP 37 G S (f + 1) 13 ls st h k n = (WP 37 G S f 14 ls (.int (nI 0) :: st) h k n) := by rw [wp_s dd_37_13 rfl hs]; rfl
theorem dd_37_14 : decode (mB 37) 14 = .ok (.putfield 25, 3) := by decide +kernel
theorem u_37_14 {G : aG} {S : Nat → Bool} {f : Nat} {st : List Value} {ls : aL} {h : aH} {k n : Nat} {a : Nat} {x : Int32} (hs : S 14 = false) : WP 37 G S (f + 1) 14 ls (.int x :: .ref a :: st) h k n = (oH (fput h a 1 8 (.int x)) (WP 37 G S f) 17 ls st k n) := by rw [wp_s dd_37_14 rfl hs]; rfl
theorem dd_37_17 : decode (mB 37) 17 = .ok (.aload_n 0, 1) := by decide +kernel
theorem u_37_17 {G : aG} {S : Nat → Bool} {f : Nat} {st : List Value} {ls : aL} {h : aH} {k n : Nat} (hs : S 17 = false) : WP 37 G S (f + 1) 17 ls st h k n = (oA (lget ls 0) (WP 37 G S f) 18 ls st h k n) := by rw [wp_s dd_37_17 rfl hs]; rfl
theorem dd_37_18 : decode (mB 37) 18 = .ok (.iconst 0, 1) := by decide +kernel
theorem u_37_18 {G : aG} {S : Nat → Bool} {f : Nat} {st : List Value} {ls : aL} {h : aH} {k n : Nat} (hs : S 18 = false) : WP 37 G S (f + 1) 18 ls st h k n = (WP 37 G S f 19 ls (.int (nI 0) :: st) h k n) := by rw [wp_s dd_37_18 rfl hs]; rfl
theorem dd_37_19 : decode (mB 37) 19 = .ok (.putfield 29, 3) := by decide +kernel
theorem u_37_19 {G : aG} {S : Nat → Bool} {f : Nat} {st : List Value} {ls : aL} {h : aH} {k n : Nat} {a : Nat} {x : Int32} (hs : S 19 = false) : WP 37 G S (f + 1) 19 ls (.int x :: .ref a :: st) h k n = (oH (fput h a 1 9 (.int x)) (WP 37 G S f) 22 ls st k n) := by rw [wp_s dd_37_19 rfl hs]; rfl
theorem dd_37_22 : decode (mB 37) 22 = .ok (.iconst 0, 1) := by decide +kernel
theorem u_37_22 {G : aG} {S : Nat → Bool} {f : Nat} {st : List Value} {ls : aL} {h : aH} {k n : Nat} (hs : S 22 = false) : WP 37 G S (f + 1) 22 ls st h k n = (WP 37 G S f 23 ls (.int (nI 0) :: st) h k n) := by rw [wp_s dd_37_22 rfl hs]; rfl
theorem dd_37_23 : decode (mB 37) 23 = .ok (.istore_n 3, 1) := by decide +kernel
theorem u_37_23 {G : aG} {S : Nat → Bool} {f : Nat} {st : List Value} {ls : aL} {h : aH} {k n : Nat} {x : Int32} (hs : S 23 = false) : WP 37 G S (f + 1) 23 ls (.int x :: st) h k n = (WP 37 G S f 24 (lput1 ls 3 (.int x)) st h k n) := by rw [wp_s dd_37_23 rfl hs]; rfl
theorem dd_37_24 : decode (mB 37) 24 = .ok (.iload_n 3, 1) := by decide +kernel
theorem u_37_24 {G : aG} {S : Nat → Bool} {f : Nat} {st : List Value} {ls : aL} {h : aH} {k n : Nat} (hs : S 24 = false) : WP 37 G S (f + 1) 24 ls st h k n = (oI (lget ls 3) (WP 37 G S f) 25 ls st h k n) := by rw [wp_s dd_37_24 rfl hs]; rfl
theorem v_37_24 {G : aG} {S : Nat → Bool} {f : Nat} {st : List Value} {ls : aL} {h : aH} {k n : Nat} : WQ 37 G S f 24 ls st h k n = (oI (lget ls 3) (WP 37 G S f) 25 ls st h k n) := by rw [wq_s dd_37_24 rfl]; rfl
theorem dd_37_25 : decode (mB 37) 25 = .ok (.aload_n 1, 1) := by decide +kernel
theorem u_37_25 {G : aG} {S : Nat → Bool} {f : Nat} {st : List Value} {ls : aL} {h : aH} {k n : Nat} (hs : S 25 = false) : WP 37 G S (f + 1) 25 ls st h k n = (oA (lget ls 1) (WP 37 G S f) 26 ls st h k n) := by rw [wp_s dd_37_25 rfl hs]; rfl
theorem dd_37_26 : decode (mB 37) 26 = .ok (.getfield 32, 3) := by decide +kernel
theorem u_37_26 {G : aG} {S : Nat → Bool} {f : Nat} {st : List Value} {ls : aL} {h : aH} {k n : Nat} {a : Nat} (hs : S 26 = false) : WP 37 G S (f + 1) 26 ls (.ref a :: st) h k n = (oV (fget h a 8 1) (WP 37 G S f) 29 ls st h k n) := by rw [wp_s dd_37_26 rfl hs]; rfl
theorem dd_37_29 : decode (mB 37) 29 = .ok (.if_icmp .ge 37, 3) := by decide +kernel
theorem u_37_29 {G : aG} {S : Nat → Bool} {f : Nat} {st : List Value} {ls : aL} {h : aH} {k n : Nat} {x y : Int32} (hs : S 29 = false) : WP 37 G S (f + 1) 29 ls (.int y :: .int x :: st) h k n = (if y ≤ x then WP 37 G S f 66 ls st h k n else WP 37 G S f 32 ls st h k n) := by rw [wp_s dd_37_29 rfl hs]; exact br_ite (c := y ≤ x)
theorem dd_37_32 : decode (mB 37) 32 = .ok (.aload_n 1, 1) := by decide +kernel
theorem u_37_32 {G : aG} {S : Nat → Bool} {f : Nat} {st : List Value} {ls : aL} {h : aH} {k n : Nat} (hs : S 32 = false) : WP 37 G S (f + 1) 32 ls st h k n = (oA (lget ls 1) (WP 37 G S f) 33 ls st h k n) := by rw [wp_s dd_37_32 rfl hs]; rfl
theorem dd_37_33 : decode (mB 37) 33 = .ok (.iload_n 3, 1) := by decide +kernel
theorem u_37_33 {G : aG} {S : Nat → Bool} {f : Nat} {st : List Value} {ls : aL} {h : aH} {k n : Nat} (hs : S 33 = false) : WP 37 G S (f + 1) 33 ls st h k n = (oI (lget ls 3) (WP 37 G S f) 34 ls st h k n) := by rw [wp_s dd_37_33 rfl hs]; rfl
theorem dd_37_34 : decode (mB 37) 34 = .ok (.invokevirtual 37, 3) := by decide +kernel
theorem u_37_34 {G : aG} {S : Nat → Bool} {f : Nat} {st : List Value} {ls : aL} {h : aH} {k n : Nat} {v1 : Value} {b : Nat} (hs : S 34 = false) : WP 37 G S (f + 1) 34 ls (v1 :: .ref b :: st) h k n = (rcv (hget h b) 8 ∧ CAL G (WP 37 G S f) 38 [.ref b, v1] 37 ls st h k n) := by rw [wp_s dd_37_34 rfl hs]; rfl
theorem dd_37_37 : decode (mB 37) 37 = .ok (.istore 4, 2) := by decide +kernel
theorem u_37_37 {G : aG} {S : Nat → Bool} {f : Nat} {st : List Value} {ls : aL} {h : aH} {k n : Nat} {x : Int32} (hs : S 37 = false) : WP 37 G S (f + 1) 37 ls (.int x :: st) h k n = (WP 37 G S f 39 (lput1 ls 4 (.int x)) st h k n) := by rw [wp_s dd_37_37 rfl hs]; rfl
theorem dd_37_39 : decode (mB 37) 39 = .ok (.iload 4, 2) := by decide +kernel
theorem u_37_39 {G : aG} {S : Nat → Bool} {f : Nat} {st : List Value} {ls : aL} {h : aH} {k n : Nat} (hs : S 39 = false) : WP 37 G S (f + 1) 39 ls st h k n = (oI (lget ls 4) (WP 37 G S f) 41 ls st h k n) := by rw [wp_s dd_37_39 rfl hs]; rfl
theorem dd_37_41 : decode (mB 37) 41 = .ok (.bipush 32, 2) := by decide +kernel
theorem u_37_41 {G : aG} {S : Nat → Bool} {f : Nat} {st : List Value} {ls : aL} {h : aH} {k n : Nat} (hs : S 41 = false) : WP 37 G S (f + 1) 41 ls st h k n = (WP 37 G S f 43 ls (.int (nI 32) :: st) h k n) := by rw [wp_s dd_37_41 rfl hs]; rfl
theorem dd_37_43 : decode (mB 37) 43 = .ok (.if_icmp .eq 17, 3) := by decide +kernel
theorem u_37_43 {G : aG} {S : Nat → Bool} {f : Nat} {st : List Value} {ls : aL} {h : aH} {k n : Nat} {x y : Int32} (hs : S 43 = false) : WP 37 G S (f + 1) 43 ls (.int y :: .int x :: st) h k n = (if x = y then WP 37 G S f 60 ls st h k n else WP 37 G S f 46 ls st h k n) := by rw [wp_s dd_37_43 rfl hs]; exact br_ite (c := x = y)
theorem dd_37_46 : decode (mB 37) 46 = .ok (.aload_n 0, 1) := by decide +kernel
theorem u_37_46 {G : aG} {S : Nat → Bool} {f : Nat} {st : List Value} {ls : aL} {h : aH} {k n : Nat} (hs : S 46 = false) : WP 37 G S (f + 1) 46 ls st h k n = (oA (lget ls 0) (WP 37 G S f) 47 ls st h k n) := by rw [wp_s dd_37_46 rfl hs]; rfl
theorem dd_37_47 : decode (mB 37) 47 = .ok (.iload 4, 2) := by decide +kernel
theorem u_37_47 {G : aG} {S : Nat → Bool} {f : Nat} {st : List Value} {ls : aL} {h : aH} {k n : Nat} (hs : S 47 = false) : WP 37 G S (f + 1) 47 ls st h k n = (oI (lget ls 4) (WP 37 G S f) 49 ls st h k n) := by rw [wp_s dd_37_47 rfl hs]; rfl
theorem dd_37_49 : decode (mB 37) 49 = .ok (.invokevirtual 41, 3) := by decide +kernel
theorem u_37_49 {G : aG} {S : Nat → Bool} {f : Nat} {st : List Value} {ls : aL} {h : aH} {k n : Nat} {v1 : Value} {b : Nat} (hs : S 49 = false) : WP 37 G S (f + 1) 49 ls (v1 :: .ref b :: st) h k n = (rcv (hget h b) 1 ∧ CAL G (WP 37 G S f) 39 [.ref b, v1] 52 ls st h k n) := by rw [wp_s dd_37_49 rfl hs]; rfl
theorem dd_37_52 : decode (mB 37) 52 = .ok (.ifCond .ne 8, 3) := by decide +kernel
theorem u_37_52 {G : aG} {S : Nat → Bool} {f : Nat} {st : List Value} {ls : aL} {h : aH} {k n : Nat} {x : Int32} (hs : S 52 = false) : WP 37 G S (f + 1) 52 ls (.int x :: st) h k n = (if x = nI 0 then WP 37 G S f 55 ls st h k n else WP 37 G S f 60 ls st h k n) := by rw [wp_s dd_37_52 rfl hs]; exact br_iten (c := x = nI 0)
theorem dd_37_55 : decode (mB 37) 55 = .ok (.bipush (-10), 2) := by decide +kernel
theorem u_37_55 {G : aG} {S : Nat → Bool} {f : Nat} {st : List Value} {ls : aL} {h : aH} {k n : Nat} (hs : S 55 = false) : WP 37 G S (f + 1) 55 ls st h k n = (WP 37 G S f 57 ls (.int (-10) :: st) h k n) := by rw [wp_s dd_37_55 rfl hs]; rfl
theorem dd_37_57 : decode (mB 37) 57 = .ok (.iload_n 3, 1) := by decide +kernel
theorem u_37_57 {G : aG} {S : Nat → Bool} {f : Nat} {st : List Value} {ls : aL} {h : aH} {k n : Nat} (hs : S 57 = false) : WP 37 G S (f + 1) 57 ls st h k n = (oI (lget ls 3) (WP 37 G S f) 58 ls st h k n) := by rw [wp_s dd_37_57 rfl hs]; rfl
theorem dd_37_58 : decode (mB 37) 58 = .ok (.isub, 1) := by decide +kernel
theorem u_37_58 {G : aG} {S : Nat → Bool} {f : Nat} {st : List Value} {ls : aL} {h : aH} {k n : Nat} {x y : Int32} (hs : S 58 = false) : WP 37 G S (f + 1) 58 ls (.int y :: .int x :: st) h k n = (WP 37 G S f 59 ls (.int (x - y) :: st) h k n) := by rw [wp_s dd_37_58 rfl hs]; rfl
theorem dd_37_59 : decode (mB 37) 59 = .ok (.ireturn, 1) := by decide +kernel
theorem u_37_59 {G : aG} {S : Nat → Bool} {f : Nat} {ls : aL} {h : aH} {k n : Nat} {x : Int32} (hs : S 59 = false) : WP 37 G S (f + 1) 59 ls [.int x] h k n = (RET G (some (.int x)) h k n) := by rw [wp_s dd_37_59 rfl hs]; rfl
theorem dd_37_60 : decode (mB 37) 60 = .ok (.iinc 3 1, 3) := by decide +kernel
theorem u_37_60 {G : aG} {S : Nat → Bool} {f : Nat} {st : List Value} {ls : aL} {h : aH} {k n : Nat} (hs : S 60 = false) : WP 37 G S (f + 1) 60 ls st h k n = (oInc (lget ls 3) (nI 1) (WP 37 G S f) 3 63 ls st h k n) := by rw [wp_s dd_37_60 rfl hs]; rfl
theorem dd_37_63 : decode (mB 37) 63 = .ok (.goto (-39), 3) := by decide +kernel
theorem u_37_63 {G : aG} {S : Nat → Bool} {f : Nat} {st : List Value} {ls : aL} {h : aH} {k n : Nat} (hs : S 63 = false) : WP 37 G S (f + 1) 63 ls st h k n = (WP 37 G S f 24 ls st h k n) := by rw [wp_s dd_37_63 rfl hs]; rfl
theorem dd_37_66 : decode (mB 37) 66 = .ok (.aload_n 0, 1) := by decide +kernel
theorem u_37_66 {G : aG} {S : Nat → Bool} {f : Nat} {st : List Value} {ls : aL} {h : aH} {k n : Nat} (hs : S 66 = false) : WP 37 G S (f + 1) 66 ls st h k n = (oA (lget ls 0) (WP 37 G S f) 67 ls st h k n) := by rw [wp_s dd_37_66 rfl hs]; rfl
theorem dd_37_67 : decode (mB 37) 67 = .ok (.getfield 25, 3) := by decide +kernel
theorem u_37_67 {G : aG} {S : Nat → Bool} {f : Nat} {st : List Value} {ls : aL} {h : aH} {k n : Nat} {a : Nat} (hs : S 67 = false) : WP 37 G S (f + 1) 67 ls (.ref a :: st) h k n = (oV (fget h a 1 8) (WP 37 G S f) 70 ls st h k n) := by rw [wp_s dd_37_67 rfl hs]; rfl
theorem dd_37_70 : decode (mB 37) 70 = .ok (.ifCond .ne 17, 3) := by decide +kernel
theorem u_37_70 {G : aG} {S : Nat → Bool} {f : Nat} {st : List Value} {ls : aL} {h : aH} {k n : Nat} {x : Int32} (hs : S 70 = false) : WP 37 G S (f + 1) 70 ls (.int x :: st) h k n = (if x = nI 0 then WP 37 G S f 73 ls st h k n else WP 37 G S f 87 ls st h k n) := by rw [wp_s dd_37_70 rfl hs]; exact br_iten (c := x = nI 0)
theorem dd_37_73 : decode (mB 37) 73 = .ok (.aload_n 0, 1) := by decide +kernel
theorem u_37_73 {G : aG} {S : Nat → Bool} {f : Nat} {st : List Value} {ls : aL} {h : aH} {k n : Nat} (hs : S 73 = false) : WP 37 G S (f + 1) 73 ls st h k n = (oA (lget ls 0) (WP 37 G S f) 74 ls st h k n) := by rw [wp_s dd_37_73 rfl hs]; rfl
theorem dd_37_74 : decode (mB 37) 74 = .ok (.getfield 29, 3) := by decide +kernel
theorem u_37_74 {G : aG} {S : Nat → Bool} {f : Nat} {st : List Value} {ls : aL} {h : aH} {k n : Nat} {a : Nat} (hs : S 74 = false) : WP 37 G S (f + 1) 74 ls (.ref a :: st) h k n = (oV (fget h a 1 9) (WP 37 G S f) 77 ls st h k n) := by rw [wp_s dd_37_74 rfl hs]; rfl
theorem dd_37_77 : decode (mB 37) 77 = .ok (.ifCond .le 10, 3) := by decide +kernel
theorem u_37_77 {G : aG} {S : Nat → Bool} {f : Nat} {st : List Value} {ls : aL} {h : aH} {k n : Nat} {x : Int32} (hs : S 77 = false) : WP 37 G S (f + 1) 77 ls (.int x :: st) h k n = (if x ≤ nI 0 then WP 37 G S f 87 ls st h k n else WP 37 G S f 80 ls st h k n) := by rw [wp_s dd_37_77 rfl hs]; exact br_ite (c := x ≤ nI 0)
theorem dd_37_80 : decode (mB 37) 80 = .ok (.aload_n 0, 1) := by decide +kernel
theorem u_37_80 {G : aG} {S : Nat → Bool} {f : Nat} {st : List Value} {ls : aL} {h : aH} {k n : Nat} (hs : S 80 = false) : WP 37 G S (f + 1) 80 ls st h k n = (oA (lget ls 0) (WP 37 G S f) 81 ls st h k n) := by rw [wp_s dd_37_80 rfl hs]; rfl
theorem dd_37_81 : decode (mB 37) 81 = .ok (.getfield 29, 3) := by decide +kernel
theorem u_37_81 {G : aG} {S : Nat → Bool} {f : Nat} {st : List Value} {ls : aL} {h : aH} {k n : Nat} {a : Nat} (hs : S 81 = false) : WP 37 G S (f + 1) 81 ls (.ref a :: st) h k n = (oV (fget h a 1 9) (WP 37 G S f) 84 ls st h k n) := by rw [wp_s dd_37_81 rfl hs]; rfl
theorem dd_37_84 : decode (mB 37) 84 = .ok (.goto 10, 3) := by decide +kernel
theorem u_37_84 {G : aG} {S : Nat → Bool} {f : Nat} {st : List Value} {ls : aL} {h : aH} {k n : Nat} (hs : S 84 = false) : WP 37 G S (f + 1) 84 ls st h k n = (WP 37 G S f 94 ls st h k n) := by rw [wp_s dd_37_84 rfl hs]; rfl
theorem dd_37_87 : decode (mB 37) 87 = .ok (.bipush (-10), 2) := by decide +kernel
theorem u_37_87 {G : aG} {S : Nat → Bool} {f : Nat} {st : List Value} {ls : aL} {h : aH} {k n : Nat} (hs : S 87 = false) : WP 37 G S (f + 1) 87 ls st h k n = (WP 37 G S f 89 ls (.int (-10) :: st) h k n) := by rw [wp_s dd_37_87 rfl hs]; rfl
theorem dd_37_89 : decode (mB 37) 89 = .ok (.aload_n 1, 1) := by decide +kernel
theorem u_37_89 {G : aG} {S : Nat → Bool} {f : Nat} {st : List Value} {ls : aL} {h : aH} {k n : Nat} (hs : S 89 = false) : WP 37 G S (f + 1) 89 ls st h k n = (oA (lget ls 1) (WP 37 G S f) 90 ls st h k n) := by rw [wp_s dd_37_89 rfl hs]; rfl
theorem dd_37_90 : decode (mB 37) 90 = .ok (.getfield 32, 3) := by decide +kernel
theorem u_37_90 {G : aG} {S : Nat → Bool} {f : Nat} {st : List Value} {ls : aL} {h : aH} {k n : Nat} {a : Nat} (hs : S 90 = false) : WP 37 G S (f + 1) 90 ls (.ref a :: st) h k n = (oV (fget h a 8 1) (WP 37 G S f) 93 ls st h k n) := by rw [wp_s dd_37_90 rfl hs]; rfl
theorem dd_37_93 : decode (mB 37) 93 = .ok (.isub, 1) := by decide +kernel
theorem u_37_93 {G : aG} {S : Nat → Bool} {f : Nat} {st : List Value} {ls : aL} {h : aH} {k n : Nat} {x y : Int32} (hs : S 93 = false) : WP 37 G S (f + 1) 93 ls (.int y :: .int x :: st) h k n = (WP 37 G S f 94 ls (.int (x - y) :: st) h k n) := by rw [wp_s dd_37_93 rfl hs]; rfl
theorem dd_37_94 : decode (mB 37) 94 = .ok (.ireturn, 1) := by decide +kernel
theorem u_37_94 {G : aG} {S : Nat → Bool} {f : Nat} {ls : aL} {h : aH} {k n : Nat} {x : Int32} (hs : S 94 = false) : WP 37 G S (f + 1) 94 ls [.int x] h k n = (RET G (some (.int x)) h k n) := by rw [wp_s dd_37_94 rfl hs]; rfl
theorem dd_39_0 : decode (mB 39) 0 = .ok (.aload_n 0, 1) := by decide +kernel
theorem u_39_0 {G : aG} {S : Nat → Bool} {f : Nat} {st : List Value} {ls : aL} {h : aH} {k n : Nat} (hs : S 0 = false) : WP 39 G S (f + 1) 0 ls st h k n = (oA (lget ls 0) (WP 39 G S f) 1 ls st h k n) := by rw [wp_s dd_39_0 rfl hs]; rfl
theorem dd_39_1 : decode (mB 39) 1 = .ok (.getfield 25, 3) := by decide +kernel
theorem u_39_1 {G : aG} {S : Nat → Bool} {f : Nat} {st : List Value} {ls : aL} {h : aH} {k n : Nat} {a : Nat} (hs : S 1 = false) : WP 39 G S (f + 1) 1 ls (.ref a :: st) h k n = (oV (fget h a 1 8) (WP 39 G S f) 4 ls st h k n) := by rw [wp_s dd_39_1 rfl hs]; rfl
theorem dd_39_4 : decode (mB 39) 4 = .ok (.tableswitch 57 0 2 #[28, 34, 51], 28) := by decide +kernel
theorem u_39_4 {G : aG} {S : Nat → Bool} {f : Nat} {st : List Value} {ls : aL} {h : aH} {k n : Nat} {x : Int32} (hs : S 4 = false) : WP 39 G S (f + 1) 4 ls (.int x :: st) h k n = (if x = nI 0 then WP 39 G S f 32 ls st h k n else (if x = nI 1 then WP 39 G S f 38 ls st h k n else (if x = nI 2 then WP 39 G S f 55 ls st h k n else (WP 39 G S f 61 ls st h k n)))) := by rw [wp_s dd_39_4 rfl hs]; show WP 39 G S f (tgtT 4 0 2 [28, 34, 51] 57 x) ls st h k n = _; refine (ts_ite (K := fun q => WP 39 G S f q ls st h k n) (nI 0) rfl (by decide)).trans (if_cg ?_); refine (ts_ite (K := fun q => WP 39 G S f q ls st h k n) (nI 1) rfl (by decide)).trans (if_cg ?_); refine (ts_ite (K := fun q => WP 39 G S f q ls st h k n) (nI 2) rfl (by decide)).trans (if_cg ?_); exact ts_nil (K := fun q => WP 39 G S f q ls st h k n) (by decide)
theorem dd_39_32 : decode (mB 39) 32 = .ok (.aload_n 0, 1) := by decide +kernel
theorem u_39_32 {G : aG} {S : Nat → Bool} {f : Nat} {st : List Value} {ls : aL} {h : aH} {k n : Nat} (hs : S 32 = false) : WP 39 G S (f + 1) 32 ls st h k n = (oA (lget ls 0) (WP 39 G S f) 33 ls st h k n) := by rw [wp_s dd_39_32 rfl hs]; rfl
theorem dd_39_33 : decode (mB 39) 33 = .ok (.iload_n 1, 1) := by decide +kernel
theorem u_39_33 {G : aG} {S : Nat → Bool} {f : Nat} {st : List Value} {ls : aL} {h : aH} {k n : Nat} (hs : S 33 = false) : WP 39 G S (f + 1) 33 ls st h k n = (oI (lget ls 1) (WP 39 G S f) 34 ls st h k n) := by rw [wp_s dd_39_33 rfl hs]; rfl
theorem dd_39_34 : decode (mB 39) 34 = .ok (.invokevirtual 45, 3) := by decide +kernel
theorem u_39_34 {G : aG} {S : Nat → Bool} {f : Nat} {st : List Value} {ls : aL} {h : aH} {k n : Nat} {v1 : Value} {b : Nat} (hs : S 34 = false) : WP 39 G S (f + 1) 34 ls (v1 :: .ref b :: st) h k n = (rcv (hget h b) 1 ∧ CAL G (WP 39 G S f) 40 [.ref b, v1] 37 ls st h k n) := by rw [wp_s dd_39_34 rfl hs]; rfl
theorem dd_39_37 : decode (mB 39) 37 = .ok (.ireturn, 1) := by decide +kernel
theorem u_39_37 {G : aG} {S : Nat → Bool} {f : Nat} {ls : aL} {h : aH} {k n : Nat} {x : Int32} (hs : S 37 = false) : WP 39 G S (f + 1) 37 ls [.int x] h k n = (cond (x == nI 0 || x == nI 1) (RET G (some (.int x)) h k n) False) := by rw [wp_s dd_39_37 rfl hs]; rfl
theorem dd_39_38 : decode (mB 39) 38 = .ok (.aload_n 0, 1) := by decide +kernel
theorem u_39_38 {G : aG} {S : Nat → Bool} {f : Nat} {st : List Value} {ls : aL} {h : aH} {k n : Nat} (hs : S 38 = false) : WP 39 G S (f + 1) 38 ls st h k n = (oA (lget ls 0) (WP 39 G S f) 39 ls st h k n) := by rw [wp_s dd_39_38 rfl hs]; rfl
theorem dd_39_39 : decode (mB 39) 39 = .ok (.iconst 2, 1) := by decide +kernel
theorem u_39_39 {G : aG} {S : Nat → Bool} {f : Nat} {st : List Value} {ls : aL} {h : aH} {k n : Nat} (hs : S 39 = false) : WP 39 G S (f + 1) 39 ls st h k n = (WP 39 G S f 40 ls (.int (nI 2) :: st) h k n) := by rw [wp_s dd_39_39 rfl hs]; rfl
theorem dd_39_40 : decode (mB 39) 40 = .ok (.putfield 25, 3) := by decide +kernel
theorem u_39_40 {G : aG} {S : Nat → Bool} {f : Nat} {st : List Value} {ls : aL} {h : aH} {k n : Nat} {a : Nat} {x : Int32} (hs : S 40 = false) : WP 39 G S (f + 1) 40 ls (.int x :: .ref a :: st) h k n = (oH (fput h a 1 8 (.int x)) (WP 39 G S f) 43 ls st k n) := by rw [wp_s dd_39_40 rfl hs]; rfl
theorem dd_39_43 : decode (mB 39) 43 = .ok (.iload_n 1, 1) := by decide +kernel
theorem u_39_43 {G : aG} {S : Nat → Bool} {f : Nat} {st : List Value} {ls : aL} {h : aH} {k n : Nat} (hs : S 43 = false) : WP 39 G S (f + 1) 43 ls st h k n = (oI (lget ls 1) (WP 39 G S f) 44 ls st h k n) := by rw [wp_s dd_39_43 rfl hs]; rfl
theorem dd_39_44 : decode (mB 39) 44 = .ok (.bipush 61, 2) := by decide +kernel
theorem u_39_44 {G : aG} {S : Nat → Bool} {f : Nat} {st : List Value} {ls : aL} {h : aH} {k n : Nat} (hs : S 44 = false) : WP 39 G S (f + 1) 44 ls st h k n = (WP 39 G S f 46 ls (.int (nI 61) :: st) h k n) := by rw [wp_s dd_39_44 rfl hs]; rfl
theorem dd_39_46 : decode (mB 39) 46 = .ok (.if_icmp .ne 7, 3) := by decide +kernel
theorem u_39_46 {G : aG} {S : Nat → Bool} {f : Nat} {st : List Value} {ls : aL} {h : aH} {k n : Nat} {x y : Int32} (hs : S 46 = false) : WP 39 G S (f + 1) 46 ls (.int y :: .int x :: st) h k n = (if x = y then WP 39 G S f 49 ls st h k n else WP 39 G S f 53 ls st h k n) := by rw [wp_s dd_39_46 rfl hs]; exact br_iten (c := x = y)
theorem dd_39_49 : decode (mB 39) 49 = .ok (.iconst 1, 1) := by decide +kernel
theorem u_39_49 {G : aG} {S : Nat → Bool} {f : Nat} {st : List Value} {ls : aL} {h : aH} {k n : Nat} (hs : S 49 = false) : WP 39 G S (f + 1) 49 ls st h k n = (WP 39 G S f 50 ls (.int (nI 1) :: st) h k n) := by rw [wp_s dd_39_49 rfl hs]; rfl
theorem dd_39_50 : decode (mB 39) 50 = .ok (.goto 4, 3) := by decide +kernel
theorem u_39_50 {G : aG} {S : Nat → Bool} {f : Nat} {st : List Value} {ls : aL} {h : aH} {k n : Nat} (hs : S 50 = false) : WP 39 G S (f + 1) 50 ls st h k n = (WP 39 G S f 54 ls st h k n) := by rw [wp_s dd_39_50 rfl hs]; rfl
theorem dd_39_53 : decode (mB 39) 53 = .ok (.iconst 0, 1) := by decide +kernel
theorem u_39_53 {G : aG} {S : Nat → Bool} {f : Nat} {st : List Value} {ls : aL} {h : aH} {k n : Nat} (hs : S 53 = false) : WP 39 G S (f + 1) 53 ls st h k n = (WP 39 G S f 54 ls (.int (nI 0) :: st) h k n) := by rw [wp_s dd_39_53 rfl hs]; rfl
theorem dd_39_54 : decode (mB 39) 54 = .ok (.ireturn, 1) := by decide +kernel
theorem u_39_54 {G : aG} {S : Nat → Bool} {f : Nat} {ls : aL} {h : aH} {k n : Nat} {x : Int32} (hs : S 54 = false) : WP 39 G S (f + 1) 54 ls [.int x] h k n = (cond (x == nI 0 || x == nI 1) (RET G (some (.int x)) h k n) False) := by rw [wp_s dd_39_54 rfl hs]; rfl
theorem dd_39_55 : decode (mB 39) 55 = .ok (.aload_n 0, 1) := by decide +kernel
theorem u_39_55 {G : aG} {S : Nat → Bool} {f : Nat} {st : List Value} {ls : aL} {h : aH} {k n : Nat} (hs : S 55 = false) : WP 39 G S (f + 1) 55 ls st h k n = (oA (lget ls 0) (WP 39 G S f) 56 ls st h k n) := by rw [wp_s dd_39_55 rfl hs]; rfl
theorem dd_39_56 : decode (mB 39) 56 = .ok (.iload_n 1, 1) := by decide +kernel
theorem u_39_56 {G : aG} {S : Nat → Bool} {f : Nat} {st : List Value} {ls : aL} {h : aH} {k n : Nat} (hs : S 56 = false) : WP 39 G S (f + 1) 56 ls st h k n = (oI (lget ls 1) (WP 39 G S f) 57 ls st h k n) := by rw [wp_s dd_39_56 rfl hs]; rfl
theorem dd_39_57 : decode (mB 39) 57 = .ok (.invokevirtual 48, 3) := by decide +kernel
theorem u_39_57 {G : aG} {S : Nat → Bool} {f : Nat} {st : List Value} {ls : aL} {h : aH} {k n : Nat} {v1 : Value} {b : Nat} (hs : S 57 = false) : WP 39 G S (f + 1) 57 ls (v1 :: .ref b :: st) h k n = (rcv (hget h b) 1 ∧ CAL G (WP 39 G S f) 42 [.ref b, v1] 60 ls st h k n) := by rw [wp_s dd_39_57 rfl hs]; rfl
theorem dd_39_60 : decode (mB 39) 60 = .ok (.ireturn, 1) := by decide +kernel
theorem u_39_60 {G : aG} {S : Nat → Bool} {f : Nat} {ls : aL} {h : aH} {k n : Nat} {x : Int32} (hs : S 60 = false) : WP 39 G S (f + 1) 60 ls [.int x] h k n = (cond (x == nI 0 || x == nI 1) (RET G (some (.int x)) h k n) False) := by rw [wp_s dd_39_60 rfl hs]; rfl
theorem dd_39_61 : decode (mB 39) 61 = .ok (.aload_n 0, 1) := by decide +kernel
theorem u_39_61 {G : aG} {S : Nat → Bool} {f : Nat} {st : List Value} {ls : aL} {h : aH} {k n : Nat} (hs : S 61 = false) : WP 39 G S (f + 1) 61 ls st h k n = (oA (lget ls 0) (WP 39 G S f) 62 ls st h k n) := by rw [wp_s dd_39_61 rfl hs]; rfl
theorem dd_39_62 : decode (mB 39) 62 = .ok (.iload_n 1, 1) := by decide +kernel
theorem u_39_62 {G : aG} {S : Nat → Bool} {f : Nat} {st : List Value} {ls : aL} {h : aH} {k n : Nat} (hs : S 62 = false) : WP 39 G S (f + 1) 62 ls st h k n = (oI (lget ls 1) (WP 39 G S f) 63 ls st h k n) := by rw [wp_s dd_39_62 rfl hs]; rfl
theorem dd_39_63 : decode (mB 39) 63 = .ok (.invokevirtual 51, 3) := by decide +kernel
theorem u_39_63 {G : aG} {S : Nat → Bool} {f : Nat} {st : List Value} {ls : aL} {h : aH} {k n : Nat} {v1 : Value} {b : Nat} (hs : S 63 = false) : WP 39 G S (f + 1) 63 ls (v1 :: .ref b :: st) h k n = (rcv (hget h b) 1 ∧ CAL G (WP 39 G S f) 46 [.ref b, v1] 66 ls st h k n) := by rw [wp_s dd_39_63 rfl hs]; rfl
theorem dd_39_66 : decode (mB 39) 66 = .ok (.ireturn, 1) := by decide +kernel
theorem u_39_66 {G : aG} {S : Nat → Bool} {f : Nat} {ls : aL} {h : aH} {k n : Nat} {x : Int32} (hs : S 66 = false) : WP 39 G S (f + 1) 66 ls [.int x] h k n = (cond (x == nI 0 || x == nI 1) (RET G (some (.int x)) h k n) False) := by rw [wp_s dd_39_66 rfl hs]; rfl
theorem dd_40_0 : decode (mB 40) 0 = .ok (.aload_n 0, 1) := by decide +kernel
theorem u_40_0 {G : aG} {S : Nat → Bool} {f : Nat} {st : List Value} {ls : aL} {h : aH} {k n : Nat} (hs : S 0 = false) : WP 40 G S (f + 1) 0 ls st h k n = (oA (lget ls 0) (WP 40 G S f) 1 ls st h k n) := by rw [wp_s dd_40_0 rfl hs]; rfl
theorem dd_40_1 : decode (mB 40) 1 = .ok (.iload_n 1, 1) := by decide +kernel
theorem u_40_1 {G : aG} {S : Nat → Bool} {f : Nat} {st : List Value} {ls : aL} {h : aH} {k n : Nat} (hs : S 1 = false) : WP 40 G S (f + 1) 1 ls st h k n = (oI (lget ls 1) (WP 40 G S f) 2 ls st h k n) := by rw [wp_s dd_40_1 rfl hs]; rfl
theorem dd_40_2 : decode (mB 40) 2 = .ok (.bipush 94, 2) := by decide +kernel
theorem u_40_2 {G : aG} {S : Nat → Bool} {f : Nat} {st : List Value} {ls : aL} {h : aH} {k n : Nat} (hs : S 2 = false) : WP 40 G S (f + 1) 2 ls st h k n = (WP 40 G S f 4 ls (.int (nI 94) :: st) h k n) := by rw [wp_s dd_40_2 rfl hs]; rfl
theorem dd_40_4 : decode (mB 40) 4 = .ok (.if_icmp .ne 8, 3) := by decide +kernel
theorem u_40_4 {G : aG} {S : Nat → Bool} {f : Nat} {st : List Value} {ls : aL} {h : aH} {k n : Nat} {x y : Int32} (hs : S 4 = false) : WP 40 G S (f + 1) 4 ls (.int y :: .int x :: st) h k n = (if x = y then WP 40 G S f 7 ls st h k n else WP 40 G S f 12 ls st h k n) := by rw [wp_s dd_40_4 rfl hs]; exact br_iten (c := x = y)
theorem dd_40_7 : decode (mB 40) 7 = .ok (.bipush 8, 2) := by decide +kernel
theorem u_40_7 {G : aG} {S : Nat → Bool} {f : Nat} {st : List Value} {ls : aL} {h : aH} {k n : Nat} (hs : S 7 = false) : WP 40 G S (f + 1) 7 ls st h k n = (WP 40 G S f 9 ls (.int (nI 8) :: st) h k n) := by rw [wp_s dd_40_7 rfl hs]; rfl
theorem dd_40_9 : decode (mB 40) 9 = .ok (.goto 7, 3) := by decide +kernel
theorem u_40_9 {G : aG} {S : Nat → Bool} {f : Nat} {st : List Value} {ls : aL} {h : aH} {k n : Nat} (hs : S 9 = false) : WP 40 G S (f + 1) 9 ls st h k n = (WP 40 G S f 16 ls st h k n) := by rw [wp_s dd_40_9 rfl hs]; rfl
theorem dd_40_12 : decode (mB 40) 12 = .ok (.iload_n 1, 1) := by decide +kernel
theorem u_40_12 {G : aG} {S : Nat → Bool} {f : Nat} {st : List Value} {ls : aL} {h : aH} {k n : Nat} (hs : S 12 = false) : WP 40 G S (f + 1) 12 ls st h k n = (oI (lget ls 1) (WP 40 G S f) 13 ls st h k n) := by rw [wp_s dd_40_12 rfl hs]; rfl
theorem dd_40_13 : decode (mB 40) 13 = .ok (.invokestatic 54, 3) := by decide +kernel
theorem u_40_13 {G : aG} {S : Nat → Bool} {f : Nat} {st : List Value} {ls : aL} {h : aH} {k n : Nat} {v1 : Value} (hs : S 13 = false) : WP 40 G S (f + 1) 13 ls (v1 :: st) h k n = (CAL G (WP 40 G S f) 41 [v1] 16 ls st h k n) := by rw [wp_s dd_40_13 rfl hs]; rfl
theorem dd_40_16 : decode (mB 40) 16 = .ok (.putfield 57, 3) := by decide +kernel
theorem u_40_16 {G : aG} {S : Nat → Bool} {f : Nat} {st : List Value} {ls : aL} {h : aH} {k n : Nat} {a : Nat} {x : Int32} (hs : S 16 = false) : WP 40 G S (f + 1) 16 ls (.int x :: .ref a :: st) h k n = (oH (fput h a 1 7 (.int x)) (WP 40 G S f) 19 ls st k n) := by rw [wp_s dd_40_16 rfl hs]; rfl
theorem dd_40_19 : decode (mB 40) 19 = .ok (.aload_n 0, 1) := by decide +kernel
theorem u_40_19 {G : aG} {S : Nat → Bool} {f : Nat} {st : List Value} {ls : aL} {h : aH} {k n : Nat} (hs : S 19 = false) : WP 40 G S (f + 1) 19 ls st h k n = (oA (lget ls 0) (WP 40 G S f) 20 ls st h k n) := by rw [wp_s dd_40_19 rfl hs]; rfl
theorem dd_40_20 : decode (mB 40) 20 = .ok (.iconst 0, 1) := by decide +kernel
theorem u_40_20 {G : aG} {S : Nat → Bool} {f : Nat} {st : List Value} {ls : aL} {h : aH} {k n : Nat} (hs : S 20 = false) : WP 40 G S (f + 1) 20 ls st h k n = (WP 40 G S f 21 ls (.int (nI 0) :: st) h k n) := by rw [wp_s dd_40_20 rfl hs]; rfl
theorem dd_40_21 : decode (mB 40) 21 = .ok (.putfield 60, 3) := by decide +kernel
theorem u_40_21 {G : aG} {S : Nat → Bool} {f : Nat} {st : List Value} {ls : aL} {h : aH} {k n : Nat} {a : Nat} {x : Int32} (hs : S 21 = false) : WP 40 G S (f + 1) 21 ls (.int x :: .ref a :: st) h k n = (oH (fput h a 1 2 (.int x)) (WP 40 G S f) 24 ls st k n) := by rw [wp_s dd_40_21 rfl hs]; rfl
theorem dd_40_24 : decode (mB 40) 24 = .ok (.aload_n 0, 1) := by decide +kernel
theorem u_40_24 {G : aG} {S : Nat → Bool} {f : Nat} {st : List Value} {ls : aL} {h : aH} {k n : Nat} (hs : S 24 = false) : WP 40 G S (f + 1) 24 ls st h k n = (oA (lget ls 0) (WP 40 G S f) 25 ls st h k n) := by rw [wp_s dd_40_24 rfl hs]; rfl
theorem dd_40_25 : decode (mB 40) 25 = .ok (.iconst 0, 1) := by decide +kernel
theorem u_40_25 {G : aG} {S : Nat → Bool} {f : Nat} {st : List Value} {ls : aL} {h : aH} {k n : Nat} (hs : S 25 = false) : WP 40 G S (f + 1) 25 ls st h k n = (WP 40 G S f 26 ls (.int (nI 0) :: st) h k n) := by rw [wp_s dd_40_25 rfl hs]; rfl
theorem dd_40_26 : decode (mB 40) 26 = .ok (.putfield 63, 3) := by decide +kernel
theorem u_40_26 {G : aG} {S : Nat → Bool} {f : Nat} {st : List Value} {ls : aL} {h : aH} {k n : Nat} {a : Nat} {x : Int32} (hs : S 26 = false) : WP 40 G S (f + 1) 26 ls (.int x :: .ref a :: st) h k n = (oH (fput h a 1 3 (.int x)) (WP 40 G S f) 29 ls st k n) := by rw [wp_s dd_40_26 rfl hs]; rfl
theorem dd_40_29 : decode (mB 40) 29 = .ok (.aload_n 0, 1) := by decide +kernel
theorem u_40_29 {G : aG} {S : Nat → Bool} {f : Nat} {st : List Value} {ls : aL} {h : aH} {k n : Nat} (hs : S 29 = false) : WP 40 G S (f + 1) 29 ls st h k n = (oA (lget ls 0) (WP 40 G S f) 30 ls st h k n) := by rw [wp_s dd_40_29 rfl hs]; rfl
theorem dd_40_30 : decode (mB 40) 30 = .ok (.iconst 0, 1) := by decide +kernel
theorem u_40_30 {G : aG} {S : Nat → Bool} {f : Nat} {st : List Value} {ls : aL} {h : aH} {k n : Nat} (hs : S 30 = false) : WP 40 G S (f + 1) 30 ls st h k n = (WP 40 G S f 31 ls (.int (nI 0) :: st) h k n) := by rw [wp_s dd_40_30 rfl hs]; rfl
theorem dd_40_31 : decode (mB 40) 31 = .ok (.putfield 66, 3) := by decide +kernel
theorem u_40_31 {G : aG} {S : Nat → Bool} {f : Nat} {st : List Value} {ls : aL} {h : aH} {k n : Nat} {a : Nat} {x : Int32} (hs : S 31 = false) : WP 40 G S (f + 1) 31 ls (.int x :: .ref a :: st) h k n = (oH (fput h a 1 4 (.int x)) (WP 40 G S f) 34 ls st k n) := by rw [wp_s dd_40_31 rfl hs]; rfl
theorem dd_40_34 : decode (mB 40) 34 = .ok (.aload_n 0, 1) := by decide +kernel
theorem u_40_34 {G : aG} {S : Nat → Bool} {f : Nat} {st : List Value} {ls : aL} {h : aH} {k n : Nat} (hs : S 34 = false) : WP 40 G S (f + 1) 34 ls st h k n = (oA (lget ls 0) (WP 40 G S f) 35 ls st h k n) := by rw [wp_s dd_40_34 rfl hs]; rfl
theorem dd_40_35 : decode (mB 40) 35 = .ok (.iconst 0, 1) := by decide +kernel
theorem u_40_35 {G : aG} {S : Nat → Bool} {f : Nat} {st : List Value} {ls : aL} {h : aH} {k n : Nat} (hs : S 35 = false) : WP 40 G S (f + 1) 35 ls st h k n = (WP 40 G S f 36 ls (.int (nI 0) :: st) h k n) := by rw [wp_s dd_40_35 rfl hs]; rfl
theorem dd_40_36 : decode (mB 40) 36 = .ok (.putfield 69, 3) := by decide +kernel
theorem u_40_36 {G : aG} {S : Nat → Bool} {f : Nat} {st : List Value} {ls : aL} {h : aH} {k n : Nat} {a : Nat} {x : Int32} (hs : S 36 = false) : WP 40 G S (f + 1) 36 ls (.int x :: .ref a :: st) h k n = (oH (fput h a 1 5 (.int x)) (WP 40 G S f) 39 ls st k n) := by rw [wp_s dd_40_36 rfl hs]; rfl
theorem dd_40_39 : decode (mB 40) 39 = .ok (.aload_n 0, 1) := by decide +kernel
theorem u_40_39 {G : aG} {S : Nat → Bool} {f : Nat} {st : List Value} {ls : aL} {h : aH} {k n : Nat} (hs : S 39 = false) : WP 40 G S (f + 1) 39 ls st h k n = (oA (lget ls 0) (WP 40 G S f) 40 ls st h k n) := by rw [wp_s dd_40_39 rfl hs]; rfl
theorem dd_40_40 : decode (mB 40) 40 = .ok (.lconst 0, 1) := by decide +kernel
theorem u_40_40 {G : aG} {S : Nat → Bool} {f : Nat} {st : List Value} {ls : aL} {h : aH} {k n : Nat} (hs : S 40 = false) : WP 40 G S (f + 1) 40 ls st h k n = (WP 40 G S f 41 ls (.long (lN 0) :: st) h k n) := by rw [wp_s dd_40_40 rfl hs]; rfl
theorem dd_40_41 : decode (mB 40) 41 = .ok (.putfield 72, 3) := by decide +kernel
theorem u_40_41 {G : aG} {S : Nat → Bool} {f : Nat} {st : List Value} {ls : aL} {h : aH} {k n : Nat} {a : Nat} {x : Int64} (hs : S 41 = false) : WP 40 G S (f + 1) 41 ls (.long x :: .ref a :: st) h k n = (oH (fput h a 1 6 (.long x)) (WP 40 G S f) 44 ls st k n) := by rw [wp_s dd_40_41 rfl hs]; rfl
theorem dd_40_44 : decode (mB 40) 44 = .ok (.aload_n 0, 1) := by decide +kernel
theorem u_40_44 {G : aG} {S : Nat → Bool} {f : Nat} {st : List Value} {ls : aL} {h : aH} {k n : Nat} (hs : S 44 = false) : WP 40 G S (f + 1) 44 ls st h k n = (oA (lget ls 0) (WP 40 G S f) 45 ls st h k n) := by rw [wp_s dd_40_44 rfl hs]; rfl
theorem dd_40_45 : decode (mB 40) 45 = .ok (.iconst 1, 1) := by decide +kernel
theorem u_40_45 {G : aG} {S : Nat → Bool} {f : Nat} {st : List Value} {ls : aL} {h : aH} {k n : Nat} (hs : S 45 = false) : WP 40 G S (f + 1) 45 ls st h k n = (WP 40 G S f 46 ls (.int (nI 1) :: st) h k n) := by rw [wp_s dd_40_45 rfl hs]; rfl
theorem dd_40_46 : decode (mB 40) 46 = .ok (.putfield 25, 3) := by decide +kernel
theorem u_40_46 {G : aG} {S : Nat → Bool} {f : Nat} {st : List Value} {ls : aL} {h : aH} {k n : Nat} {a : Nat} {x : Int32} (hs : S 46 = false) : WP 40 G S (f + 1) 46 ls (.int x :: .ref a :: st) h k n = (oH (fput h a 1 8 (.int x)) (WP 40 G S f) 49 ls st k n) := by rw [wp_s dd_40_46 rfl hs]; rfl
theorem dd_40_49 : decode (mB 40) 49 = .ok (.aload_n 0, 1) := by decide +kernel
theorem u_40_49 {G : aG} {S : Nat → Bool} {f : Nat} {st : List Value} {ls : aL} {h : aH} {k n : Nat} (hs : S 49 = false) : WP 40 G S (f + 1) 49 ls st h k n = (oA (lget ls 0) (WP 40 G S f) 50 ls st h k n) := by rw [wp_s dd_40_49 rfl hs]; rfl
theorem dd_40_50 : decode (mB 40) 50 = .ok (.getfield 57, 3) := by decide +kernel
theorem u_40_50 {G : aG} {S : Nat → Bool} {f : Nat} {st : List Value} {ls : aL} {h : aH} {k n : Nat} {a : Nat} (hs : S 50 = false) : WP 40 G S (f + 1) 50 ls (.ref a :: st) h k n = (oV (fget h a 1 7) (WP 40 G S f) 53 ls st h k n) := by rw [wp_s dd_40_50 rfl hs]; rfl
theorem dd_40_53 : decode (mB 40) 53 = .ok (.iconst (-1), 1) := by decide +kernel
theorem u_40_53 {G : aG} {S : Nat → Bool} {f : Nat} {st : List Value} {ls : aL} {h : aH} {k n : Nat} (hs : S 53 = false) : WP 40 G S (f + 1) 53 ls st h k n = (WP 40 G S f 54 ls (.int (-1) :: st) h k n) := by rw [wp_s dd_40_53 rfl hs]; rfl
theorem dd_40_54 : decode (mB 40) 54 = .ok (.if_icmp .eq 7, 3) := by decide +kernel
theorem u_40_54 {G : aG} {S : Nat → Bool} {f : Nat} {st : List Value} {ls : aL} {h : aH} {k n : Nat} {x y : Int32} (hs : S 54 = false) : WP 40 G S (f + 1) 54 ls (.int y :: .int x :: st) h k n = (if x = y then WP 40 G S f 61 ls st h k n else WP 40 G S f 57 ls st h k n) := by rw [wp_s dd_40_54 rfl hs]; exact br_ite (c := x = y)
theorem dd_40_57 : decode (mB 40) 57 = .ok (.iconst 1, 1) := by decide +kernel
theorem u_40_57 {G : aG} {S : Nat → Bool} {f : Nat} {st : List Value} {ls : aL} {h : aH} {k n : Nat} (hs : S 57 = false) : WP 40 G S (f + 1) 57 ls st h k n = (WP 40 G S f 58 ls (.int (nI 1) :: st) h k n) := by rw [wp_s dd_40_57 rfl hs]; rfl
theorem dd_40_58 : decode (mB 40) 58 = .ok (.goto 4, 3) := by decide +kernel
theorem u_40_58 {G : aG} {S : Nat → Bool} {f : Nat} {st : List Value} {ls : aL} {h : aH} {k n : Nat} (hs : S 58 = false) : WP 40 G S (f + 1) 58 ls st h k n = (WP 40 G S f 62 ls st h k n) := by rw [wp_s dd_40_58 rfl hs]; rfl
theorem dd_40_61 : decode (mB 40) 61 = .ok (.iconst 0, 1) := by decide +kernel
theorem u_40_61 {G : aG} {S : Nat → Bool} {f : Nat} {st : List Value} {ls : aL} {h : aH} {k n : Nat} (hs : S 61 = false) : WP 40 G S (f + 1) 61 ls st h k n = (WP 40 G S f 62 ls (.int (nI 0) :: st) h k n) := by rw [wp_s dd_40_61 rfl hs]; rfl
theorem dd_40_62 : decode (mB 40) 62 = .ok (.ireturn, 1) := by decide +kernel
theorem u_40_62 {G : aG} {S : Nat → Bool} {f : Nat} {ls : aL} {h : aH} {k n : Nat} {x : Int32} (hs : S 62 = false) : WP 40 G S (f + 1) 62 ls [.int x] h k n = (cond (x == nI 0 || x == nI 1) (RET G (some (.int x)) h k n) False) := by rw [wp_s dd_40_62 rfl hs]; rfl
theorem dd_42_0 : decode (mB 42) 0 = .ok (.iload_n 1, 1) := by decide +kernel
theorem u_42_0 {G : aG} {S : Nat → Bool} {f : Nat} {st : List Value} {ls : aL} {h : aH} {k n : Nat} (hs : S 0 = false) : WP 42 G S (f + 1) 0 ls st h k n = (oI (lget ls 1) (WP 42 G S f) 1 ls st h k n) := by rw [wp_s dd_42_0 rfl hs]; rfl
theorem dd_42_1 : decode (mB 42) 1 = .ok (.bipush 40, 2) := by decide +kernel
theorem u_42_1 {G : aG} {S : Nat → Bool} {f : Nat} {st : List Value} {ls : aL} {h : aH} {k n : Nat} (hs : S 1 = false) : WP 42 G S (f + 1) 1 ls st h k n = (WP 42 G S f 3 ls (.int (nI 40) :: st) h k n) := by rw [wp_s dd_42_1 rfl hs]; rfl
theorem dd_42_3 : decode (mB 42) 3 = .ok (.if_icmp .ne 36, 3) := by decide +kernel
theorem u_42_3 {G : aG} {S : Nat → Bool} {f : Nat} {st : List Value} {ls : aL} {h : aH} {k n : Nat} {x y : Int32} (hs : S 3 = false) : WP 42 G S (f + 1) 3 ls (.int y :: .int x :: st) h k n = (if x = y then WP 42 G S f 6 ls st h k n else WP 42 G S f 39 ls st h k n) := by rw [wp_s dd_42_3 rfl hs]; exact br_iten (c := x = y)
theorem dd_42_6 : decode (mB 42) 6 = .ok (.aload_n 0, 1) := by decide +kernel
theorem u_42_6 {G : aG} {S : Nat → Bool} {f : Nat} {st : List Value} {ls : aL} {h : aH} {k n : Nat} (hs : S 6 = false) : WP 42 G S (f + 1) 6 ls st h k n = (oA (lget ls 0) (WP 42 G S f) 7 ls st h k n) := by rw [wp_s dd_42_6 rfl hs]; rfl
theorem dd_42_7 : decode (mB 42) 7 = .ok (.dup, 1) := by decide +kernel
theorem u_42_7 {G : aG} {S : Nat → Bool} {f : Nat} {st : List Value} {ls : aL} {h : aH} {k n : Nat} {v : Value} (hs : S 7 = false) : WP 42 G S (f + 1) 7 ls (v :: st) h k n = (cond (cat1 v) (WP 42 G S f 8 ls (v :: v :: st) h k n) False) := by rw [wp_s dd_42_7 rfl hs]; rfl
theorem dd_42_8 : decode (mB 42) 8 = .ok (.getfield 63, 3) := by decide +kernel
theorem u_42_8 {G : aG} {S : Nat → Bool} {f : Nat} {st : List Value} {ls : aL} {h : aH} {k n : Nat} {a : Nat} (hs : S 8 = false) : WP 42 G S (f + 1) 8 ls (.ref a :: st) h k n = (oV (fget h a 1 3) (WP 42 G S f) 11 ls st h k n) := by rw [wp_s dd_42_8 rfl hs]; rfl
theorem dd_42_11 : decode (mB 42) 11 = .ok (.iconst 1, 1) := by decide +kernel
theorem u_42_11 {G : aG} {S : Nat → Bool} {f : Nat} {st : List Value} {ls : aL} {h : aH} {k n : Nat} (hs : S 11 = false) : WP 42 G S (f + 1) 11 ls st h k n = (WP 42 G S f 12 ls (.int (nI 1) :: st) h k n) := by rw [wp_s dd_42_11 rfl hs]; rfl
theorem dd_42_12 : decode (mB 42) 12 = .ok (.iadd, 1) := by decide +kernel
theorem u_42_12 {G : aG} {S : Nat → Bool} {f : Nat} {st : List Value} {ls : aL} {h : aH} {k n : Nat} {x y : Int32} (hs : S 12 = false) : WP 42 G S (f + 1) 12 ls (.int y :: .int x :: st) h k n = (WP 42 G S f 13 ls (.int (x + y) :: st) h k n) := by rw [wp_s dd_42_12 rfl hs]; rfl
theorem dd_42_13 : decode (mB 42) 13 = .ok (.putfield 63, 3) := by decide +kernel
theorem u_42_13 {G : aG} {S : Nat → Bool} {f : Nat} {st : List Value} {ls : aL} {h : aH} {k n : Nat} {a : Nat} {x : Int32} (hs : S 13 = false) : WP 42 G S (f + 1) 13 ls (.int x :: .ref a :: st) h k n = (oH (fput h a 1 3 (.int x)) (WP 42 G S f) 16 ls st k n) := by rw [wp_s dd_42_13 rfl hs]; rfl
theorem dd_42_16 : decode (mB 42) 16 = .ok (.aload_n 0, 1) := by decide +kernel
theorem u_42_16 {G : aG} {S : Nat → Bool} {f : Nat} {st : List Value} {ls : aL} {h : aH} {k n : Nat} (hs : S 16 = false) : WP 42 G S (f + 1) 16 ls st h k n = (oA (lget ls 0) (WP 42 G S f) 17 ls st h k n) := by rw [wp_s dd_42_16 rfl hs]; rfl
theorem dd_42_17 : decode (mB 42) 17 = .ok (.getfield 63, 3) := by decide +kernel
theorem u_42_17 {G : aG} {S : Nat → Bool} {f : Nat} {st : List Value} {ls : aL} {h : aH} {k n : Nat} {a : Nat} (hs : S 17 = false) : WP 42 G S (f + 1) 17 ls (.ref a :: st) h k n = (oV (fget h a 1 3) (WP 42 G S f) 20 ls st h k n) := by rw [wp_s dd_42_17 rfl hs]; rfl
theorem dd_42_20 : decode (mB 42) 20 = .ok (.bipush 8, 2) := by decide +kernel
theorem u_42_20 {G : aG} {S : Nat → Bool} {f : Nat} {st : List Value} {ls : aL} {h : aH} {k n : Nat} (hs : S 20 = false) : WP 42 G S (f + 1) 20 ls st h k n = (WP 42 G S f 22 ls (.int (nI 8) :: st) h k n) := by rw [wp_s dd_42_20 rfl hs]; rfl
theorem dd_42_22 : decode (mB 42) 22 = .ok (.if_icmp .gt 15, 3) := by decide +kernel
theorem u_42_22 {G : aG} {S : Nat → Bool} {f : Nat} {st : List Value} {ls : aL} {h : aH} {k n : Nat} {x y : Int32} (hs : S 22 = false) : WP 42 G S (f + 1) 22 ls (.int y :: .int x :: st) h k n = (if y < x then WP 42 G S f 37 ls st h k n else WP 42 G S f 25 ls st h k n) := by rw [wp_s dd_42_22 rfl hs]; exact br_ite (c := y < x)
theorem dd_42_25 : decode (mB 42) 25 = .ok (.aload_n 0, 1) := by decide +kernel
theorem u_42_25 {G : aG} {S : Nat → Bool} {f : Nat} {st : List Value} {ls : aL} {h : aH} {k n : Nat} (hs : S 25 = false) : WP 42 G S (f + 1) 25 ls st h k n = (oA (lget ls 0) (WP 42 G S f) 26 ls st h k n) := by rw [wp_s dd_42_25 rfl hs]; rfl
theorem dd_42_26 : decode (mB 42) 26 = .ok (.iconst 0, 1) := by decide +kernel
theorem u_42_26 {G : aG} {S : Nat → Bool} {f : Nat} {st : List Value} {ls : aL} {h : aH} {k n : Nat} (hs : S 26 = false) : WP 42 G S (f + 1) 26 ls st h k n = (WP 42 G S f 27 ls (.int (nI 0) :: st) h k n) := by rw [wp_s dd_42_26 rfl hs]; rfl
theorem dd_42_27 : decode (mB 42) 27 = .ok (.invokevirtual 76, 3) := by decide +kernel
theorem u_42_27 {G : aG} {S : Nat → Bool} {f : Nat} {st : List Value} {ls : aL} {h : aH} {k n : Nat} {v1 : Value} {b : Nat} (hs : S 27 = false) : WP 42 G S (f + 1) 27 ls (v1 :: .ref b :: st) h k n = (rcv (hget h b) 1 ∧ CAL G (WP 42 G S f) 43 [.ref b, v1] 30 ls st h k n) := by rw [wp_s dd_42_27 rfl hs]; rfl
theorem dd_42_30 : decode (mB 42) 30 = .ok (.ifCond .eq 7, 3) := by decide +kernel
theorem u_42_30 {G : aG} {S : Nat → Bool} {f : Nat} {st : List Value} {ls : aL} {h : aH} {k n : Nat} {x : Int32} (hs : S 30 = false) : WP 42 G S (f + 1) 30 ls (.int x :: st) h k n = (if x = nI 0 then WP 42 G S f 37 ls st h k n else WP 42 G S f 33 ls st h k n) := by rw [wp_s dd_42_30 rfl hs]; exact br_ite (c := x = nI 0)
theorem dd_42_33 : decode (mB 42) 33 = .ok (.iconst 1, 1) := by decide +kernel
theorem u_42_33 {G : aG} {S : Nat → Bool} {f : Nat} {st : List Value} {ls : aL} {h : aH} {k n : Nat} (hs : S 33 = false) : WP 42 G S (f + 1) 33 ls st h k n = (WP 42 G S f 34 ls (.int (nI 1) :: st) h k n) := by rw [wp_s dd_42_33 rfl hs]; rfl
theorem dd_42_34 : decode (mB 42) 34 = .ok (.goto 4, 3) := by decide +kernel
theorem u_42_34 {G : aG} {S : Nat → Bool} {f : Nat} {st : List Value} {ls : aL} {h : aH} {k n : Nat} (hs : S 34 = false) : WP 42 G S (f + 1) 34 ls st h k n = (WP 42 G S f 38 ls st h k n) := by rw [wp_s dd_42_34 rfl hs]; rfl
theorem dd_42_37 : decode (mB 42) 37 = .ok (.iconst 0, 1) := by decide +kernel
theorem u_42_37 {G : aG} {S : Nat → Bool} {f : Nat} {st : List Value} {ls : aL} {h : aH} {k n : Nat} (hs : S 37 = false) : WP 42 G S (f + 1) 37 ls st h k n = (WP 42 G S f 38 ls (.int (nI 0) :: st) h k n) := by rw [wp_s dd_42_37 rfl hs]; rfl
theorem dd_42_38 : decode (mB 42) 38 = .ok (.ireturn, 1) := by decide +kernel
theorem u_42_38 {G : aG} {S : Nat → Bool} {f : Nat} {ls : aL} {h : aH} {k n : Nat} {x : Int32} (hs : S 38 = false) : WP 42 G S (f + 1) 38 ls [.int x] h k n = (cond (x == nI 0 || x == nI 1) (RET G (some (.int x)) h k n) False) := by rw [wp_s dd_42_38 rfl hs]; rfl
theorem dd_42_39 : decode (mB 42) 39 = .ok (.aload_n 0, 1) := by decide +kernel
theorem u_42_39 {G : aG} {S : Nat → Bool} {f : Nat} {st : List Value} {ls : aL} {h : aH} {k n : Nat} (hs : S 39 = false) : WP 42 G S (f + 1) 39 ls st h k n = (oA (lget ls 0) (WP 42 G S f) 40 ls st h k n) := by rw [wp_s dd_42_39 rfl hs]; rfl
theorem dd_42_40 : decode (mB 42) 40 = .ok (.iconst 3, 1) := by decide +kernel
theorem u_42_40 {G : aG} {S : Nat → Bool} {f : Nat} {st : List Value} {ls : aL} {h : aH} {k n : Nat} (hs : S 40 = false) : WP 42 G S (f + 1) 40 ls st h k n = (WP 42 G S f 41 ls (.int (nI 3) :: st) h k n) := by rw [wp_s dd_42_40 rfl hs]; rfl
theorem dd_42_41 : decode (mB 42) 41 = .ok (.putfield 25, 3) := by decide +kernel
theorem u_42_41 {G : aG} {S : Nat → Bool} {f : Nat} {st : List Value} {ls : aL} {h : aH} {k n : Nat} {a : Nat} {x : Int32} (hs : S 41 = false) : WP 42 G S (f + 1) 41 ls (.int x :: .ref a :: st) h k n = (oH (fput h a 1 8 (.int x)) (WP 42 G S f) 44 ls st k n) := by rw [wp_s dd_42_41 rfl hs]; rfl
theorem dd_42_44 : decode (mB 42) 44 = .ok (.iload_n 1, 1) := by decide +kernel
theorem u_42_44 {G : aG} {S : Nat → Bool} {f : Nat} {st : List Value} {ls : aL} {h : aH} {k n : Nat} (hs : S 44 = false) : WP 42 G S (f + 1) 44 ls st h k n = (oI (lget ls 1) (WP 42 G S f) 45 ls st h k n) := by rw [wp_s dd_42_44 rfl hs]; rfl
theorem dd_42_45 : decode (mB 42) 45 = .ok (.invokestatic 54, 3) := by decide +kernel
theorem u_42_45 {G : aG} {S : Nat → Bool} {f : Nat} {st : List Value} {ls : aL} {h : aH} {k n : Nat} {v1 : Value} (hs : S 45 = false) : WP 42 G S (f + 1) 45 ls (v1 :: st) h k n = (CAL G (WP 42 G S f) 41 [v1] 48 ls st h k n) := by rw [wp_s dd_42_45 rfl hs]; rfl
theorem dd_42_48 : decode (mB 42) 48 = .ok (.istore_n 2, 1) := by decide +kernel
theorem u_42_48 {G : aG} {S : Nat → Bool} {f : Nat} {st : List Value} {ls : aL} {h : aH} {k n : Nat} {x : Int32} (hs : S 48 = false) : WP 42 G S (f + 1) 48 ls (.int x :: st) h k n = (WP 42 G S f 49 (lput1 ls 2 (.int x)) st h k n) := by rw [wp_s dd_42_48 rfl hs]; rfl
theorem dd_42_49 : decode (mB 42) 49 = .ok (.iload_n 2, 1) := by decide +kernel
theorem u_42_49 {G : aG} {S : Nat → Bool} {f : Nat} {st : List Value} {ls : aL} {h : aH} {k n : Nat} (hs : S 49 = false) : WP 42 G S (f + 1) 49 ls st h k n = (oI (lget ls 2) (WP 42 G S f) 50 ls st h k n) := by rw [wp_s dd_42_49 rfl hs]; rfl
theorem dd_42_50 : decode (mB 42) 50 = .ok (.iconst (-1), 1) := by decide +kernel
theorem u_42_50 {G : aG} {S : Nat → Bool} {f : Nat} {st : List Value} {ls : aL} {h : aH} {k n : Nat} (hs : S 50 = false) : WP 42 G S (f + 1) 50 ls st h k n = (WP 42 G S f 51 ls (.int (-1) :: st) h k n) := by rw [wp_s dd_42_50 rfl hs]; rfl
theorem dd_42_51 : decode (mB 42) 51 = .ok (.if_icmp .eq 26, 3) := by decide +kernel
theorem u_42_51 {G : aG} {S : Nat → Bool} {f : Nat} {st : List Value} {ls : aL} {h : aH} {k n : Nat} {x y : Int32} (hs : S 51 = false) : WP 42 G S (f + 1) 51 ls (.int y :: .int x :: st) h k n = (if x = y then WP 42 G S f 77 ls st h k n else WP 42 G S f 54 ls st h k n) := by rw [wp_s dd_42_51 rfl hs]; exact br_ite (c := x = y)
theorem dd_42_54 : decode (mB 42) 54 = .ok (.aload_n 0, 1) := by decide +kernel
theorem u_42_54 {G : aG} {S : Nat → Bool} {f : Nat} {st : List Value} {ls : aL} {h : aH} {k n : Nat} (hs : S 54 = false) : WP 42 G S (f + 1) 54 ls st h k n = (oA (lget ls 0) (WP 42 G S f) 55 ls st h k n) := by rw [wp_s dd_42_54 rfl hs]; rfl
theorem dd_42_55 : decode (mB 42) 55 = .ok (.invokevirtual 79, 3) := by decide +kernel
theorem u_42_55 {G : aG} {S : Nat → Bool} {f : Nat} {st : List Value} {ls : aL} {h : aH} {k n : Nat} {b : Nat} (hs : S 55 = false) : WP 42 G S (f + 1) 55 ls (.ref b :: st) h k n = (rcv (hget h b) 1 ∧ CAL G (WP 42 G S f) 44 [.ref b] 58 ls st h k n) := by rw [wp_s dd_42_55 rfl hs]; rfl
theorem dd_42_58 : decode (mB 42) 58 = .ok (.ifCond .eq 17, 3) := by decide +kernel
theorem u_42_58 {G : aG} {S : Nat → Bool} {f : Nat} {st : List Value} {ls : aL} {h : aH} {k n : Nat} {x : Int32} (hs : S 58 = false) : WP 42 G S (f + 1) 58 ls (.int x :: st) h k n = (if x = nI 0 then WP 42 G S f 75 ls st h k n else WP 42 G S f 61 ls st h k n) := by rw [wp_s dd_42_58 rfl hs]; exact br_ite (c := x = nI 0)
theorem dd_42_61 : decode (mB 42) 61 = .ok (.aload_n 0, 1) := by decide +kernel
theorem u_42_61 {G : aG} {S : Nat → Bool} {f : Nat} {st : List Value} {ls : aL} {h : aH} {k n : Nat} (hs : S 61 = false) : WP 42 G S (f + 1) 61 ls st h k n = (oA (lget ls 0) (WP 42 G S f) 62 ls st h k n) := by rw [wp_s dd_42_61 rfl hs]; rfl
theorem dd_42_62 : decode (mB 42) 62 = .ok (.iload_n 2, 1) := by decide +kernel
theorem u_42_62 {G : aG} {S : Nat → Bool} {f : Nat} {st : List Value} {ls : aL} {h : aH} {k n : Nat} (hs : S 62 = false) : WP 42 G S (f + 1) 62 ls st h k n = (oI (lget ls 2) (WP 42 G S f) 63 ls st h k n) := by rw [wp_s dd_42_62 rfl hs]; rfl
theorem dd_42_63 : decode (mB 42) 63 = .ok (.iconst 1, 1) := by decide +kernel
theorem u_42_63 {G : aG} {S : Nat → Bool} {f : Nat} {st : List Value} {ls : aL} {h : aH} {k n : Nat} (hs : S 63 = false) : WP 42 G S (f + 1) 63 ls st h k n = (WP 42 G S f 64 ls (.int (nI 1) :: st) h k n) := by rw [wp_s dd_42_63 rfl hs]; rfl
theorem dd_42_64 : decode (mB 42) 64 = .ok (.iadd, 1) := by decide +kernel
theorem u_42_64 {G : aG} {S : Nat → Bool} {f : Nat} {st : List Value} {ls : aL} {h : aH} {k n : Nat} {x y : Int32} (hs : S 64 = false) : WP 42 G S (f + 1) 64 ls (.int y :: .int x :: st) h k n = (WP 42 G S f 65 ls (.int (x + y) :: st) h k n) := by rw [wp_s dd_42_64 rfl hs]; rfl
theorem dd_42_65 : decode (mB 42) 65 = .ok (.invokevirtual 83, 3) := by decide +kernel
theorem u_42_65 {G : aG} {S : Nat → Bool} {f : Nat} {st : List Value} {ls : aL} {h : aH} {k n : Nat} {v1 : Value} {b : Nat} (hs : S 65 = false) : WP 42 G S (f + 1) 65 ls (v1 :: .ref b :: st) h k n = (rcv (hget h b) 1 ∧ CAL G (WP 42 G S f) 45 [.ref b, v1] 68 ls st h k n) := by rw [wp_s dd_42_65 rfl hs]; rfl
theorem dd_42_68 : decode (mB 42) 68 = .ok (.ifCond .eq 7, 3) := by decide +kernel
theorem u_42_68 {G : aG} {S : Nat → Bool} {f : Nat} {st : List Value} {ls : aL} {h : aH} {k n : Nat} {x : Int32} (hs : S 68 = false) : WP 42 G S (f + 1) 68 ls (.int x :: st) h k n = (if x = nI 0 then WP 42 G S f 75 ls st h k n else WP 42 G S f 71 ls st h k n) := by rw [wp_s dd_42_68 rfl hs]; exact br_ite (c := x = nI 0)
theorem dd_42_71 : decode (mB 42) 71 = .ok (.iconst 1, 1) := by decide +kernel
theorem u_42_71 {G : aG} {S : Nat → Bool} {f : Nat} {st : List Value} {ls : aL} {h : aH} {k n : Nat} (hs : S 71 = false) : WP 42 G S (f + 1) 71 ls st h k n = (WP 42 G S f 72 ls (.int (nI 1) :: st) h k n) := by rw [wp_s dd_42_71 rfl hs]; rfl
theorem dd_42_72 : decode (mB 42) 72 = .ok (.goto 4, 3) := by decide +kernel
theorem u_42_72 {G : aG} {S : Nat → Bool} {f : Nat} {st : List Value} {ls : aL} {h : aH} {k n : Nat} (hs : S 72 = false) : WP 42 G S (f + 1) 72 ls st h k n = (WP 42 G S f 76 ls st h k n) := by rw [wp_s dd_42_72 rfl hs]; rfl
theorem dd_42_75 : decode (mB 42) 75 = .ok (.iconst 0, 1) := by decide +kernel
theorem u_42_75 {G : aG} {S : Nat → Bool} {f : Nat} {st : List Value} {ls : aL} {h : aH} {k n : Nat} (hs : S 75 = false) : WP 42 G S (f + 1) 75 ls st h k n = (WP 42 G S f 76 ls (.int (nI 0) :: st) h k n) := by rw [wp_s dd_42_75 rfl hs]; rfl
theorem dd_42_76 : decode (mB 42) 76 = .ok (.ireturn, 1) := by decide +kernel
theorem u_42_76 {G : aG} {S : Nat → Bool} {f : Nat} {ls : aL} {h : aH} {k n : Nat} {x : Int32} (hs : S 76 = false) : WP 42 G S (f + 1) 76 ls [.int x] h k n = (cond (x == nI 0 || x == nI 1) (RET G (some (.int x)) h k n) False) := by rw [wp_s dd_42_76 rfl hs]; rfl
theorem dd_42_77 : decode (mB 42) 77 = .ok (.iload_n 1, 1) := by decide +kernel
theorem u_42_77 {G : aG} {S : Nat → Bool} {f : Nat} {st : List Value} {ls : aL} {h : aH} {k n : Nat} (hs : S 77 = false) : WP 42 G S (f + 1) 77 ls st h k n = (oI (lget ls 1) (WP 42 G S f) 78 ls st h k n) := by rw [wp_s dd_42_77 rfl hs]; rfl
theorem dd_42_78 : decode (mB 42) 78 = .ok (.bipush 95, 2) := by decide +kernel
theorem u_42_78 {G : aG} {S : Nat → Bool} {f : Nat} {st : List Value} {ls : aL} {h : aH} {k n : Nat} (hs : S 78 = false) : WP 42 G S (f + 1) 78 ls st h k n = (WP 42 G S f 80 ls (.int (nI 95) :: st) h k n) := by rw [wp_s dd_42_78 rfl hs]; rfl
theorem dd_42_80 : decode (mB 42) 80 = .ok (.if_icmp .ne 23, 3) := by decide +kernel
theorem u_42_80 {G : aG} {S : Nat → Bool} {f : Nat} {st : List Value} {ls : aL} {h : aH} {k n : Nat} {x y : Int32} (hs : S 80 = false) : WP 42 G S (f + 1) 80 ls (.int y :: .int x :: st) h k n = (if x = y then WP 42 G S f 83 ls st h k n else WP 42 G S f 103 ls st h k n) := by rw [wp_s dd_42_80 rfl hs]; exact br_iten (c := x = y)
theorem dd_42_83 : decode (mB 42) 83 = .ok (.aload_n 0, 1) := by decide +kernel
theorem u_42_83 {G : aG} {S : Nat → Bool} {f : Nat} {st : List Value} {ls : aL} {h : aH} {k n : Nat} (hs : S 83 = false) : WP 42 G S (f + 1) 83 ls st h k n = (oA (lget ls 0) (WP 42 G S f) 84 ls st h k n) := by rw [wp_s dd_42_83 rfl hs]; rfl
theorem dd_42_84 : decode (mB 42) 84 = .ok (.invokevirtual 79, 3) := by decide +kernel
theorem u_42_84 {G : aG} {S : Nat → Bool} {f : Nat} {st : List Value} {ls : aL} {h : aH} {k n : Nat} {b : Nat} (hs : S 84 = false) : WP 42 G S (f + 1) 84 ls (.ref b :: st) h k n = (rcv (hget h b) 1 ∧ CAL G (WP 42 G S f) 44 [.ref b] 87 ls st h k n) := by rw [wp_s dd_42_84 rfl hs]; rfl
theorem dd_42_87 : decode (mB 42) 87 = .ok (.ifCond .eq 16, 3) := by decide +kernel
theorem u_42_87 {G : aG} {S : Nat → Bool} {f : Nat} {st : List Value} {ls : aL} {h : aH} {k n : Nat} {x : Int32} (hs : S 87 = false) : WP 42 G S (f + 1) 87 ls (.int x :: st) h k n = (if x = nI 0 then WP 42 G S f 103 ls st h k n else WP 42 G S f 90 ls st h k n) := by rw [wp_s dd_42_87 rfl hs]; exact br_ite (c := x = nI 0)
theorem dd_42_90 : decode (mB 42) 90 = .ok (.aload_n 0, 1) := by decide +kernel
theorem u_42_90 {G : aG} {S : Nat → Bool} {f : Nat} {st : List Value} {ls : aL} {h : aH} {k n : Nat} (hs : S 90 = false) : WP 42 G S (f + 1) 90 ls st h k n = (oA (lget ls 0) (WP 42 G S f) 91 ls st h k n) := by rw [wp_s dd_42_90 rfl hs]; rfl
theorem dd_42_91 : decode (mB 42) 91 = .ok (.bipush 9, 2) := by decide +kernel
theorem u_42_91 {G : aG} {S : Nat → Bool} {f : Nat} {st : List Value} {ls : aL} {h : aH} {k n : Nat} (hs : S 91 = false) : WP 42 G S (f + 1) 91 ls st h k n = (WP 42 G S f 93 ls (.int (nI 9) :: st) h k n) := by rw [wp_s dd_42_91 rfl hs]; rfl
theorem dd_42_93 : decode (mB 42) 93 = .ok (.invokevirtual 83, 3) := by decide +kernel
theorem u_42_93 {G : aG} {S : Nat → Bool} {f : Nat} {st : List Value} {ls : aL} {h : aH} {k n : Nat} {v1 : Value} {b : Nat} (hs : S 93 = false) : WP 42 G S (f + 1) 93 ls (v1 :: .ref b :: st) h k n = (rcv (hget h b) 1 ∧ CAL G (WP 42 G S f) 45 [.ref b, v1] 96 ls st h k n) := by rw [wp_s dd_42_93 rfl hs]; rfl
theorem dd_42_96 : decode (mB 42) 96 = .ok (.ifCond .eq 7, 3) := by decide +kernel
theorem u_42_96 {G : aG} {S : Nat → Bool} {f : Nat} {st : List Value} {ls : aL} {h : aH} {k n : Nat} {x : Int32} (hs : S 96 = false) : WP 42 G S (f + 1) 96 ls (.int x :: st) h k n = (if x = nI 0 then WP 42 G S f 103 ls st h k n else WP 42 G S f 99 ls st h k n) := by rw [wp_s dd_42_96 rfl hs]; exact br_ite (c := x = nI 0)
theorem dd_42_99 : decode (mB 42) 99 = .ok (.iconst 1, 1) := by decide +kernel
theorem u_42_99 {G : aG} {S : Nat → Bool} {f : Nat} {st : List Value} {ls : aL} {h : aH} {k n : Nat} (hs : S 99 = false) : WP 42 G S (f + 1) 99 ls st h k n = (WP 42 G S f 100 ls (.int (nI 1) :: st) h k n) := by rw [wp_s dd_42_99 rfl hs]; rfl
theorem dd_42_100 : decode (mB 42) 100 = .ok (.goto 4, 3) := by decide +kernel
theorem u_42_100 {G : aG} {S : Nat → Bool} {f : Nat} {st : List Value} {ls : aL} {h : aH} {k n : Nat} (hs : S 100 = false) : WP 42 G S (f + 1) 100 ls st h k n = (WP 42 G S f 104 ls st h k n) := by rw [wp_s dd_42_100 rfl hs]; rfl
theorem dd_42_103 : decode (mB 42) 103 = .ok (.iconst 0, 1) := by decide +kernel
theorem u_42_103 {G : aG} {S : Nat → Bool} {f : Nat} {st : List Value} {ls : aL} {h : aH} {k n : Nat} (hs : S 103 = false) : WP 42 G S (f + 1) 103 ls st h k n = (WP 42 G S f 104 ls (.int (nI 0) :: st) h k n) := by rw [wp_s dd_42_103 rfl hs]; rfl
theorem dd_42_104 : decode (mB 42) 104 = .ok (.ireturn, 1) := by decide +kernel
theorem u_42_104 {G : aG} {S : Nat → Bool} {f : Nat} {ls : aL} {h : aH} {k n : Nat} {x : Int32} (hs : S 104 = false) : WP 42 G S (f + 1) 104 ls [.int x] h k n = (cond (x == nI 0 || x == nI 1) (RET G (some (.int x)) h k n) False) := by rw [wp_s dd_42_104 rfl hs]; rfl
theorem dd_43_0 : decode (mB 43) 0 = .ok (.aload_n 0, 1) := by decide +kernel
theorem u_43_0 {G : aG} {S : Nat → Bool} {f : Nat} {st : List Value} {ls : aL} {h : aH} {k n : Nat} (hs : S 0 = false) : WP 43 G S (f + 1) 0 ls st h k n = (oA (lget ls 0) (WP 43 G S f) 1 ls st h k n) := by rw [wp_s dd_43_0 rfl hs]; rfl
theorem dd_43_1 : decode (mB 43) 1 = .ok (.getfield 60, 3) := by decide +kernel
theorem u_43_1 {G : aG} {S : Nat → Bool} {f : Nat} {st : List Value} {ls : aL} {h : aH} {k n : Nat} {a : Nat} (hs : S 1 = false) : WP 43 G S (f + 1) 1 ls (.ref a :: st) h k n = (oV (fget h a 1 2) (WP 43 G S f) 4 ls st h k n) := by rw [wp_s dd_43_1 rfl hs]; rfl
theorem dd_43_4 : decode (mB 43) 4 = .ok (.ifCond .lt 15, 3) := by decide +kernel
theorem u_43_4 {G : aG} {S : Nat → Bool} {f : Nat} {st : List Value} {ls : aL} {h : aH} {k n : Nat} {x : Int32} (hs : S 4 = false) : WP 43 G S (f + 1) 4 ls (.int x :: st) h k n = (if x < nI 0 then WP 43 G S f 19 ls st h k n else WP 43 G S f 7 ls st h k n) := by rw [wp_s dd_43_4 rfl hs]; exact br_ite (c := x < nI 0)
theorem dd_43_7 : decode (mB 43) 7 = .ok (.aload_n 0, 1) := by decide +kernel
theorem u_43_7 {G : aG} {S : Nat → Bool} {f : Nat} {st : List Value} {ls : aL} {h : aH} {k n : Nat} (hs : S 7 = false) : WP 43 G S (f + 1) 7 ls st h k n = (oA (lget ls 0) (WP 43 G S f) 8 ls st h k n) := by rw [wp_s dd_43_7 rfl hs]; rfl
theorem dd_43_8 : decode (mB 43) 8 = .ok (.getfield 60, 3) := by decide +kernel
theorem u_43_8 {G : aG} {S : Nat → Bool} {f : Nat} {st : List Value} {ls : aL} {h : aH} {k n : Nat} {a : Nat} (hs : S 8 = false) : WP 43 G S (f + 1) 8 ls (.ref a :: st) h k n = (oV (fget h a 1 2) (WP 43 G S f) 11 ls st h k n) := by rw [wp_s dd_43_8 rfl hs]; rfl
theorem dd_43_11 : decode (mB 43) 11 = .ok (.aload_n 0, 1) := by decide +kernel
theorem u_43_11 {G : aG} {S : Nat → Bool} {f : Nat} {st : List Value} {ls : aL} {h : aH} {k n : Nat} (hs : S 11 = false) : WP 43 G S (f + 1) 11 ls st h k n = (oA (lget ls 0) (WP 43 G S f) 12 ls st h k n) := by rw [wp_s dd_43_11 rfl hs]; rfl
theorem dd_43_12 : decode (mB 43) 12 = .ok (.getfield 15, 3) := by decide +kernel
theorem u_43_12 {G : aG} {S : Nat → Bool} {f : Nat} {st : List Value} {ls : aL} {h : aH} {k n : Nat} {a : Nat} (hs : S 12 = false) : WP 43 G S (f + 1) 12 ls (.ref a :: st) h k n = (oV (fget h a 1 1) (WP 43 G S f) 15 ls st h k n) := by rw [wp_s dd_43_12 rfl hs]; rfl
theorem dd_43_15 : decode (mB 43) 15 = .ok (.arraylength, 1) := by decide +kernel
theorem u_43_15 {G : aG} {S : Nat → Bool} {f : Nat} {st : List Value} {ls : aL} {h : aH} {k n : Nat} {a : Nat} (hs : S 15 = false) : WP 43 G S (f + 1) 15 ls (.ref a :: st) h k n = (oLen (alen h a) (WP 43 G S f) 16 ls st h k n) := by rw [wp_s dd_43_15 rfl hs]; rfl
theorem dd_43_16 : decode (mB 43) 16 = .ok (.if_icmp .lt 5, 3) := by decide +kernel
theorem u_43_16 {G : aG} {S : Nat → Bool} {f : Nat} {st : List Value} {ls : aL} {h : aH} {k n : Nat} {x y : Int32} (hs : S 16 = false) : WP 43 G S (f + 1) 16 ls (.int y :: .int x :: st) h k n = (if x < y then WP 43 G S f 21 ls st h k n else WP 43 G S f 19 ls st h k n) := by rw [wp_s dd_43_16 rfl hs]; exact br_ite (c := x < y)
theorem dd_43_19 : decode (mB 43) 19 = .ok (.iconst 0, 1) := by decide +kernel
theorem u_43_19 {G : aG} {S : Nat → Bool} {f : Nat} {st : List Value} {ls : aL} {h : aH} {k n : Nat} (hs : S 19 = false) : WP 43 G S (f + 1) 19 ls st h k n = (WP 43 G S f 20 ls (.int (nI 0) :: st) h k n) := by rw [wp_s dd_43_19 rfl hs]; rfl
theorem dd_43_20 : decode (mB 43) 20 = .ok (.ireturn, 1) := by decide +kernel
theorem u_43_20 {G : aG} {S : Nat → Bool} {f : Nat} {ls : aL} {h : aH} {k n : Nat} {x : Int32} (hs : S 20 = false) : WP 43 G S (f + 1) 20 ls [.int x] h k n = (cond (x == nI 0 || x == nI 1) (RET G (some (.int x)) h k n) False) := by rw [wp_s dd_43_20 rfl hs]; rfl
theorem dd_43_21 : decode (mB 43) 21 = .ok (.aload_n 0, 1) := by decide +kernel
theorem u_43_21 {G : aG} {S : Nat → Bool} {f : Nat} {st : List Value} {ls : aL} {h : aH} {k n : Nat} (hs : S 21 = false) : WP 43 G S (f + 1) 21 ls st h k n = (oA (lget ls 0) (WP 43 G S f) 22 ls st h k n) := by rw [wp_s dd_43_21 rfl hs]; rfl
theorem dd_43_22 : decode (mB 43) 22 = .ok (.getfield 15, 3) := by decide +kernel
theorem u_43_22 {G : aG} {S : Nat → Bool} {f : Nat} {st : List Value} {ls : aL} {h : aH} {k n : Nat} {a : Nat} (hs : S 22 = false) : WP 43 G S (f + 1) 22 ls (.ref a :: st) h k n = (oV (fget h a 1 1) (WP 43 G S f) 25 ls st h k n) := by rw [wp_s dd_43_22 rfl hs]; rfl
theorem dd_43_25 : decode (mB 43) 25 = .ok (.aload_n 0, 1) := by decide +kernel
theorem u_43_25 {G : aG} {S : Nat → Bool} {f : Nat} {st : List Value} {ls : aL} {h : aH} {k n : Nat} (hs : S 25 = false) : WP 43 G S (f + 1) 25 ls st h k n = (oA (lget ls 0) (WP 43 G S f) 26 ls st h k n) := by rw [wp_s dd_43_25 rfl hs]; rfl
theorem dd_43_26 : decode (mB 43) 26 = .ok (.getfield 60, 3) := by decide +kernel
theorem u_43_26 {G : aG} {S : Nat → Bool} {f : Nat} {st : List Value} {ls : aL} {h : aH} {k n : Nat} {a : Nat} (hs : S 26 = false) : WP 43 G S (f + 1) 26 ls (.ref a :: st) h k n = (oV (fget h a 1 2) (WP 43 G S f) 29 ls st h k n) := by rw [wp_s dd_43_26 rfl hs]; rfl
theorem dd_43_29 : decode (mB 43) 29 = .ok (.iload_n 1, 1) := by decide +kernel
theorem u_43_29 {G : aG} {S : Nat → Bool} {f : Nat} {st : List Value} {ls : aL} {h : aH} {k n : Nat} (hs : S 29 = false) : WP 43 G S (f + 1) 29 ls st h k n = (oI (lget ls 1) (WP 43 G S f) 30 ls st h k n) := by rw [wp_s dd_43_29 rfl hs]; rfl
theorem dd_43_30 : decode (mB 43) 30 = .ok (.iastore, 1) := by decide +kernel
theorem u_43_30 {G : aG} {S : Nat → Bool} {f : Nat} {st : List Value} {ls : aL} {h : aH} {k n : Nat} {i x : Int32} {a : Nat} (hs : S 30 = false) : WP 43 G S (f + 1) 30 ls (.int x :: .int i :: .ref a :: st) h k n = (oIst (iget h a 1) a i x (WP 43 G S f) 31 ls st h k n) := by rw [wp_s dd_43_30 rfl hs]; rfl
theorem dd_43_31 : decode (mB 43) 31 = .ok (.aload_n 0, 1) := by decide +kernel
theorem u_43_31 {G : aG} {S : Nat → Bool} {f : Nat} {st : List Value} {ls : aL} {h : aH} {k n : Nat} (hs : S 31 = false) : WP 43 G S (f + 1) 31 ls st h k n = (oA (lget ls 0) (WP 43 G S f) 32 ls st h k n) := by rw [wp_s dd_43_31 rfl hs]; rfl
theorem dd_43_32 : decode (mB 43) 32 = .ok (.dup, 1) := by decide +kernel
theorem u_43_32 {G : aG} {S : Nat → Bool} {f : Nat} {st : List Value} {ls : aL} {h : aH} {k n : Nat} {v : Value} (hs : S 32 = false) : WP 43 G S (f + 1) 32 ls (v :: st) h k n = (cond (cat1 v) (WP 43 G S f 33 ls (v :: v :: st) h k n) False) := by rw [wp_s dd_43_32 rfl hs]; rfl
theorem dd_43_33 : decode (mB 43) 33 = .ok (.getfield 60, 3) := by decide +kernel
theorem u_43_33 {G : aG} {S : Nat → Bool} {f : Nat} {st : List Value} {ls : aL} {h : aH} {k n : Nat} {a : Nat} (hs : S 33 = false) : WP 43 G S (f + 1) 33 ls (.ref a :: st) h k n = (oV (fget h a 1 2) (WP 43 G S f) 36 ls st h k n) := by rw [wp_s dd_43_33 rfl hs]; rfl
theorem dd_43_36 : decode (mB 43) 36 = .ok (.iconst 1, 1) := by decide +kernel
theorem u_43_36 {G : aG} {S : Nat → Bool} {f : Nat} {st : List Value} {ls : aL} {h : aH} {k n : Nat} (hs : S 36 = false) : WP 43 G S (f + 1) 36 ls st h k n = (WP 43 G S f 37 ls (.int (nI 1) :: st) h k n) := by rw [wp_s dd_43_36 rfl hs]; rfl
theorem dd_43_37 : decode (mB 43) 37 = .ok (.iadd, 1) := by decide +kernel
theorem u_43_37 {G : aG} {S : Nat → Bool} {f : Nat} {st : List Value} {ls : aL} {h : aH} {k n : Nat} {x y : Int32} (hs : S 37 = false) : WP 43 G S (f + 1) 37 ls (.int y :: .int x :: st) h k n = (WP 43 G S f 38 ls (.int (x + y) :: st) h k n) := by rw [wp_s dd_43_37 rfl hs]; rfl
theorem dd_43_38 : decode (mB 43) 38 = .ok (.putfield 60, 3) := by decide +kernel
theorem u_43_38 {G : aG} {S : Nat → Bool} {f : Nat} {st : List Value} {ls : aL} {h : aH} {k n : Nat} {a : Nat} {x : Int32} (hs : S 38 = false) : WP 43 G S (f + 1) 38 ls (.int x :: .ref a :: st) h k n = (oH (fput h a 1 2 (.int x)) (WP 43 G S f) 41 ls st k n) := by rw [wp_s dd_43_38 rfl hs]; rfl
theorem dd_43_41 : decode (mB 43) 41 = .ok (.iconst 1, 1) := by decide +kernel
theorem u_43_41 {G : aG} {S : Nat → Bool} {f : Nat} {st : List Value} {ls : aL} {h : aH} {k n : Nat} (hs : S 41 = false) : WP 43 G S (f + 1) 41 ls st h k n = (WP 43 G S f 42 ls (.int (nI 1) :: st) h k n) := by rw [wp_s dd_43_41 rfl hs]; rfl
theorem dd_43_42 : decode (mB 43) 42 = .ok (.ireturn, 1) := by decide +kernel
theorem u_43_42 {G : aG} {S : Nat → Bool} {f : Nat} {ls : aL} {h : aH} {k n : Nat} {x : Int32} (hs : S 42 = false) : WP 43 G S (f + 1) 42 ls [.int x] h k n = (cond (x == nI 0 || x == nI 1) (RET G (some (.int x)) h k n) False) := by rw [wp_s dd_43_42 rfl hs]; rfl
theorem dd_44_0 : decode (mB 44) 0 = .ok (.aload_n 0, 1) := by decide +kernel
theorem u_44_0 {G : aG} {S : Nat → Bool} {f : Nat} {st : List Value} {ls : aL} {h : aH} {k n : Nat} (hs : S 0 = false) : WP 44 G S (f + 1) 0 ls st h k n = (oA (lget ls 0) (WP 44 G S f) 1 ls st h k n) := by rw [wp_s dd_44_0 rfl hs]; rfl
theorem dd_44_1 : decode (mB 44) 1 = .ok (.dup, 1) := by decide +kernel
theorem u_44_1 {G : aG} {S : Nat → Bool} {f : Nat} {st : List Value} {ls : aL} {h : aH} {k n : Nat} {v : Value} (hs : S 1 = false) : WP 44 G S (f + 1) 1 ls (v :: st) h k n = (cond (cat1 v) (WP 44 G S f 2 ls (v :: v :: st) h k n) False) := by rw [wp_s dd_44_1 rfl hs]; rfl
theorem dd_44_2 : decode (mB 44) 2 = .ok (.getfield 66, 3) := by decide +kernel
theorem u_44_2 {G : aG} {S : Nat → Bool} {f : Nat} {st : List Value} {ls : aL} {h : aH} {k n : Nat} {a : Nat} (hs : S 2 = false) : WP 44 G S (f + 1) 2 ls (.ref a :: st) h k n = (oV (fget h a 1 4) (WP 44 G S f) 5 ls st h k n) := by rw [wp_s dd_44_2 rfl hs]; rfl
theorem dd_44_5 : decode (mB 44) 5 = .ok (.iconst 1, 1) := by decide +kernel
theorem u_44_5 {G : aG} {S : Nat → Bool} {f : Nat} {st : List Value} {ls : aL} {h : aH} {k n : Nat} (hs : S 5 = false) : WP 44 G S (f + 1) 5 ls st h k n = (WP 44 G S f 6 ls (.int (nI 1) :: st) h k n) := by rw [wp_s dd_44_5 rfl hs]; rfl
theorem dd_44_6 : decode (mB 44) 6 = .ok (.iadd, 1) := by decide +kernel
theorem u_44_6 {G : aG} {S : Nat → Bool} {f : Nat} {st : List Value} {ls : aL} {h : aH} {k n : Nat} {x y : Int32} (hs : S 6 = false) : WP 44 G S (f + 1) 6 ls (.int y :: .int x :: st) h k n = (WP 44 G S f 7 ls (.int (x + y) :: st) h k n) := by rw [wp_s dd_44_6 rfl hs]; rfl
theorem dd_44_7 : decode (mB 44) 7 = .ok (.putfield 66, 3) := by decide +kernel
theorem u_44_7 {G : aG} {S : Nat → Bool} {f : Nat} {st : List Value} {ls : aL} {h : aH} {k n : Nat} {a : Nat} {x : Int32} (hs : S 7 = false) : WP 44 G S (f + 1) 7 ls (.int x :: .ref a :: st) h k n = (oH (fput h a 1 4 (.int x)) (WP 44 G S f) 10 ls st k n) := by rw [wp_s dd_44_7 rfl hs]; rfl
theorem dd_44_10 : decode (mB 44) 10 = .ok (.aload_n 0, 1) := by decide +kernel
theorem u_44_10 {G : aG} {S : Nat → Bool} {f : Nat} {st : List Value} {ls : aL} {h : aH} {k n : Nat} (hs : S 10 = false) : WP 44 G S (f + 1) 10 ls st h k n = (oA (lget ls 0) (WP 44 G S f) 11 ls st h k n) := by rw [wp_s dd_44_10 rfl hs]; rfl
theorem dd_44_11 : decode (mB 44) 11 = .ok (.getfield 66, 3) := by decide +kernel
theorem u_44_11 {G : aG} {S : Nat → Bool} {f : Nat} {st : List Value} {ls : aL} {h : aH} {k n : Nat} {a : Nat} (hs : S 11 = false) : WP 44 G S (f + 1) 11 ls (.ref a :: st) h k n = (oV (fget h a 1 4) (WP 44 G S f) 14 ls st h k n) := by rw [wp_s dd_44_11 rfl hs]; rfl
theorem dd_44_14 : decode (mB 44) 14 = .ok (.bipush 16, 2) := by decide +kernel
theorem u_44_14 {G : aG} {S : Nat → Bool} {f : Nat} {st : List Value} {ls : aL} {h : aH} {k n : Nat} (hs : S 14 = false) : WP 44 G S (f + 1) 14 ls st h k n = (WP 44 G S f 16 ls (.int (nI 16) :: st) h k n) := by rw [wp_s dd_44_14 rfl hs]; rfl
theorem dd_44_16 : decode (mB 44) 16 = .ok (.if_icmp .gt 7, 3) := by decide +kernel
theorem u_44_16 {G : aG} {S : Nat → Bool} {f : Nat} {st : List Value} {ls : aL} {h : aH} {k n : Nat} {x y : Int32} (hs : S 16 = false) : WP 44 G S (f + 1) 16 ls (.int y :: .int x :: st) h k n = (if y < x then WP 44 G S f 23 ls st h k n else WP 44 G S f 19 ls st h k n) := by rw [wp_s dd_44_16 rfl hs]; exact br_ite (c := y < x)
theorem dd_44_19 : decode (mB 44) 19 = .ok (.iconst 1, 1) := by decide +kernel
theorem u_44_19 {G : aG} {S : Nat → Bool} {f : Nat} {st : List Value} {ls : aL} {h : aH} {k n : Nat} (hs : S 19 = false) : WP 44 G S (f + 1) 19 ls st h k n = (WP 44 G S f 20 ls (.int (nI 1) :: st) h k n) := by rw [wp_s dd_44_19 rfl hs]; rfl
theorem dd_44_20 : decode (mB 44) 20 = .ok (.goto 4, 3) := by decide +kernel
theorem u_44_20 {G : aG} {S : Nat → Bool} {f : Nat} {st : List Value} {ls : aL} {h : aH} {k n : Nat} (hs : S 20 = false) : WP 44 G S (f + 1) 20 ls st h k n = (WP 44 G S f 24 ls st h k n) := by rw [wp_s dd_44_20 rfl hs]; rfl
theorem dd_44_23 : decode (mB 44) 23 = .ok (.iconst 0, 1) := by decide +kernel
theorem u_44_23 {G : aG} {S : Nat → Bool} {f : Nat} {st : List Value} {ls : aL} {h : aH} {k n : Nat} (hs : S 23 = false) : WP 44 G S (f + 1) 23 ls st h k n = (WP 44 G S f 24 ls (.int (nI 0) :: st) h k n) := by rw [wp_s dd_44_23 rfl hs]; rfl
theorem dd_44_24 : decode (mB 44) 24 = .ok (.ireturn, 1) := by decide +kernel
theorem u_44_24 {G : aG} {S : Nat → Bool} {f : Nat} {ls : aL} {h : aH} {k n : Nat} {x : Int32} (hs : S 24 = false) : WP 44 G S (f + 1) 24 ls [.int x] h k n = (cond (x == nI 0 || x == nI 1) (RET G (some (.int x)) h k n) False) := by rw [wp_s dd_44_24 rfl hs]; rfl
theorem dd_45_0 : decode (mB 45) 0 = .ok (.aload_n 0, 1) := by decide +kernel
theorem u_45_0 {G : aG} {S : Nat → Bool} {f : Nat} {st : List Value} {ls : aL} {h : aH} {k n : Nat} (hs : S 0 = false) : WP 45 G S (f + 1) 0 ls st h k n = (oA (lget ls 0) (WP 45 G S f) 1 ls st h k n) := by rw [wp_s dd_45_0 rfl hs]; rfl
theorem dd_45_1 : decode (mB 45) 1 = .ok (.getfield 69, 3) := by decide +kernel
theorem u_45_1 {G : aG} {S : Nat → Bool} {f : Nat} {st : List Value} {ls : aL} {h : aH} {k n : Nat} {a : Nat} (hs : S 1 = false) : WP 45 G S (f + 1) 1 ls (.ref a :: st) h k n = (oV (fget h a 1 5) (WP 45 G S f) 4 ls st h k n) := by rw [wp_s dd_45_1 rfl hs]; rfl
theorem dd_45_4 : decode (mB 45) 4 = .ok (.bipush 16, 2) := by decide +kernel
theorem u_45_4 {G : aG} {S : Nat → Bool} {f : Nat} {st : List Value} {ls : aL} {h : aH} {k n : Nat} (hs : S 4 = false) : WP 45 G S (f + 1) 4 ls st h k n = (WP 45 G S f 6 ls (.int (nI 16) :: st) h k n) := by rw [wp_s dd_45_4 rfl hs]; rfl
theorem dd_45_6 : decode (mB 45) 6 = .ok (.if_icmp .lt 5, 3) := by decide +kernel
theorem u_45_6 {G : aG} {S : Nat → Bool} {f : Nat} {st : List Value} {ls : aL} {h : aH} {k n : Nat} {x y : Int32} (hs : S 6 = false) : WP 45 G S (f + 1) 6 ls (.int y :: .int x :: st) h k n = (if x < y then WP 45 G S f 11 ls st h k n else WP 45 G S f 9 ls st h k n) := by rw [wp_s dd_45_6 rfl hs]; exact br_ite (c := x < y)
theorem dd_45_9 : decode (mB 45) 9 = .ok (.iconst 0, 1) := by decide +kernel
theorem u_45_9 {G : aG} {S : Nat → Bool} {f : Nat} {st : List Value} {ls : aL} {h : aH} {k n : Nat} (hs : S 9 = false) : WP 45 G S (f + 1) 9 ls st h k n = (WP 45 G S f 10 ls (.int (nI 0) :: st) h k n) := by rw [wp_s dd_45_9 rfl hs]; rfl
theorem dd_45_10 : decode (mB 45) 10 = .ok (.ireturn, 1) := by decide +kernel
theorem u_45_10 {G : aG} {S : Nat → Bool} {f : Nat} {ls : aL} {h : aH} {k n : Nat} {x : Int32} (hs : S 10 = false) : WP 45 G S (f + 1) 10 ls [.int x] h k n = (cond (x == nI 0 || x == nI 1) (RET G (some (.int x)) h k n) False) := by rw [wp_s dd_45_10 rfl hs]; rfl
theorem dd_45_11 : decode (mB 45) 11 = .ok (.aload_n 0, 1) := by decide +kernel
theorem u_45_11 {G : aG} {S : Nat → Bool} {f : Nat} {st : List Value} {ls : aL} {h : aH} {k n : Nat} (hs : S 11 = false) : WP 45 G S (f + 1) 11 ls st h k n = (oA (lget ls 0) (WP 45 G S f) 12 ls st h k n) := by rw [wp_s dd_45_11 rfl hs]; rfl
theorem dd_45_12 : decode (mB 45) 12 = .ok (.dup, 1) := by decide +kernel
theorem u_45_12 {G : aG} {S : Nat → Bool} {f : Nat} {st : List Value} {ls : aL} {h : aH} {k n : Nat} {v : Value} (hs : S 12 = false) : WP 45 G S (f + 1) 12 ls (v :: st) h k n = (cond (cat1 v) (WP 45 G S f 13 ls (v :: v :: st) h k n) False) := by rw [wp_s dd_45_12 rfl hs]; rfl
theorem dd_45_13 : decode (mB 45) 13 = .ok (.getfield 72, 3) := by decide +kernel
theorem u_45_13 {G : aG} {S : Nat → Bool} {f : Nat} {st : List Value} {ls : aL} {h : aH} {k n : Nat} {a : Nat} (hs : S 13 = false) : WP 45 G S (f + 1) 13 ls (.ref a :: st) h k n = (oV (fget h a 1 6) (WP 45 G S f) 16 ls st h k n) := by rw [wp_s dd_45_13 rfl hs]; rfl
theorem dd_45_16 : decode (mB 45) 16 = .ok (.iload_n 1, 1) := by decide +kernel
theorem u_45_16 {G : aG} {S : Nat → Bool} {f : Nat} {st : List Value} {ls : aL} {h : aH} {k n : Nat} (hs : S 16 = false) : WP 45 G S (f + 1) 16 ls st h k n = (oI (lget ls 1) (WP 45 G S f) 17 ls st h k n) := by rw [wp_s dd_45_16 rfl hs]; rfl
theorem dd_45_17 : decode (mB 45) 17 = .ok (.i2l, 1) := by decide +kernel
theorem u_45_17 {G : aG} {S : Nat → Bool} {f : Nat} {st : List Value} {ls : aL} {h : aH} {k n : Nat} {x : Int32} (hs : S 17 = false) : WP 45 G S (f + 1) 17 ls (.int x :: st) h k n = (WP 45 G S f 18 ls (.long x.toInt64 :: st) h k n) := by rw [wp_s dd_45_17 rfl hs]; rfl
theorem dd_45_18 : decode (mB 45) 18 = .ok (.iconst 4, 1) := by decide +kernel
theorem u_45_18 {G : aG} {S : Nat → Bool} {f : Nat} {st : List Value} {ls : aL} {h : aH} {k n : Nat} (hs : S 18 = false) : WP 45 G S (f + 1) 18 ls st h k n = (WP 45 G S f 19 ls (.int (nI 4) :: st) h k n) := by rw [wp_s dd_45_18 rfl hs]; rfl
theorem dd_45_19 : decode (mB 45) 19 = .ok (.aload_n 0, 1) := by decide +kernel
theorem u_45_19 {G : aG} {S : Nat → Bool} {f : Nat} {st : List Value} {ls : aL} {h : aH} {k n : Nat} (hs : S 19 = false) : WP 45 G S (f + 1) 19 ls st h k n = (oA (lget ls 0) (WP 45 G S f) 20 ls st h k n) := by rw [wp_s dd_45_19 rfl hs]; rfl
theorem dd_45_20 : decode (mB 45) 20 = .ok (.getfield 69, 3) := by decide +kernel
theorem u_45_20 {G : aG} {S : Nat → Bool} {f : Nat} {st : List Value} {ls : aL} {h : aH} {k n : Nat} {a : Nat} (hs : S 20 = false) : WP 45 G S (f + 1) 20 ls (.ref a :: st) h k n = (oV (fget h a 1 5) (WP 45 G S f) 23 ls st h k n) := by rw [wp_s dd_45_20 rfl hs]; rfl
theorem dd_45_23 : decode (mB 45) 23 = .ok (.imul, 1) := by decide +kernel
theorem u_45_23 {G : aG} {S : Nat → Bool} {f : Nat} {st : List Value} {ls : aL} {h : aH} {k n : Nat} {x y : Int32} (hs : S 23 = false) : WP 45 G S (f + 1) 23 ls (.int y :: .int x :: st) h k n = (WP 45 G S f 24 ls (.int (x * y) :: st) h k n) := by rw [wp_s dd_45_23 rfl hs]; rfl
theorem dd_45_24 : decode (mB 45) 24 = .ok (.lshl, 1) := by decide +kernel
theorem u_45_24 {G : aG} {S : Nat → Bool} {f : Nat} {st : List Value} {ls : aL} {h : aH} {k n : Nat} {x : Int64} {y : Int32} (hs : S 24 = false) : WP 45 G S (f + 1) 24 ls (.int y :: .long x :: st) h k n = (WP 45 G S f 25 ls (.long (x <<< (y.toInt64 &&& 63)) :: st) h k n) := by rw [wp_s dd_45_24 rfl hs]; rfl
theorem dd_45_25 : decode (mB 45) 25 = .ok (.lor, 1) := by decide +kernel
theorem u_45_25 {G : aG} {S : Nat → Bool} {f : Nat} {st : List Value} {ls : aL} {h : aH} {k n : Nat} {x y : Int64} (hs : S 25 = false) : WP 45 G S (f + 1) 25 ls (.long y :: .long x :: st) h k n = (WP 45 G S f 26 ls (.long (x ||| y) :: st) h k n) := by rw [wp_s dd_45_25 rfl hs]; rfl
theorem dd_45_26 : decode (mB 45) 26 = .ok (.putfield 72, 3) := by decide +kernel
theorem u_45_26 {G : aG} {S : Nat → Bool} {f : Nat} {st : List Value} {ls : aL} {h : aH} {k n : Nat} {a : Nat} {x : Int64} (hs : S 26 = false) : WP 45 G S (f + 1) 26 ls (.long x :: .ref a :: st) h k n = (oH (fput h a 1 6 (.long x)) (WP 45 G S f) 29 ls st k n) := by rw [wp_s dd_45_26 rfl hs]; rfl
theorem dd_45_29 : decode (mB 45) 29 = .ok (.aload_n 0, 1) := by decide +kernel
theorem u_45_29 {G : aG} {S : Nat → Bool} {f : Nat} {st : List Value} {ls : aL} {h : aH} {k n : Nat} (hs : S 29 = false) : WP 45 G S (f + 1) 29 ls st h k n = (oA (lget ls 0) (WP 45 G S f) 30 ls st h k n) := by rw [wp_s dd_45_29 rfl hs]; rfl
theorem dd_45_30 : decode (mB 45) 30 = .ok (.dup, 1) := by decide +kernel
theorem u_45_30 {G : aG} {S : Nat → Bool} {f : Nat} {st : List Value} {ls : aL} {h : aH} {k n : Nat} {v : Value} (hs : S 30 = false) : WP 45 G S (f + 1) 30 ls (v :: st) h k n = (cond (cat1 v) (WP 45 G S f 31 ls (v :: v :: st) h k n) False) := by rw [wp_s dd_45_30 rfl hs]; rfl
theorem dd_45_31 : decode (mB 45) 31 = .ok (.getfield 69, 3) := by decide +kernel
theorem u_45_31 {G : aG} {S : Nat → Bool} {f : Nat} {st : List Value} {ls : aL} {h : aH} {k n : Nat} {a : Nat} (hs : S 31 = false) : WP 45 G S (f + 1) 31 ls (.ref a :: st) h k n = (oV (fget h a 1 5) (WP 45 G S f) 34 ls st h k n) := by rw [wp_s dd_45_31 rfl hs]; rfl
theorem dd_45_34 : decode (mB 45) 34 = .ok (.iconst 1, 1) := by decide +kernel
theorem u_45_34 {G : aG} {S : Nat → Bool} {f : Nat} {st : List Value} {ls : aL} {h : aH} {k n : Nat} (hs : S 34 = false) : WP 45 G S (f + 1) 34 ls st h k n = (WP 45 G S f 35 ls (.int (nI 1) :: st) h k n) := by rw [wp_s dd_45_34 rfl hs]; rfl
theorem dd_45_35 : decode (mB 45) 35 = .ok (.iadd, 1) := by decide +kernel
theorem u_45_35 {G : aG} {S : Nat → Bool} {f : Nat} {st : List Value} {ls : aL} {h : aH} {k n : Nat} {x y : Int32} (hs : S 35 = false) : WP 45 G S (f + 1) 35 ls (.int y :: .int x :: st) h k n = (WP 45 G S f 36 ls (.int (x + y) :: st) h k n) := by rw [wp_s dd_45_35 rfl hs]; rfl
theorem dd_45_36 : decode (mB 45) 36 = .ok (.putfield 69, 3) := by decide +kernel
theorem u_45_36 {G : aG} {S : Nat → Bool} {f : Nat} {st : List Value} {ls : aL} {h : aH} {k n : Nat} {a : Nat} {x : Int32} (hs : S 36 = false) : WP 45 G S (f + 1) 36 ls (.int x :: .ref a :: st) h k n = (oH (fput h a 1 5 (.int x)) (WP 45 G S f) 39 ls st k n) := by rw [wp_s dd_45_36 rfl hs]; rfl
theorem dd_45_39 : decode (mB 45) 39 = .ok (.iconst 1, 1) := by decide +kernel
theorem u_45_39 {G : aG} {S : Nat → Bool} {f : Nat} {st : List Value} {ls : aL} {h : aH} {k n : Nat} (hs : S 39 = false) : WP 45 G S (f + 1) 39 ls st h k n = (WP 45 G S f 40 ls (.int (nI 1) :: st) h k n) := by rw [wp_s dd_45_39 rfl hs]; rfl
theorem dd_45_40 : decode (mB 45) 40 = .ok (.ireturn, 1) := by decide +kernel
theorem u_45_40 {G : aG} {S : Nat → Bool} {f : Nat} {ls : aL} {h : aH} {k n : Nat} {x : Int32} (hs : S 40 = false) : WP 45 G S (f + 1) 40 ls [.int x] h k n = (cond (x == nI 0 || x == nI 1) (RET G (some (.int x)) h k n) False) := by rw [wp_s dd_45_40 rfl hs]; rfl
theorem dd_46_0 : decode (mB 46) 0 = .ok (.iload_n 1, 1) := by decide +kernel
theorem u_46_0 {G : aG} {S : Nat → Bool} {f : Nat} {st : List Value} {ls : aL} {h : aH} {k n : Nat} (hs : S 0 = false) : WP 46 G S (f + 1) 0 ls st h k n = (oI (lget ls 1) (WP 46 G S f) 1 ls st h k n) := by rw [wp_s dd_46_0 rfl hs]; rfl
theorem dd_46_1 : decode (mB 46) 1 = .ok (.lookupswitch 247 #[(38, 163), (41, 207), (42, 97), (43, 119), (44, 141), (59, 227), (63, 75), (124, 185)], 75) := by decide +kernel
theorem u_46_1 {G : aG} {S : Nat → Bool} {f : Nat} {st : List Value} {ls : aL} {h : aH} {k n : Nat} {x : Int32} (hs : S 1 = false) : WP 46 G S (f + 1) 1 ls (.int x :: st) h k n = (if x = nI 38 then WP 46 G S f 164 ls st h k n else (if x = nI 41 then WP 46 G S f 208 ls st h k n else (if x = nI 42 then WP 46 G S f 98 ls st h k n else (if x = nI 43 then WP 46 G S f 120 ls st h k n else (if x = nI 44 then WP 46 G S f 142 ls st h k n else (if x = nI 59 then WP 46 G S f 228 ls st h k n else (if x = nI 63 then WP 46 G S f 76 ls st h k n else (if x = nI 124 then WP 46 G S f 186 ls st h k n else (WP 46 G S f 248 ls st h k n))))))))) := by rw [wp_s dd_46_1 rfl hs]; show WP 46 G S f (tgtL 1 [(38, 163), (41, 207), (42, 97), (43, 119), (44, 141), (59, 227), (63, 75), (124, 185)] 247 x) ls st h k n = _; refine (tl_ite (K := fun q => WP 46 G S f q ls st h k n) (nI 38) rfl).trans (if_cg ?_); refine (tl_ite (K := fun q => WP 46 G S f q ls st h k n) (nI 41) rfl).trans (if_cg ?_); refine (tl_ite (K := fun q => WP 46 G S f q ls st h k n) (nI 42) rfl).trans (if_cg ?_); refine (tl_ite (K := fun q => WP 46 G S f q ls st h k n) (nI 43) rfl).trans (if_cg ?_); refine (tl_ite (K := fun q => WP 46 G S f q ls st h k n) (nI 44) rfl).trans (if_cg ?_); refine (tl_ite (K := fun q => WP 46 G S f q ls st h k n) (nI 59) rfl).trans (if_cg ?_); refine (tl_ite (K := fun q => WP 46 G S f q ls st h k n) (nI 63) rfl).trans (if_cg ?_); refine (tl_ite (K := fun q => WP 46 G S f q ls st h k n) (nI 124) rfl).trans (if_cg ?_); exact tl_nil (K := fun q => WP 46 G S f q ls st h k n)
theorem dd_46_76 : decode (mB 46) 76 = .ok (.aload_n 0, 1) := by decide +kernel
theorem u_46_76 {G : aG} {S : Nat → Bool} {f : Nat} {st : List Value} {ls : aL} {h : aH} {k n : Nat} (hs : S 76 = false) : WP 46 G S (f + 1) 76 ls st h k n = (oA (lget ls 0) (WP 46 G S f) 77 ls st h k n) := by rw [wp_s dd_46_76 rfl hs]; rfl
theorem dd_46_77 : decode (mB 46) 77 = .ok (.invokevirtual 79, 3) := by decide +kernel
theorem u_46_77 {G : aG} {S : Nat → Bool} {f : Nat} {st : List Value} {ls : aL} {h : aH} {k n : Nat} {b : Nat} (hs : S 77 = false) : WP 46 G S (f + 1) 77 ls (.ref b :: st) h k n = (rcv (hget h b) 1 ∧ CAL G (WP 46 G S f) 44 [.ref b] 80 ls st h k n) := by rw [wp_s dd_46_77 rfl hs]; rfl
theorem dd_46_80 : decode (mB 46) 80 = .ok (.ifCond .eq 16, 3) := by decide +kernel
theorem u_46_80 {G : aG} {S : Nat → Bool} {f : Nat} {st : List Value} {ls : aL} {h : aH} {k n : Nat} {x : Int32} (hs : S 80 = false) : WP 46 G S (f + 1) 80 ls (.int x :: st) h k n = (if x = nI 0 then WP 46 G S f 96 ls st h k n else WP 46 G S f 83 ls st h k n) := by rw [wp_s dd_46_80 rfl hs]; exact br_ite (c := x = nI 0)
theorem dd_46_83 : decode (mB 46) 83 = .ok (.aload_n 0, 1) := by decide +kernel
theorem u_46_83 {G : aG} {S : Nat → Bool} {f : Nat} {st : List Value} {ls : aL} {h : aH} {k n : Nat} (hs : S 83 = false) : WP 46 G S (f + 1) 83 ls st h k n = (oA (lget ls 0) (WP 46 G S f) 84 ls st h k n) := by rw [wp_s dd_46_83 rfl hs]; rfl
theorem dd_46_84 : decode (mB 46) 84 = .ok (.bipush 13, 2) := by decide +kernel
theorem u_46_84 {G : aG} {S : Nat → Bool} {f : Nat} {st : List Value} {ls : aL} {h : aH} {k n : Nat} (hs : S 84 = false) : WP 46 G S (f + 1) 84 ls st h k n = (WP 46 G S f 86 ls (.int (nI 13) :: st) h k n) := by rw [wp_s dd_46_84 rfl hs]; rfl
theorem dd_46_86 : decode (mB 46) 86 = .ok (.invokevirtual 83, 3) := by decide +kernel
theorem u_46_86 {G : aG} {S : Nat → Bool} {f : Nat} {st : List Value} {ls : aL} {h : aH} {k n : Nat} {v1 : Value} {b : Nat} (hs : S 86 = false) : WP 46 G S (f + 1) 86 ls (v1 :: .ref b :: st) h k n = (rcv (hget h b) 1 ∧ CAL G (WP 46 G S f) 45 [.ref b, v1] 89 ls st h k n) := by rw [wp_s dd_46_86 rfl hs]; rfl
theorem dd_46_89 : decode (mB 46) 89 = .ok (.ifCond .eq 7, 3) := by decide +kernel
theorem u_46_89 {G : aG} {S : Nat → Bool} {f : Nat} {st : List Value} {ls : aL} {h : aH} {k n : Nat} {x : Int32} (hs : S 89 = false) : WP 46 G S (f + 1) 89 ls (.int x :: st) h k n = (if x = nI 0 then WP 46 G S f 96 ls st h k n else WP 46 G S f 92 ls st h k n) := by rw [wp_s dd_46_89 rfl hs]; exact br_ite (c := x = nI 0)
theorem dd_46_92 : decode (mB 46) 92 = .ok (.iconst 1, 1) := by decide +kernel
theorem u_46_92 {G : aG} {S : Nat → Bool} {f : Nat} {st : List Value} {ls : aL} {h : aH} {k n : Nat} (hs : S 92 = false) : WP 46 G S (f + 1) 92 ls st h k n = (WP 46 G S f 93 ls (.int (nI 1) :: st) h k n) := by rw [wp_s dd_46_92 rfl hs]; rfl
theorem dd_46_93 : decode (mB 46) 93 = .ok (.goto 4, 3) := by decide +kernel
theorem u_46_93 {G : aG} {S : Nat → Bool} {f : Nat} {st : List Value} {ls : aL} {h : aH} {k n : Nat} (hs : S 93 = false) : WP 46 G S (f + 1) 93 ls st h k n = (WP 46 G S f 97 ls st h k n) := by rw [wp_s dd_46_93 rfl hs]; rfl
theorem dd_46_96 : decode (mB 46) 96 = .ok (.iconst 0, 1) := by decide +kernel
theorem u_46_96 {G : aG} {S : Nat → Bool} {f : Nat} {st : List Value} {ls : aL} {h : aH} {k n : Nat} (hs : S 96 = false) : WP 46 G S (f + 1) 96 ls st h k n = (WP 46 G S f 97 ls (.int (nI 0) :: st) h k n) := by rw [wp_s dd_46_96 rfl hs]; rfl
theorem dd_46_97 : decode (mB 46) 97 = .ok (.ireturn, 1) := by decide +kernel
theorem u_46_97 {G : aG} {S : Nat → Bool} {f : Nat} {ls : aL} {h : aH} {k n : Nat} {x : Int32} (hs : S 97 = false) : WP 46 G S (f + 1) 97 ls [.int x] h k n = (cond (x == nI 0 || x == nI 1) (RET G (some (.int x)) h k n) False) := by rw [wp_s dd_46_97 rfl hs]; rfl
theorem dd_46_98 : decode (mB 46) 98 = .ok (.aload_n 0, 1) := by decide +kernel
theorem u_46_98 {G : aG} {S : Nat → Bool} {f : Nat} {st : List Value} {ls : aL} {h : aH} {k n : Nat} (hs : S 98 = false) : WP 46 G S (f + 1) 98 ls st h k n = (oA (lget ls 0) (WP 46 G S f) 99 ls st h k n) := by rw [wp_s dd_46_98 rfl hs]; rfl
theorem dd_46_99 : decode (mB 46) 99 = .ok (.invokevirtual 79, 3) := by decide +kernel
theorem u_46_99 {G : aG} {S : Nat → Bool} {f : Nat} {st : List Value} {ls : aL} {h : aH} {k n : Nat} {b : Nat} (hs : S 99 = false) : WP 46 G S (f + 1) 99 ls (.ref b :: st) h k n = (rcv (hget h b) 1 ∧ CAL G (WP 46 G S f) 44 [.ref b] 102 ls st h k n) := by rw [wp_s dd_46_99 rfl hs]; rfl
theorem dd_46_102 : decode (mB 46) 102 = .ok (.ifCond .eq 16, 3) := by decide +kernel
theorem u_46_102 {G : aG} {S : Nat → Bool} {f : Nat} {st : List Value} {ls : aL} {h : aH} {k n : Nat} {x : Int32} (hs : S 102 = false) : WP 46 G S (f + 1) 102 ls (.int x :: st) h k n = (if x = nI 0 then WP 46 G S f 118 ls st h k n else WP 46 G S f 105 ls st h k n) := by rw [wp_s dd_46_102 rfl hs]; exact br_ite (c := x = nI 0)
theorem dd_46_105 : decode (mB 46) 105 = .ok (.aload_n 0, 1) := by decide +kernel
theorem u_46_105 {G : aG} {S : Nat → Bool} {f : Nat} {st : List Value} {ls : aL} {h : aH} {k n : Nat} (hs : S 105 = false) : WP 46 G S (f + 1) 105 ls st h k n = (oA (lget ls 0) (WP 46 G S f) 106 ls st h k n) := by rw [wp_s dd_46_105 rfl hs]; rfl
theorem dd_46_106 : decode (mB 46) 106 = .ok (.bipush 14, 2) := by decide +kernel
theorem u_46_106 {G : aG} {S : Nat → Bool} {f : Nat} {st : List Value} {ls : aL} {h : aH} {k n : Nat} (hs : S 106 = false) : WP 46 G S (f + 1) 106 ls st h k n = (WP 46 G S f 108 ls (.int (nI 14) :: st) h k n) := by rw [wp_s dd_46_106 rfl hs]; rfl
theorem dd_46_108 : decode (mB 46) 108 = .ok (.invokevirtual 83, 3) := by decide +kernel
theorem u_46_108 {G : aG} {S : Nat → Bool} {f : Nat} {st : List Value} {ls : aL} {h : aH} {k n : Nat} {v1 : Value} {b : Nat} (hs : S 108 = false) : WP 46 G S (f + 1) 108 ls (v1 :: .ref b :: st) h k n = (rcv (hget h b) 1 ∧ CAL G (WP 46 G S f) 45 [.ref b, v1] 111 ls st h k n) := by rw [wp_s dd_46_108 rfl hs]; rfl
theorem dd_46_111 : decode (mB 46) 111 = .ok (.ifCond .eq 7, 3) := by decide +kernel
theorem u_46_111 {G : aG} {S : Nat → Bool} {f : Nat} {st : List Value} {ls : aL} {h : aH} {k n : Nat} {x : Int32} (hs : S 111 = false) : WP 46 G S (f + 1) 111 ls (.int x :: st) h k n = (if x = nI 0 then WP 46 G S f 118 ls st h k n else WP 46 G S f 114 ls st h k n) := by rw [wp_s dd_46_111 rfl hs]; exact br_ite (c := x = nI 0)
theorem dd_46_114 : decode (mB 46) 114 = .ok (.iconst 1, 1) := by decide +kernel
theorem u_46_114 {G : aG} {S : Nat → Bool} {f : Nat} {st : List Value} {ls : aL} {h : aH} {k n : Nat} (hs : S 114 = false) : WP 46 G S (f + 1) 114 ls st h k n = (WP 46 G S f 115 ls (.int (nI 1) :: st) h k n) := by rw [wp_s dd_46_114 rfl hs]; rfl
theorem dd_46_115 : decode (mB 46) 115 = .ok (.goto 4, 3) := by decide +kernel
theorem u_46_115 {G : aG} {S : Nat → Bool} {f : Nat} {st : List Value} {ls : aL} {h : aH} {k n : Nat} (hs : S 115 = false) : WP 46 G S (f + 1) 115 ls st h k n = (WP 46 G S f 119 ls st h k n) := by rw [wp_s dd_46_115 rfl hs]; rfl
theorem dd_46_118 : decode (mB 46) 118 = .ok (.iconst 0, 1) := by decide +kernel
theorem u_46_118 {G : aG} {S : Nat → Bool} {f : Nat} {st : List Value} {ls : aL} {h : aH} {k n : Nat} (hs : S 118 = false) : WP 46 G S (f + 1) 118 ls st h k n = (WP 46 G S f 119 ls (.int (nI 0) :: st) h k n) := by rw [wp_s dd_46_118 rfl hs]; rfl
theorem dd_46_119 : decode (mB 46) 119 = .ok (.ireturn, 1) := by decide +kernel
theorem u_46_119 {G : aG} {S : Nat → Bool} {f : Nat} {ls : aL} {h : aH} {k n : Nat} {x : Int32} (hs : S 119 = false) : WP 46 G S (f + 1) 119 ls [.int x] h k n = (cond (x == nI 0 || x == nI 1) (RET G (some (.int x)) h k n) False) := by rw [wp_s dd_46_119 rfl hs]; rfl
theorem dd_46_120 : decode (mB 46) 120 = .ok (.aload_n 0, 1) := by decide +kernel
theorem u_46_120 {G : aG} {S : Nat → Bool} {f : Nat} {st : List Value} {ls : aL} {h : aH} {k n : Nat} (hs : S 120 = false) : WP 46 G S (f + 1) 120 ls st h k n = (oA (lget ls 0) (WP 46 G S f) 121 ls st h k n) := by rw [wp_s dd_46_120 rfl hs]; rfl
theorem dd_46_121 : decode (mB 46) 121 = .ok (.invokevirtual 79, 3) := by decide +kernel
theorem u_46_121 {G : aG} {S : Nat → Bool} {f : Nat} {st : List Value} {ls : aL} {h : aH} {k n : Nat} {b : Nat} (hs : S 121 = false) : WP 46 G S (f + 1) 121 ls (.ref b :: st) h k n = (rcv (hget h b) 1 ∧ CAL G (WP 46 G S f) 44 [.ref b] 124 ls st h k n) := by rw [wp_s dd_46_121 rfl hs]; rfl
theorem dd_46_124 : decode (mB 46) 124 = .ok (.ifCond .eq 16, 3) := by decide +kernel
theorem u_46_124 {G : aG} {S : Nat → Bool} {f : Nat} {st : List Value} {ls : aL} {h : aH} {k n : Nat} {x : Int32} (hs : S 124 = false) : WP 46 G S (f + 1) 124 ls (.int x :: st) h k n = (if x = nI 0 then WP 46 G S f 140 ls st h k n else WP 46 G S f 127 ls st h k n) := by rw [wp_s dd_46_124 rfl hs]; exact br_ite (c := x = nI 0)
theorem dd_46_127 : decode (mB 46) 127 = .ok (.aload_n 0, 1) := by decide +kernel
theorem u_46_127 {G : aG} {S : Nat → Bool} {f : Nat} {st : List Value} {ls : aL} {h : aH} {k n : Nat} (hs : S 127 = false) : WP 46 G S (f + 1) 127 ls st h k n = (oA (lget ls 0) (WP 46 G S f) 128 ls st h k n) := by rw [wp_s dd_46_127 rfl hs]; rfl
theorem dd_46_128 : decode (mB 46) 128 = .ok (.bipush 15, 2) := by decide +kernel
theorem u_46_128 {G : aG} {S : Nat → Bool} {f : Nat} {st : List Value} {ls : aL} {h : aH} {k n : Nat} (hs : S 128 = false) : WP 46 G S (f + 1) 128 ls st h k n = (WP 46 G S f 130 ls (.int (nI 15) :: st) h k n) := by rw [wp_s dd_46_128 rfl hs]; rfl
theorem dd_46_130 : decode (mB 46) 130 = .ok (.invokevirtual 83, 3) := by decide +kernel
theorem u_46_130 {G : aG} {S : Nat → Bool} {f : Nat} {st : List Value} {ls : aL} {h : aH} {k n : Nat} {v1 : Value} {b : Nat} (hs : S 130 = false) : WP 46 G S (f + 1) 130 ls (v1 :: .ref b :: st) h k n = (rcv (hget h b) 1 ∧ CAL G (WP 46 G S f) 45 [.ref b, v1] 133 ls st h k n) := by rw [wp_s dd_46_130 rfl hs]; rfl
theorem dd_46_133 : decode (mB 46) 133 = .ok (.ifCond .eq 7, 3) := by decide +kernel
theorem u_46_133 {G : aG} {S : Nat → Bool} {f : Nat} {st : List Value} {ls : aL} {h : aH} {k n : Nat} {x : Int32} (hs : S 133 = false) : WP 46 G S (f + 1) 133 ls (.int x :: st) h k n = (if x = nI 0 then WP 46 G S f 140 ls st h k n else WP 46 G S f 136 ls st h k n) := by rw [wp_s dd_46_133 rfl hs]; exact br_ite (c := x = nI 0)
theorem dd_46_136 : decode (mB 46) 136 = .ok (.iconst 1, 1) := by decide +kernel
theorem u_46_136 {G : aG} {S : Nat → Bool} {f : Nat} {st : List Value} {ls : aL} {h : aH} {k n : Nat} (hs : S 136 = false) : WP 46 G S (f + 1) 136 ls st h k n = (WP 46 G S f 137 ls (.int (nI 1) :: st) h k n) := by rw [wp_s dd_46_136 rfl hs]; rfl
theorem dd_46_137 : decode (mB 46) 137 = .ok (.goto 4, 3) := by decide +kernel
theorem u_46_137 {G : aG} {S : Nat → Bool} {f : Nat} {st : List Value} {ls : aL} {h : aH} {k n : Nat} (hs : S 137 = false) : WP 46 G S (f + 1) 137 ls st h k n = (WP 46 G S f 141 ls st h k n) := by rw [wp_s dd_46_137 rfl hs]; rfl
theorem dd_46_140 : decode (mB 46) 140 = .ok (.iconst 0, 1) := by decide +kernel
theorem u_46_140 {G : aG} {S : Nat → Bool} {f : Nat} {st : List Value} {ls : aL} {h : aH} {k n : Nat} (hs : S 140 = false) : WP 46 G S (f + 1) 140 ls st h k n = (WP 46 G S f 141 ls (.int (nI 0) :: st) h k n) := by rw [wp_s dd_46_140 rfl hs]; rfl
theorem dd_46_141 : decode (mB 46) 141 = .ok (.ireturn, 1) := by decide +kernel
theorem u_46_141 {G : aG} {S : Nat → Bool} {f : Nat} {ls : aL} {h : aH} {k n : Nat} {x : Int32} (hs : S 141 = false) : WP 46 G S (f + 1) 141 ls [.int x] h k n = (cond (x == nI 0 || x == nI 1) (RET G (some (.int x)) h k n) False) := by rw [wp_s dd_46_141 rfl hs]; rfl
theorem dd_46_142 : decode (mB 46) 142 = .ok (.aload_n 0, 1) := by decide +kernel
theorem u_46_142 {G : aG} {S : Nat → Bool} {f : Nat} {st : List Value} {ls : aL} {h : aH} {k n : Nat} (hs : S 142 = false) : WP 46 G S (f + 1) 142 ls st h k n = (oA (lget ls 0) (WP 46 G S f) 143 ls st h k n) := by rw [wp_s dd_46_142 rfl hs]; rfl
theorem dd_46_143 : decode (mB 46) 143 = .ok (.invokevirtual 79, 3) := by decide +kernel
theorem u_46_143 {G : aG} {S : Nat → Bool} {f : Nat} {st : List Value} {ls : aL} {h : aH} {k n : Nat} {b : Nat} (hs : S 143 = false) : WP 46 G S (f + 1) 143 ls (.ref b :: st) h k n = (rcv (hget h b) 1 ∧ CAL G (WP 46 G S f) 44 [.ref b] 146 ls st h k n) := by rw [wp_s dd_46_143 rfl hs]; rfl
theorem dd_46_146 : decode (mB 46) 146 = .ok (.ifCond .eq 16, 3) := by decide +kernel
theorem u_46_146 {G : aG} {S : Nat → Bool} {f : Nat} {st : List Value} {ls : aL} {h : aH} {k n : Nat} {x : Int32} (hs : S 146 = false) : WP 46 G S (f + 1) 146 ls (.int x :: st) h k n = (if x = nI 0 then WP 46 G S f 162 ls st h k n else WP 46 G S f 149 ls st h k n) := by rw [wp_s dd_46_146 rfl hs]; exact br_ite (c := x = nI 0)
theorem dd_46_149 : decode (mB 46) 149 = .ok (.aload_n 0, 1) := by decide +kernel
theorem u_46_149 {G : aG} {S : Nat → Bool} {f : Nat} {st : List Value} {ls : aL} {h : aH} {k n : Nat} (hs : S 149 = false) : WP 46 G S (f + 1) 149 ls st h k n = (oA (lget ls 0) (WP 46 G S f) 150 ls st h k n) := by rw [wp_s dd_46_149 rfl hs]; rfl
theorem dd_46_150 : decode (mB 46) 150 = .ok (.bipush 12, 2) := by decide +kernel
theorem u_46_150 {G : aG} {S : Nat → Bool} {f : Nat} {st : List Value} {ls : aL} {h : aH} {k n : Nat} (hs : S 150 = false) : WP 46 G S (f + 1) 150 ls st h k n = (WP 46 G S f 152 ls (.int (nI 12) :: st) h k n) := by rw [wp_s dd_46_150 rfl hs]; rfl
theorem dd_46_152 : decode (mB 46) 152 = .ok (.invokevirtual 86, 3) := by decide +kernel
theorem u_46_152 {G : aG} {S : Nat → Bool} {f : Nat} {st : List Value} {ls : aL} {h : aH} {k n : Nat} {v1 : Value} {b : Nat} (hs : S 152 = false) : WP 46 G S (f + 1) 152 ls (v1 :: .ref b :: st) h k n = (rcv (hget h b) 1 ∧ CAL G (WP 46 G S f) 47 [.ref b, v1] 155 ls st h k n) := by rw [wp_s dd_46_152 rfl hs]; rfl
theorem dd_46_155 : decode (mB 46) 155 = .ok (.ifCond .eq 7, 3) := by decide +kernel
theorem u_46_155 {G : aG} {S : Nat → Bool} {f : Nat} {st : List Value} {ls : aL} {h : aH} {k n : Nat} {x : Int32} (hs : S 155 = false) : WP 46 G S (f + 1) 155 ls (.int x :: st) h k n = (if x = nI 0 then WP 46 G S f 162 ls st h k n else WP 46 G S f 158 ls st h k n) := by rw [wp_s dd_46_155 rfl hs]; exact br_ite (c := x = nI 0)
theorem dd_46_158 : decode (mB 46) 158 = .ok (.iconst 1, 1) := by decide +kernel
theorem u_46_158 {G : aG} {S : Nat → Bool} {f : Nat} {st : List Value} {ls : aL} {h : aH} {k n : Nat} (hs : S 158 = false) : WP 46 G S (f + 1) 158 ls st h k n = (WP 46 G S f 159 ls (.int (nI 1) :: st) h k n) := by rw [wp_s dd_46_158 rfl hs]; rfl
theorem dd_46_159 : decode (mB 46) 159 = .ok (.goto 4, 3) := by decide +kernel
theorem u_46_159 {G : aG} {S : Nat → Bool} {f : Nat} {st : List Value} {ls : aL} {h : aH} {k n : Nat} (hs : S 159 = false) : WP 46 G S (f + 1) 159 ls st h k n = (WP 46 G S f 163 ls st h k n) := by rw [wp_s dd_46_159 rfl hs]; rfl
theorem dd_46_162 : decode (mB 46) 162 = .ok (.iconst 0, 1) := by decide +kernel
theorem u_46_162 {G : aG} {S : Nat → Bool} {f : Nat} {st : List Value} {ls : aL} {h : aH} {k n : Nat} (hs : S 162 = false) : WP 46 G S (f + 1) 162 ls st h k n = (WP 46 G S f 163 ls (.int (nI 0) :: st) h k n) := by rw [wp_s dd_46_162 rfl hs]; rfl
theorem dd_46_163 : decode (mB 46) 163 = .ok (.ireturn, 1) := by decide +kernel
theorem u_46_163 {G : aG} {S : Nat → Bool} {f : Nat} {ls : aL} {h : aH} {k n : Nat} {x : Int32} (hs : S 163 = false) : WP 46 G S (f + 1) 163 ls [.int x] h k n = (cond (x == nI 0 || x == nI 1) (RET G (some (.int x)) h k n) False) := by rw [wp_s dd_46_163 rfl hs]; rfl
theorem dd_46_164 : decode (mB 46) 164 = .ok (.aload_n 0, 1) := by decide +kernel
theorem u_46_164 {G : aG} {S : Nat → Bool} {f : Nat} {st : List Value} {ls : aL} {h : aH} {k n : Nat} (hs : S 164 = false) : WP 46 G S (f + 1) 164 ls st h k n = (oA (lget ls 0) (WP 46 G S f) 165 ls st h k n) := by rw [wp_s dd_46_164 rfl hs]; rfl
theorem dd_46_165 : decode (mB 46) 165 = .ok (.invokevirtual 79, 3) := by decide +kernel
theorem u_46_165 {G : aG} {S : Nat → Bool} {f : Nat} {st : List Value} {ls : aL} {h : aH} {k n : Nat} {b : Nat} (hs : S 165 = false) : WP 46 G S (f + 1) 165 ls (.ref b :: st) h k n = (rcv (hget h b) 1 ∧ CAL G (WP 46 G S f) 44 [.ref b] 168 ls st h k n) := by rw [wp_s dd_46_165 rfl hs]; rfl
theorem dd_46_168 : decode (mB 46) 168 = .ok (.ifCond .eq 16, 3) := by decide +kernel
theorem u_46_168 {G : aG} {S : Nat → Bool} {f : Nat} {st : List Value} {ls : aL} {h : aH} {k n : Nat} {x : Int32} (hs : S 168 = false) : WP 46 G S (f + 1) 168 ls (.int x :: st) h k n = (if x = nI 0 then WP 46 G S f 184 ls st h k n else WP 46 G S f 171 ls st h k n) := by rw [wp_s dd_46_168 rfl hs]; exact br_ite (c := x = nI 0)
theorem dd_46_171 : decode (mB 46) 171 = .ok (.aload_n 0, 1) := by decide +kernel
theorem u_46_171 {G : aG} {S : Nat → Bool} {f : Nat} {st : List Value} {ls : aL} {h : aH} {k n : Nat} (hs : S 171 = false) : WP 46 G S (f + 1) 171 ls st h k n = (oA (lget ls 0) (WP 46 G S f) 172 ls st h k n) := by rw [wp_s dd_46_171 rfl hs]; rfl
theorem dd_46_172 : decode (mB 46) 172 = .ok (.bipush 11, 2) := by decide +kernel
theorem u_46_172 {G : aG} {S : Nat → Bool} {f : Nat} {st : List Value} {ls : aL} {h : aH} {k n : Nat} (hs : S 172 = false) : WP 46 G S (f + 1) 172 ls st h k n = (WP 46 G S f 174 ls (.int (nI 11) :: st) h k n) := by rw [wp_s dd_46_172 rfl hs]; rfl
theorem dd_46_174 : decode (mB 46) 174 = .ok (.invokevirtual 86, 3) := by decide +kernel
theorem u_46_174 {G : aG} {S : Nat → Bool} {f : Nat} {st : List Value} {ls : aL} {h : aH} {k n : Nat} {v1 : Value} {b : Nat} (hs : S 174 = false) : WP 46 G S (f + 1) 174 ls (v1 :: .ref b :: st) h k n = (rcv (hget h b) 1 ∧ CAL G (WP 46 G S f) 47 [.ref b, v1] 177 ls st h k n) := by rw [wp_s dd_46_174 rfl hs]; rfl
theorem dd_46_177 : decode (mB 46) 177 = .ok (.ifCond .eq 7, 3) := by decide +kernel
theorem u_46_177 {G : aG} {S : Nat → Bool} {f : Nat} {st : List Value} {ls : aL} {h : aH} {k n : Nat} {x : Int32} (hs : S 177 = false) : WP 46 G S (f + 1) 177 ls (.int x :: st) h k n = (if x = nI 0 then WP 46 G S f 184 ls st h k n else WP 46 G S f 180 ls st h k n) := by rw [wp_s dd_46_177 rfl hs]; exact br_ite (c := x = nI 0)
theorem dd_46_180 : decode (mB 46) 180 = .ok (.iconst 1, 1) := by decide +kernel
theorem u_46_180 {G : aG} {S : Nat → Bool} {f : Nat} {st : List Value} {ls : aL} {h : aH} {k n : Nat} (hs : S 180 = false) : WP 46 G S (f + 1) 180 ls st h k n = (WP 46 G S f 181 ls (.int (nI 1) :: st) h k n) := by rw [wp_s dd_46_180 rfl hs]; rfl
theorem dd_46_181 : decode (mB 46) 181 = .ok (.goto 4, 3) := by decide +kernel
theorem u_46_181 {G : aG} {S : Nat → Bool} {f : Nat} {st : List Value} {ls : aL} {h : aH} {k n : Nat} (hs : S 181 = false) : WP 46 G S (f + 1) 181 ls st h k n = (WP 46 G S f 185 ls st h k n) := by rw [wp_s dd_46_181 rfl hs]; rfl
theorem dd_46_184 : decode (mB 46) 184 = .ok (.iconst 0, 1) := by decide +kernel
theorem u_46_184 {G : aG} {S : Nat → Bool} {f : Nat} {st : List Value} {ls : aL} {h : aH} {k n : Nat} (hs : S 184 = false) : WP 46 G S (f + 1) 184 ls st h k n = (WP 46 G S f 185 ls (.int (nI 0) :: st) h k n) := by rw [wp_s dd_46_184 rfl hs]; rfl
theorem dd_46_185 : decode (mB 46) 185 = .ok (.ireturn, 1) := by decide +kernel
theorem u_46_185 {G : aG} {S : Nat → Bool} {f : Nat} {ls : aL} {h : aH} {k n : Nat} {x : Int32} (hs : S 185 = false) : WP 46 G S (f + 1) 185 ls [.int x] h k n = (cond (x == nI 0 || x == nI 1) (RET G (some (.int x)) h k n) False) := by rw [wp_s dd_46_185 rfl hs]; rfl
theorem dd_46_186 : decode (mB 46) 186 = .ok (.aload_n 0, 1) := by decide +kernel
theorem u_46_186 {G : aG} {S : Nat → Bool} {f : Nat} {st : List Value} {ls : aL} {h : aH} {k n : Nat} (hs : S 186 = false) : WP 46 G S (f + 1) 186 ls st h k n = (oA (lget ls 0) (WP 46 G S f) 187 ls st h k n) := by rw [wp_s dd_46_186 rfl hs]; rfl
theorem dd_46_187 : decode (mB 46) 187 = .ok (.invokevirtual 79, 3) := by decide +kernel
theorem u_46_187 {G : aG} {S : Nat → Bool} {f : Nat} {st : List Value} {ls : aL} {h : aH} {k n : Nat} {b : Nat} (hs : S 187 = false) : WP 46 G S (f + 1) 187 ls (.ref b :: st) h k n = (rcv (hget h b) 1 ∧ CAL G (WP 46 G S f) 44 [.ref b] 190 ls st h k n) := by rw [wp_s dd_46_187 rfl hs]; rfl
theorem dd_46_190 : decode (mB 46) 190 = .ok (.ifCond .eq 16, 3) := by decide +kernel
theorem u_46_190 {G : aG} {S : Nat → Bool} {f : Nat} {st : List Value} {ls : aL} {h : aH} {k n : Nat} {x : Int32} (hs : S 190 = false) : WP 46 G S (f + 1) 190 ls (.int x :: st) h k n = (if x = nI 0 then WP 46 G S f 206 ls st h k n else WP 46 G S f 193 ls st h k n) := by rw [wp_s dd_46_190 rfl hs]; exact br_ite (c := x = nI 0)
theorem dd_46_193 : decode (mB 46) 193 = .ok (.aload_n 0, 1) := by decide +kernel
theorem u_46_193 {G : aG} {S : Nat → Bool} {f : Nat} {st : List Value} {ls : aL} {h : aH} {k n : Nat} (hs : S 193 = false) : WP 46 G S (f + 1) 193 ls st h k n = (oA (lget ls 0) (WP 46 G S f) 194 ls st h k n) := by rw [wp_s dd_46_193 rfl hs]; rfl
theorem dd_46_194 : decode (mB 46) 194 = .ok (.bipush 10, 2) := by decide +kernel
theorem u_46_194 {G : aG} {S : Nat → Bool} {f : Nat} {st : List Value} {ls : aL} {h : aH} {k n : Nat} (hs : S 194 = false) : WP 46 G S (f + 1) 194 ls st h k n = (WP 46 G S f 196 ls (.int (nI 10) :: st) h k n) := by rw [wp_s dd_46_194 rfl hs]; rfl
theorem dd_46_196 : decode (mB 46) 196 = .ok (.invokevirtual 86, 3) := by decide +kernel
theorem u_46_196 {G : aG} {S : Nat → Bool} {f : Nat} {st : List Value} {ls : aL} {h : aH} {k n : Nat} {v1 : Value} {b : Nat} (hs : S 196 = false) : WP 46 G S (f + 1) 196 ls (v1 :: .ref b :: st) h k n = (rcv (hget h b) 1 ∧ CAL G (WP 46 G S f) 47 [.ref b, v1] 199 ls st h k n) := by rw [wp_s dd_46_196 rfl hs]; rfl
theorem dd_46_199 : decode (mB 46) 199 = .ok (.ifCond .eq 7, 3) := by decide +kernel
theorem u_46_199 {G : aG} {S : Nat → Bool} {f : Nat} {st : List Value} {ls : aL} {h : aH} {k n : Nat} {x : Int32} (hs : S 199 = false) : WP 46 G S (f + 1) 199 ls (.int x :: st) h k n = (if x = nI 0 then WP 46 G S f 206 ls st h k n else WP 46 G S f 202 ls st h k n) := by rw [wp_s dd_46_199 rfl hs]; exact br_ite (c := x = nI 0)
theorem dd_46_202 : decode (mB 46) 202 = .ok (.iconst 1, 1) := by decide +kernel
theorem u_46_202 {G : aG} {S : Nat → Bool} {f : Nat} {st : List Value} {ls : aL} {h : aH} {k n : Nat} (hs : S 202 = false) : WP 46 G S (f + 1) 202 ls st h k n = (WP 46 G S f 203 ls (.int (nI 1) :: st) h k n) := by rw [wp_s dd_46_202 rfl hs]; rfl
theorem dd_46_203 : decode (mB 46) 203 = .ok (.goto 4, 3) := by decide +kernel
theorem u_46_203 {G : aG} {S : Nat → Bool} {f : Nat} {st : List Value} {ls : aL} {h : aH} {k n : Nat} (hs : S 203 = false) : WP 46 G S (f + 1) 203 ls st h k n = (WP 46 G S f 207 ls st h k n) := by rw [wp_s dd_46_203 rfl hs]; rfl
theorem dd_46_206 : decode (mB 46) 206 = .ok (.iconst 0, 1) := by decide +kernel
theorem u_46_206 {G : aG} {S : Nat → Bool} {f : Nat} {st : List Value} {ls : aL} {h : aH} {k n : Nat} (hs : S 206 = false) : WP 46 G S (f + 1) 206 ls st h k n = (WP 46 G S f 207 ls (.int (nI 0) :: st) h k n) := by rw [wp_s dd_46_206 rfl hs]; rfl
theorem dd_46_207 : decode (mB 46) 207 = .ok (.ireturn, 1) := by decide +kernel
theorem u_46_207 {G : aG} {S : Nat → Bool} {f : Nat} {ls : aL} {h : aH} {k n : Nat} {x : Int32} (hs : S 207 = false) : WP 46 G S (f + 1) 207 ls [.int x] h k n = (cond (x == nI 0 || x == nI 1) (RET G (some (.int x)) h k n) False) := by rw [wp_s dd_46_207 rfl hs]; rfl
theorem dd_46_208 : decode (mB 46) 208 = .ok (.aload_n 0, 1) := by decide +kernel
theorem u_46_208 {G : aG} {S : Nat → Bool} {f : Nat} {st : List Value} {ls : aL} {h : aH} {k n : Nat} (hs : S 208 = false) : WP 46 G S (f + 1) 208 ls st h k n = (oA (lget ls 0) (WP 46 G S f) 209 ls st h k n) := by rw [wp_s dd_46_208 rfl hs]; rfl
theorem dd_46_209 : decode (mB 46) 209 = .ok (.getfield 63, 3) := by decide +kernel
theorem u_46_209 {G : aG} {S : Nat → Bool} {f : Nat} {st : List Value} {ls : aL} {h : aH} {k n : Nat} {a : Nat} (hs : S 209 = false) : WP 46 G S (f + 1) 209 ls (.ref a :: st) h k n = (oV (fget h a 1 3) (WP 46 G S f) 212 ls st h k n) := by rw [wp_s dd_46_209 rfl hs]; rfl
theorem dd_46_212 : decode (mB 46) 212 = .ok (.ifCond .le 14, 3) := by decide +kernel
theorem u_46_212 {G : aG} {S : Nat → Bool} {f : Nat} {st : List Value} {ls : aL} {h : aH} {k n : Nat} {x : Int32} (hs : S 212 = false) : WP 46 G S (f + 1) 212 ls (.int x :: st) h k n = (if x ≤ nI 0 then WP 46 G S f 226 ls st h k n else WP 46 G S f 215 ls st h k n) := by rw [wp_s dd_46_212 rfl hs]; exact br_ite (c := x ≤ nI 0)
theorem dd_46_215 : decode (mB 46) 215 = .ok (.aload_n 0, 1) := by decide +kernel
theorem u_46_215 {G : aG} {S : Nat → Bool} {f : Nat} {st : List Value} {ls : aL} {h : aH} {k n : Nat} (hs : S 215 = false) : WP 46 G S (f + 1) 215 ls st h k n = (oA (lget ls 0) (WP 46 G S f) 216 ls st h k n) := by rw [wp_s dd_46_215 rfl hs]; rfl
theorem dd_46_216 : decode (mB 46) 216 = .ok (.invokevirtual 89, 3) := by decide +kernel
theorem u_46_216 {G : aG} {S : Nat → Bool} {f : Nat} {st : List Value} {ls : aL} {h : aH} {k n : Nat} {b : Nat} (hs : S 216 = false) : WP 46 G S (f + 1) 216 ls (.ref b :: st) h k n = (rcv (hget h b) 1 ∧ CAL G (WP 46 G S f) 49 [.ref b] 219 ls st h k n) := by rw [wp_s dd_46_216 rfl hs]; rfl
theorem dd_46_219 : decode (mB 46) 219 = .ok (.ifCond .eq 7, 3) := by decide +kernel
theorem u_46_219 {G : aG} {S : Nat → Bool} {f : Nat} {st : List Value} {ls : aL} {h : aH} {k n : Nat} {x : Int32} (hs : S 219 = false) : WP 46 G S (f + 1) 219 ls (.int x :: st) h k n = (if x = nI 0 then WP 46 G S f 226 ls st h k n else WP 46 G S f 222 ls st h k n) := by rw [wp_s dd_46_219 rfl hs]; exact br_ite (c := x = nI 0)
theorem dd_46_222 : decode (mB 46) 222 = .ok (.iconst 1, 1) := by decide +kernel
theorem u_46_222 {G : aG} {S : Nat → Bool} {f : Nat} {st : List Value} {ls : aL} {h : aH} {k n : Nat} (hs : S 222 = false) : WP 46 G S (f + 1) 222 ls st h k n = (WP 46 G S f 223 ls (.int (nI 1) :: st) h k n) := by rw [wp_s dd_46_222 rfl hs]; rfl
theorem dd_46_223 : decode (mB 46) 223 = .ok (.goto 4, 3) := by decide +kernel
theorem u_46_223 {G : aG} {S : Nat → Bool} {f : Nat} {st : List Value} {ls : aL} {h : aH} {k n : Nat} (hs : S 223 = false) : WP 46 G S (f + 1) 223 ls st h k n = (WP 46 G S f 227 ls st h k n) := by rw [wp_s dd_46_223 rfl hs]; rfl
theorem dd_46_226 : decode (mB 46) 226 = .ok (.iconst 0, 1) := by decide +kernel
theorem u_46_226 {G : aG} {S : Nat → Bool} {f : Nat} {st : List Value} {ls : aL} {h : aH} {k n : Nat} (hs : S 226 = false) : WP 46 G S (f + 1) 226 ls st h k n = (WP 46 G S f 227 ls (.int (nI 0) :: st) h k n) := by rw [wp_s dd_46_226 rfl hs]; rfl
theorem dd_46_227 : decode (mB 46) 227 = .ok (.ireturn, 1) := by decide +kernel
theorem u_46_227 {G : aG} {S : Nat → Bool} {f : Nat} {ls : aL} {h : aH} {k n : Nat} {x : Int32} (hs : S 227 = false) : WP 46 G S (f + 1) 227 ls [.int x] h k n = (cond (x == nI 0 || x == nI 1) (RET G (some (.int x)) h k n) False) := by rw [wp_s dd_46_227 rfl hs]; rfl
theorem dd_46_228 : decode (mB 46) 228 = .ok (.aload_n 0, 1) := by decide +kernel
theorem u_46_228 {G : aG} {S : Nat → Bool} {f : Nat} {st : List Value} {ls : aL} {h : aH} {k n : Nat} (hs : S 228 = false) : WP 46 G S (f + 1) 228 ls st h k n = (oA (lget ls 0) (WP 46 G S f) 229 ls st h k n) := by rw [wp_s dd_46_228 rfl hs]; rfl
theorem dd_46_229 : decode (mB 46) 229 = .ok (.getfield 63, 3) := by decide +kernel
theorem u_46_229 {G : aG} {S : Nat → Bool} {f : Nat} {st : List Value} {ls : aL} {h : aH} {k n : Nat} {a : Nat} (hs : S 229 = false) : WP 46 G S (f + 1) 229 ls (.ref a :: st) h k n = (oV (fget h a 1 3) (WP 46 G S f) 232 ls st h k n) := by rw [wp_s dd_46_229 rfl hs]; rfl
theorem dd_46_232 : decode (mB 46) 232 = .ok (.ifCond .ne 14, 3) := by decide +kernel
theorem u_46_232 {G : aG} {S : Nat → Bool} {f : Nat} {st : List Value} {ls : aL} {h : aH} {k n : Nat} {x : Int32} (hs : S 232 = false) : WP 46 G S (f + 1) 232 ls (.int x :: st) h k n = (if x = nI 0 then WP 46 G S f 235 ls st h k n else WP 46 G S f 246 ls st h k n) := by rw [wp_s dd_46_232 rfl hs]; exact br_iten (c := x = nI 0)
theorem dd_46_235 : decode (mB 46) 235 = .ok (.aload_n 0, 1) := by decide +kernel
theorem u_46_235 {G : aG} {S : Nat → Bool} {f : Nat} {st : List Value} {ls : aL} {h : aH} {k n : Nat} (hs : S 235 = false) : WP 46 G S (f + 1) 235 ls st h k n = (oA (lget ls 0) (WP 46 G S f) 236 ls st h k n) := by rw [wp_s dd_46_235 rfl hs]; rfl
theorem dd_46_236 : decode (mB 46) 236 = .ok (.invokevirtual 92, 3) := by decide +kernel
theorem u_46_236 {G : aG} {S : Nat → Bool} {f : Nat} {st : List Value} {ls : aL} {h : aH} {k n : Nat} {b : Nat} (hs : S 236 = false) : WP 46 G S (f + 1) 236 ls (.ref b :: st) h k n = (rcv (hget h b) 1 ∧ CAL G (WP 46 G S f) 50 [.ref b] 239 ls st h k n) := by rw [wp_s dd_46_236 rfl hs]; rfl
theorem dd_46_239 : decode (mB 46) 239 = .ok (.ifCond .eq 7, 3) := by decide +kernel
theorem u_46_239 {G : aG} {S : Nat → Bool} {f : Nat} {st : List Value} {ls : aL} {h : aH} {k n : Nat} {x : Int32} (hs : S 239 = false) : WP 46 G S (f + 1) 239 ls (.int x :: st) h k n = (if x = nI 0 then WP 46 G S f 246 ls st h k n else WP 46 G S f 242 ls st h k n) := by rw [wp_s dd_46_239 rfl hs]; exact br_ite (c := x = nI 0)
theorem dd_46_242 : decode (mB 46) 242 = .ok (.iconst 1, 1) := by decide +kernel
theorem u_46_242 {G : aG} {S : Nat → Bool} {f : Nat} {st : List Value} {ls : aL} {h : aH} {k n : Nat} (hs : S 242 = false) : WP 46 G S (f + 1) 242 ls st h k n = (WP 46 G S f 243 ls (.int (nI 1) :: st) h k n) := by rw [wp_s dd_46_242 rfl hs]; rfl
theorem dd_46_243 : decode (mB 46) 243 = .ok (.goto 4, 3) := by decide +kernel
theorem u_46_243 {G : aG} {S : Nat → Bool} {f : Nat} {st : List Value} {ls : aL} {h : aH} {k n : Nat} (hs : S 243 = false) : WP 46 G S (f + 1) 243 ls st h k n = (WP 46 G S f 247 ls st h k n) := by rw [wp_s dd_46_243 rfl hs]; rfl
theorem dd_46_246 : decode (mB 46) 246 = .ok (.iconst 0, 1) := by decide +kernel
theorem u_46_246 {G : aG} {S : Nat → Bool} {f : Nat} {st : List Value} {ls : aL} {h : aH} {k n : Nat} (hs : S 246 = false) : WP 46 G S (f + 1) 246 ls st h k n = (WP 46 G S f 247 ls (.int (nI 0) :: st) h k n) := by rw [wp_s dd_46_246 rfl hs]; rfl
theorem dd_46_247 : decode (mB 46) 247 = .ok (.ireturn, 1) := by decide +kernel
theorem u_46_247 {G : aG} {S : Nat → Bool} {f : Nat} {ls : aL} {h : aH} {k n : Nat} {x : Int32} (hs : S 247 = false) : WP 46 G S (f + 1) 247 ls [.int x] h k n = (cond (x == nI 0 || x == nI 1) (RET G (some (.int x)) h k n) False) := by rw [wp_s dd_46_247 rfl hs]; rfl
theorem dd_46_248 : decode (mB 46) 248 = .ok (.iconst 0, 1) := by decide +kernel
theorem u_46_248 {G : aG} {S : Nat → Bool} {f : Nat} {st : List Value} {ls : aL} {h : aH} {k n : Nat} (hs : S 248 = false) : WP 46 G S (f + 1) 248 ls st h k n = (WP 46 G S f 249 ls (.int (nI 0) :: st) h k n) := by rw [wp_s dd_46_248 rfl hs]; rfl
theorem dd_46_249 : decode (mB 46) 249 = .ok (.ireturn, 1) := by decide +kernel
theorem u_46_249 {G : aG} {S : Nat → Bool} {f : Nat} {ls : aL} {h : aH} {k n : Nat} {x : Int32} (hs : S 249 = false) : WP 46 G S (f + 1) 249 ls [.int x] h k n = (cond (x == nI 0 || x == nI 1) (RET G (some (.int x)) h k n) False) := by rw [wp_s dd_46_249 rfl hs]; rfl
theorem dd_47_0 : decode (mB 47) 0 = .ok (.aload_n 0, 1) := by decide +kernel
theorem u_47_0 {G : aG} {S : Nat → Bool} {f : Nat} {st : List Value} {ls : aL} {h : aH} {k n : Nat} (hs : S 0 = false) : WP 47 G S (f + 1) 0 ls st h k n = (oA (lget ls 0) (WP 47 G S f) 1 ls st h k n) := by rw [wp_s dd_47_0 rfl hs]; rfl
theorem dd_47_1 : decode (mB 47) 1 = .ok (.iload_n 1, 1) := by decide +kernel
theorem u_47_1 {G : aG} {S : Nat → Bool} {f : Nat} {st : List Value} {ls : aL} {h : aH} {k n : Nat} (hs : S 1 = false) : WP 47 G S (f + 1) 1 ls st h k n = (oI (lget ls 1) (WP 47 G S f) 2 ls st h k n) := by rw [wp_s dd_47_1 rfl hs]; rfl
theorem dd_47_2 : decode (mB 47) 2 = .ok (.invokevirtual 95, 3) := by decide +kernel
theorem u_47_2 {G : aG} {S : Nat → Bool} {f : Nat} {st : List Value} {ls : aL} {h : aH} {k n : Nat} {v1 : Value} {b : Nat} (hs : S 2 = false) : WP 47 G S (f + 1) 2 ls (v1 :: .ref b :: st) h k n = (rcv (hget h b) 1 ∧ CAL G (WP 47 G S f) 48 [.ref b, v1] 5 ls st h k n) := by rw [wp_s dd_47_2 rfl hs]; rfl
theorem dd_47_5 : decode (mB 47) 5 = .ok (.aload_n 0, 1) := by decide +kernel
theorem u_47_5 {G : aG} {S : Nat → Bool} {f : Nat} {st : List Value} {ls : aL} {h : aH} {k n : Nat} (hs : S 5 = false) : WP 47 G S (f + 1) 5 ls st h k n = (oA (lget ls 0) (WP 47 G S f) 6 ls st h k n) := by rw [wp_s dd_47_5 rfl hs]; rfl
theorem dd_47_6 : decode (mB 47) 6 = .ok (.iconst 2, 1) := by decide +kernel
theorem u_47_6 {G : aG} {S : Nat → Bool} {f : Nat} {st : List Value} {ls : aL} {h : aH} {k n : Nat} (hs : S 6 = false) : WP 47 G S (f + 1) 6 ls st h k n = (WP 47 G S f 7 ls (.int (nI 2) :: st) h k n) := by rw [wp_s dd_47_6 rfl hs]; rfl
theorem dd_47_7 : decode (mB 47) 7 = .ok (.putfield 25, 3) := by decide +kernel
theorem u_47_7 {G : aG} {S : Nat → Bool} {f : Nat} {st : List Value} {ls : aL} {h : aH} {k n : Nat} {a : Nat} {x : Int32} (hs : S 7 = false) : WP 47 G S (f + 1) 7 ls (.int x :: .ref a :: st) h k n = (oH (fput h a 1 8 (.int x)) (WP 47 G S f) 10 ls st k n) := by rw [wp_s dd_47_7 rfl hs]; rfl
theorem dd_47_10 : decode (mB 47) 10 = .ok (.aload_n 0, 1) := by decide +kernel
theorem u_47_10 {G : aG} {S : Nat → Bool} {f : Nat} {st : List Value} {ls : aL} {h : aH} {k n : Nat} (hs : S 10 = false) : WP 47 G S (f + 1) 10 ls st h k n = (oA (lget ls 0) (WP 47 G S f) 11 ls st h k n) := by rw [wp_s dd_47_10 rfl hs]; rfl
theorem dd_47_11 : decode (mB 47) 11 = .ok (.iload_n 1, 1) := by decide +kernel
theorem u_47_11 {G : aG} {S : Nat → Bool} {f : Nat} {st : List Value} {ls : aL} {h : aH} {k n : Nat} (hs : S 11 = false) : WP 47 G S (f + 1) 11 ls st h k n = (oI (lget ls 1) (WP 47 G S f) 12 ls st h k n) := by rw [wp_s dd_47_11 rfl hs]; rfl
theorem dd_47_12 : decode (mB 47) 12 = .ok (.invokevirtual 76, 3) := by decide +kernel
theorem u_47_12 {G : aG} {S : Nat → Bool} {f : Nat} {st : List Value} {ls : aL} {h : aH} {k n : Nat} {v1 : Value} {b : Nat} (hs : S 12 = false) : WP 47 G S (f + 1) 12 ls (v1 :: .ref b :: st) h k n = (rcv (hget h b) 1 ∧ CAL G (WP 47 G S f) 43 [.ref b, v1] 15 ls st h k n) := by rw [wp_s dd_47_12 rfl hs]; rfl
theorem dd_47_15 : decode (mB 47) 15 = .ok (.ireturn, 1) := by decide +kernel
theorem u_47_15 {G : aG} {S : Nat → Bool} {f : Nat} {ls : aL} {h : aH} {k n : Nat} {x : Int32} (hs : S 15 = false) : WP 47 G S (f + 1) 15 ls [.int x] h k n = (cond (x == nI 0 || x == nI 1) (RET G (some (.int x)) h k n) False) := by rw [wp_s dd_47_15 rfl hs]; rfl
theorem dd_48_0 : decode (mB 48) 0 = .ok (.aload_n 0, 1) := by decide +kernel
theorem u_48_0 {G : aG} {S : Nat → Bool} {f : Nat} {st : List Value} {ls : aL} {h : aH} {k n : Nat} (hs : S 0 = false) : WP 48 G S (f + 1) 0 ls st h k n = (oA (lget ls 0) (WP 48 G S f) 1 ls st h k n) := by rw [wp_s dd_48_0 rfl hs]; rfl
theorem v_48_0 {G : aG} {S : Nat → Bool} {f : Nat} {st : List Value} {ls : aL} {h : aH} {k n : Nat} : WQ 48 G S f 0 ls st h k n = (oA (lget ls 0) (WP 48 G S f) 1 ls st h k n) := by rw [wq_s dd_48_0 rfl]; rfl
theorem dd_48_1 : decode (mB 48) 1 = .ok (.getfield 60, 3) := by decide +kernel
theorem u_48_1 {G : aG} {S : Nat → Bool} {f : Nat} {st : List Value} {ls : aL} {h : aH} {k n : Nat} {a : Nat} (hs : S 1 = false) : WP 48 G S (f + 1) 1 ls (.ref a :: st) h k n = (oV (fget h a 1 2) (WP 48 G S f) 4 ls st h k n) := by rw [wp_s dd_48_1 rfl hs]; rfl
theorem dd_48_4 : decode (mB 48) 4 = .ok (.ifCond .le 57, 3) := by decide +kernel
theorem u_48_4 {G : aG} {S : Nat → Bool} {f : Nat} {st : List Value} {ls : aL} {h : aH} {k n : Nat} {x : Int32} (hs : S 4 = false) : WP 48 G S (f + 1) 4 ls (.int x :: st) h k n = (if x ≤ nI 0 then WP 48 G S f 61 ls st h k n else WP 48 G S f 7 ls st h k n) := by rw [wp_s dd_48_4 rfl hs]; exact br_ite (c := x ≤ nI 0)
theorem dd_48_7 : decode (mB 48) 7 = .ok (.aload_n 0, 1) := by decide +kernel
theorem u_48_7 {G : aG} {S : Nat → Bool} {f : Nat} {st : List Value} {ls : aL} {h : aH} {k n : Nat} (hs : S 7 = false) : WP 48 G S (f + 1) 7 ls st h k n = (oA (lget ls 0) (WP 48 G S f) 8 ls st h k n) := by rw [wp_s dd_48_7 rfl hs]; rfl
theorem dd_48_8 : decode (mB 48) 8 = .ok (.getfield 60, 3) := by decide +kernel
theorem u_48_8 {G : aG} {S : Nat → Bool} {f : Nat} {st : List Value} {ls : aL} {h : aH} {k n : Nat} {a : Nat} (hs : S 8 = false) : WP 48 G S (f + 1) 8 ls (.ref a :: st) h k n = (oV (fget h a 1 2) (WP 48 G S f) 11 ls st h k n) := by rw [wp_s dd_48_8 rfl hs]; rfl
theorem dd_48_11 : decode (mB 48) 11 = .ok (.aload_n 0, 1) := by decide +kernel
theorem u_48_11 {G : aG} {S : Nat → Bool} {f : Nat} {st : List Value} {ls : aL} {h : aH} {k n : Nat} (hs : S 11 = false) : WP 48 G S (f + 1) 11 ls st h k n = (oA (lget ls 0) (WP 48 G S f) 12 ls st h k n) := by rw [wp_s dd_48_11 rfl hs]; rfl
theorem dd_48_12 : decode (mB 48) 12 = .ok (.getfield 15, 3) := by decide +kernel
theorem u_48_12 {G : aG} {S : Nat → Bool} {f : Nat} {st : List Value} {ls : aL} {h : aH} {k n : Nat} {a : Nat} (hs : S 12 = false) : WP 48 G S (f + 1) 12 ls (.ref a :: st) h k n = (oV (fget h a 1 1) (WP 48 G S f) 15 ls st h k n) := by rw [wp_s dd_48_12 rfl hs]; rfl
theorem dd_48_15 : decode (mB 48) 15 = .ok (.arraylength, 1) := by decide +kernel
theorem u_48_15 {G : aG} {S : Nat → Bool} {f : Nat} {st : List Value} {ls : aL} {h : aH} {k n : Nat} {a : Nat} (hs : S 15 = false) : WP 48 G S (f + 1) 15 ls (.ref a :: st) h k n = (oLen (alen h a) (WP 48 G S f) 16 ls st h k n) := by rw [wp_s dd_48_15 rfl hs]; rfl
theorem dd_48_16 : decode (mB 48) 16 = .ok (.if_icmp .gt 45, 3) := by decide +kernel
theorem u_48_16 {G : aG} {S : Nat → Bool} {f : Nat} {st : List Value} {ls : aL} {h : aH} {k n : Nat} {x y : Int32} (hs : S 16 = false) : WP 48 G S (f + 1) 16 ls (.int y :: .int x :: st) h k n = (if y < x then WP 48 G S f 61 ls st h k n else WP 48 G S f 19 ls st h k n) := by rw [wp_s dd_48_16 rfl hs]; exact br_ite (c := y < x)
theorem dd_48_19 : decode (mB 48) 19 = .ok (.aload_n 0, 1) := by decide +kernel
theorem u_48_19 {G : aG} {S : Nat → Bool} {f : Nat} {st : List Value} {ls : aL} {h : aH} {k n : Nat} (hs : S 19 = false) : WP 48 G S (f + 1) 19 ls st h k n = (oA (lget ls 0) (WP 48 G S f) 20 ls st h k n) := by rw [wp_s dd_48_19 rfl hs]; rfl
theorem dd_48_20 : decode (mB 48) 20 = .ok (.getfield 15, 3) := by decide +kernel
theorem u_48_20 {G : aG} {S : Nat → Bool} {f : Nat} {st : List Value} {ls : aL} {h : aH} {k n : Nat} {a : Nat} (hs : S 20 = false) : WP 48 G S (f + 1) 20 ls (.ref a :: st) h k n = (oV (fget h a 1 1) (WP 48 G S f) 23 ls st h k n) := by rw [wp_s dd_48_20 rfl hs]; rfl
theorem dd_48_23 : decode (mB 48) 23 = .ok (.aload_n 0, 1) := by decide +kernel
theorem u_48_23 {G : aG} {S : Nat → Bool} {f : Nat} {st : List Value} {ls : aL} {h : aH} {k n : Nat} (hs : S 23 = false) : WP 48 G S (f + 1) 23 ls st h k n = (oA (lget ls 0) (WP 48 G S f) 24 ls st h k n) := by rw [wp_s dd_48_23 rfl hs]; rfl
theorem dd_48_24 : decode (mB 48) 24 = .ok (.getfield 60, 3) := by decide +kernel
theorem u_48_24 {G : aG} {S : Nat → Bool} {f : Nat} {st : List Value} {ls : aL} {h : aH} {k n : Nat} {a : Nat} (hs : S 24 = false) : WP 48 G S (f + 1) 24 ls (.ref a :: st) h k n = (oV (fget h a 1 2) (WP 48 G S f) 27 ls st h k n) := by rw [wp_s dd_48_24 rfl hs]; rfl
theorem dd_48_27 : decode (mB 48) 27 = .ok (.iconst 1, 1) := by decide +kernel
theorem u_48_27 {G : aG} {S : Nat → Bool} {f : Nat} {st : List Value} {ls : aL} {h : aH} {k n : Nat} (hs : S 27 = false) : WP 48 G S (f + 1) 27 ls st h k n = (WP 48 G S f 28 ls (.int (nI 1) :: st) h k n) := by rw [wp_s dd_48_27 rfl hs]; rfl
theorem dd_48_28 : decode (mB 48) 28 = .ok (.isub, 1) := by decide +kernel
theorem u_48_28 {G : aG} {S : Nat → Bool} {f : Nat} {st : List Value} {ls : aL} {h : aH} {k n : Nat} {x y : Int32} (hs : S 28 = false) : WP 48 G S (f + 1) 28 ls (.int y :: .int x :: st) h k n = (WP 48 G S f 29 ls (.int (x - y) :: st) h k n) := by rw [wp_s dd_48_28 rfl hs]; rfl
theorem dd_48_29 : decode (mB 48) 29 = .ok (.iaload, 1) := by decide +kernel
theorem u_48_29 {G : aG} {S : Nat → Bool} {f : Nat} {st : List Value} {ls : aL} {h : aH} {k n : Nat} {i : Int32} {a : Nat} (hs : S 29 = false) : WP 48 G S (f + 1) 29 ls (.int i :: .ref a :: st) h k n = (oIld (iget h a 1) i (WP 48 G S f) 30 ls st h k n) := by rw [wp_s dd_48_29 rfl hs]; rfl
theorem dd_48_30 : decode (mB 48) 30 = .ok (.iload_n 1, 1) := by decide +kernel
theorem u_48_30 {G : aG} {S : Nat → Bool} {f : Nat} {st : List Value} {ls : aL} {h : aH} {k n : Nat} (hs : S 30 = false) : WP 48 G S (f + 1) 30 ls st h k n = (oI (lget ls 1) (WP 48 G S f) 31 ls st h k n) := by rw [wp_s dd_48_30 rfl hs]; rfl
theorem dd_48_31 : decode (mB 48) 31 = .ok (.if_icmp .lt 30, 3) := by decide +kernel
theorem u_48_31 {G : aG} {S : Nat → Bool} {f : Nat} {st : List Value} {ls : aL} {h : aH} {k n : Nat} {x y : Int32} (hs : S 31 = false) : WP 48 G S (f + 1) 31 ls (.int y :: .int x :: st) h k n = (if x < y then WP 48 G S f 61 ls st h k n else WP 48 G S f 34 ls st h k n) := by rw [wp_s dd_48_31 rfl hs]; exact br_ite (c := x < y)
theorem dd_48_34 : decode (mB 48) 34 = .ok (.aload_n 0, 1) := by decide +kernel
theorem u_48_34 {G : aG} {S : Nat → Bool} {f : Nat} {st : List Value} {ls : aL} {h : aH} {k n : Nat} (hs : S 34 = false) : WP 48 G S (f + 1) 34 ls st h k n = (oA (lget ls 0) (WP 48 G S f) 35 ls st h k n) := by rw [wp_s dd_48_34 rfl hs]; rfl
theorem dd_48_35 : decode (mB 48) 35 = .ok (.dup, 1) := by decide +kernel
theorem u_48_35 {G : aG} {S : Nat → Bool} {f : Nat} {st : List Value} {ls : aL} {h : aH} {k n : Nat} {v : Value} (hs : S 35 = false) : WP 48 G S (f + 1) 35 ls (v :: st) h k n = (cond (cat1 v) (WP 48 G S f 36 ls (v :: v :: st) h k n) False) := by rw [wp_s dd_48_35 rfl hs]; rfl
theorem dd_48_36 : decode (mB 48) 36 = .ok (.getfield 60, 3) := by decide +kernel
theorem u_48_36 {G : aG} {S : Nat → Bool} {f : Nat} {st : List Value} {ls : aL} {h : aH} {k n : Nat} {a : Nat} (hs : S 36 = false) : WP 48 G S (f + 1) 36 ls (.ref a :: st) h k n = (oV (fget h a 1 2) (WP 48 G S f) 39 ls st h k n) := by rw [wp_s dd_48_36 rfl hs]; rfl
theorem dd_48_39 : decode (mB 48) 39 = .ok (.iconst 1, 1) := by decide +kernel
theorem u_48_39 {G : aG} {S : Nat → Bool} {f : Nat} {st : List Value} {ls : aL} {h : aH} {k n : Nat} (hs : S 39 = false) : WP 48 G S (f + 1) 39 ls st h k n = (WP 48 G S f 40 ls (.int (nI 1) :: st) h k n) := by rw [wp_s dd_48_39 rfl hs]; rfl
theorem dd_48_40 : decode (mB 48) 40 = .ok (.isub, 1) := by decide +kernel
theorem u_48_40 {G : aG} {S : Nat → Bool} {f : Nat} {st : List Value} {ls : aL} {h : aH} {k n : Nat} {x y : Int32} (hs : S 40 = false) : WP 48 G S (f + 1) 40 ls (.int y :: .int x :: st) h k n = (WP 48 G S f 41 ls (.int (x - y) :: st) h k n) := by rw [wp_s dd_48_40 rfl hs]; rfl
theorem dd_48_41 : decode (mB 48) 41 = .ok (.putfield 60, 3) := by decide +kernel
theorem u_48_41 {G : aG} {S : Nat → Bool} {f : Nat} {st : List Value} {ls : aL} {h : aH} {k n : Nat} {a : Nat} {x : Int32} (hs : S 41 = false) : WP 48 G S (f + 1) 41 ls (.int x :: .ref a :: st) h k n = (oH (fput h a 1 2 (.int x)) (WP 48 G S f) 44 ls st k n) := by rw [wp_s dd_48_41 rfl hs]; rfl
theorem dd_48_44 : decode (mB 48) 44 = .ok (.aload_n 0, 1) := by decide +kernel
theorem u_48_44 {G : aG} {S : Nat → Bool} {f : Nat} {st : List Value} {ls : aL} {h : aH} {k n : Nat} (hs : S 44 = false) : WP 48 G S (f + 1) 44 ls st h k n = (oA (lget ls 0) (WP 48 G S f) 45 ls st h k n) := by rw [wp_s dd_48_44 rfl hs]; rfl
theorem dd_48_45 : decode (mB 48) 45 = .ok (.aload_n 0, 1) := by decide +kernel
theorem u_48_45 {G : aG} {S : Nat → Bool} {f : Nat} {st : List Value} {ls : aL} {h : aH} {k n : Nat} (hs : S 45 = false) : WP 48 G S (f + 1) 45 ls st h k n = (oA (lget ls 0) (WP 48 G S f) 46 ls st h k n) := by rw [wp_s dd_48_45 rfl hs]; rfl
theorem dd_48_46 : decode (mB 48) 46 = .ok (.getfield 15, 3) := by decide +kernel
theorem u_48_46 {G : aG} {S : Nat → Bool} {f : Nat} {st : List Value} {ls : aL} {h : aH} {k n : Nat} {a : Nat} (hs : S 46 = false) : WP 48 G S (f + 1) 46 ls (.ref a :: st) h k n = (oV (fget h a 1 1) (WP 48 G S f) 49 ls st h k n) := by rw [wp_s dd_48_46 rfl hs]; rfl
theorem dd_48_49 : decode (mB 48) 49 = .ok (.aload_n 0, 1) := by decide +kernel
theorem u_48_49 {G : aG} {S : Nat → Bool} {f : Nat} {st : List Value} {ls : aL} {h : aH} {k n : Nat} (hs : S 49 = false) : WP 48 G S (f + 1) 49 ls st h k n = (oA (lget ls 0) (WP 48 G S f) 50 ls st h k n) := by rw [wp_s dd_48_49 rfl hs]; rfl
theorem dd_48_50 : decode (mB 48) 50 = .ok (.getfield 60, 3) := by decide +kernel
theorem u_48_50 {G : aG} {S : Nat → Bool} {f : Nat} {st : List Value} {ls : aL} {h : aH} {k n : Nat} {a : Nat} (hs : S 50 = false) : WP 48 G S (f + 1) 50 ls (.ref a :: st) h k n = (oV (fget h a 1 2) (WP 48 G S f) 53 ls st h k n) := by rw [wp_s dd_48_50 rfl hs]; rfl
theorem dd_48_53 : decode (mB 48) 53 = .ok (.iaload, 1) := by decide +kernel
theorem u_48_53 {G : aG} {S : Nat → Bool} {f : Nat} {st : List Value} {ls : aL} {h : aH} {k n : Nat} {i : Int32} {a : Nat} (hs : S 53 = false) : WP 48 G S (f + 1) 53 ls (.int i :: .ref a :: st) h k n = (oIld (iget h a 1) i (WP 48 G S f) 54 ls st h k n) := by rw [wp_s dd_48_53 rfl hs]; rfl
theorem dd_48_54 : decode (mB 48) 54 = .ok (.invokevirtual 83, 3) := by decide +kernel
theorem u_48_54 {G : aG} {S : Nat → Bool} {f : Nat} {st : List Value} {ls : aL} {h : aH} {k n : Nat} {v1 : Value} {b : Nat} (hs : S 54 = false) : WP 48 G S (f + 1) 54 ls (v1 :: .ref b :: st) h k n = (rcv (hget h b) 1 ∧ CAL G (WP 48 G S f) 45 [.ref b, v1] 57 ls st h k n) := by rw [wp_s dd_48_54 rfl hs]; rfl
theorem dd_48_57 : decode (mB 48) 57 = .ok (.pop, 1) := by decide +kernel
theorem u_48_57 {G : aG} {S : Nat → Bool} {f : Nat} {st : List Value} {ls : aL} {h : aH} {k n : Nat} {v : Value} (hs : S 57 = false) : WP 48 G S (f + 1) 57 ls (v :: st) h k n = (cond (cat1 v) (WP 48 G S f 58 ls st h k n) False) := by rw [wp_s dd_48_57 rfl hs]; rfl
theorem dd_48_58 : decode (mB 48) 58 = .ok (.goto (-58), 3) := by decide +kernel
theorem u_48_58 {G : aG} {S : Nat → Bool} {f : Nat} {st : List Value} {ls : aL} {h : aH} {k n : Nat} (hs : S 58 = false) : WP 48 G S (f + 1) 58 ls st h k n = (WP 48 G S f 0 ls st h k n) := by rw [wp_s dd_48_58 rfl hs]; rfl
theorem dd_48_61 : decode (mB 48) 61 = .ok (.return_, 1) := by decide +kernel
theorem u_48_61 {G : aG} {S : Nat → Bool} {f : Nat} {ls : aL} {h : aH} {k n : Nat} (hs : S 61 = false) : WP 48 G S (f + 1) 61 ls [] h k n = (RET G none h k n) := by rw [wp_s dd_48_61 rfl hs]; rfl
theorem dd_49_0 : decode (mB 49) 0 = .ok (.aload_n 0, 1) := by decide +kernel
theorem u_49_0 {G : aG} {S : Nat → Bool} {f : Nat} {st : List Value} {ls : aL} {h : aH} {k n : Nat} (hs : S 0 = false) : WP 49 G S (f + 1) 0 ls st h k n = (oA (lget ls 0) (WP 49 G S f) 1 ls st h k n) := by rw [wp_s dd_49_0 rfl hs]; rfl
theorem dd_49_1 : decode (mB 49) 1 = .ok (.iconst 1, 1) := by decide +kernel
theorem u_49_1 {G : aG} {S : Nat → Bool} {f : Nat} {st : List Value} {ls : aL} {h : aH} {k n : Nat} (hs : S 1 = false) : WP 49 G S (f + 1) 1 ls st h k n = (WP 49 G S f 2 ls (.int (nI 1) :: st) h k n) := by rw [wp_s dd_49_1 rfl hs]; rfl
theorem dd_49_2 : decode (mB 49) 2 = .ok (.invokevirtual 95, 3) := by decide +kernel
theorem u_49_2 {G : aG} {S : Nat → Bool} {f : Nat} {st : List Value} {ls : aL} {h : aH} {k n : Nat} {v1 : Value} {b : Nat} (hs : S 2 = false) : WP 49 G S (f + 1) 2 ls (v1 :: .ref b :: st) h k n = (rcv (hget h b) 1 ∧ CAL G (WP 49 G S f) 48 [.ref b, v1] 5 ls st h k n) := by rw [wp_s dd_49_2 rfl hs]; rfl
theorem dd_49_5 : decode (mB 49) 5 = .ok (.aload_n 0, 1) := by decide +kernel
theorem u_49_5 {G : aG} {S : Nat → Bool} {f : Nat} {st : List Value} {ls : aL} {h : aH} {k n : Nat} (hs : S 5 = false) : WP 49 G S (f + 1) 5 ls st h k n = (oA (lget ls 0) (WP 49 G S f) 6 ls st h k n) := by rw [wp_s dd_49_5 rfl hs]; rfl
theorem dd_49_6 : decode (mB 49) 6 = .ok (.iconst 0, 1) := by decide +kernel
theorem u_49_6 {G : aG} {S : Nat → Bool} {f : Nat} {st : List Value} {ls : aL} {h : aH} {k n : Nat} (hs : S 6 = false) : WP 49 G S (f + 1) 6 ls st h k n = (WP 49 G S f 7 ls (.int (nI 0) :: st) h k n) := by rw [wp_s dd_49_6 rfl hs]; rfl
theorem dd_49_7 : decode (mB 49) 7 = .ok (.aload_n 0, 1) := by decide +kernel
theorem u_49_7 {G : aG} {S : Nat → Bool} {f : Nat} {st : List Value} {ls : aL} {h : aH} {k n : Nat} (hs : S 7 = false) : WP 49 G S (f + 1) 7 ls st h k n = (oA (lget ls 0) (WP 49 G S f) 8 ls st h k n) := by rw [wp_s dd_49_7 rfl hs]; rfl
theorem dd_49_8 : decode (mB 49) 8 = .ok (.getfield 60, 3) := by decide +kernel
theorem u_49_8 {G : aG} {S : Nat → Bool} {f : Nat} {st : List Value} {ls : aL} {h : aH} {k n : Nat} {a : Nat} (hs : S 8 = false) : WP 49 G S (f + 1) 8 ls (.ref a :: st) h k n = (oV (fget h a 1 2) (WP 49 G S f) 11 ls st h k n) := by rw [wp_s dd_49_8 rfl hs]; rfl
theorem dd_49_11 : decode (mB 49) 11 = .ok (.iconst 1, 1) := by decide +kernel
theorem u_49_11 {G : aG} {S : Nat → Bool} {f : Nat} {st : List Value} {ls : aL} {h : aH} {k n : Nat} (hs : S 11 = false) : WP 49 G S (f + 1) 11 ls st h k n = (WP 49 G S f 12 ls (.int (nI 1) :: st) h k n) := by rw [wp_s dd_49_11 rfl hs]; rfl
theorem dd_49_12 : decode (mB 49) 12 = .ok (.isub, 1) := by decide +kernel
theorem u_49_12 {G : aG} {S : Nat → Bool} {f : Nat} {st : List Value} {ls : aL} {h : aH} {k n : Nat} {x y : Int32} (hs : S 12 = false) : WP 49 G S (f + 1) 12 ls (.int y :: .int x :: st) h k n = (WP 49 G S f 13 ls (.int (x - y) :: st) h k n) := by rw [wp_s dd_49_12 rfl hs]; rfl
theorem dd_49_13 : decode (mB 49) 13 = .ok (.invokestatic 99, 3) := by decide +kernel
theorem u_49_13 {G : aG} {S : Nat → Bool} {f : Nat} {st : List Value} {ls : aL} {h : aH} {k n : Nat} {v1 v2 : Value} (hs : S 13 = false) : WP 49 G S (f + 1) 13 ls (v2 :: v1 :: st) h k n = (CAL G (WP 49 G S f) 22 [v1, v2] 16 ls st h k n) := by rw [wp_s dd_49_13 rfl hs]; rfl
theorem dd_49_16 : decode (mB 49) 16 = .ok (.putfield 60, 3) := by decide +kernel
theorem u_49_16 {G : aG} {S : Nat → Bool} {f : Nat} {st : List Value} {ls : aL} {h : aH} {k n : Nat} {a : Nat} {x : Int32} (hs : S 16 = false) : WP 49 G S (f + 1) 16 ls (.int x :: .ref a :: st) h k n = (oH (fput h a 1 2 (.int x)) (WP 49 G S f) 19 ls st k n) := by rw [wp_s dd_49_16 rfl hs]; rfl
theorem dd_49_19 : decode (mB 49) 19 = .ok (.aload_n 0, 1) := by decide +kernel
theorem u_49_19 {G : aG} {S : Nat → Bool} {f : Nat} {st : List Value} {ls : aL} {h : aH} {k n : Nat} (hs : S 19 = false) : WP 49 G S (f + 1) 19 ls st h k n = (oA (lget ls 0) (WP 49 G S f) 20 ls st h k n) := by rw [wp_s dd_49_19 rfl hs]; rfl
theorem dd_49_20 : decode (mB 49) 20 = .ok (.dup, 1) := by decide +kernel
theorem u_49_20 {G : aG} {S : Nat → Bool} {f : Nat} {st : List Value} {ls : aL} {h : aH} {k n : Nat} {v : Value} (hs : S 20 = false) : WP 49 G S (f + 1) 20 ls (v :: st) h k n = (cond (cat1 v) (WP 49 G S f 21 ls (v :: v :: st) h k n) False) := by rw [wp_s dd_49_20 rfl hs]; rfl
theorem dd_49_21 : decode (mB 49) 21 = .ok (.getfield 63, 3) := by decide +kernel
theorem u_49_21 {G : aG} {S : Nat → Bool} {f : Nat} {st : List Value} {ls : aL} {h : aH} {k n : Nat} {a : Nat} (hs : S 21 = false) : WP 49 G S (f + 1) 21 ls (.ref a :: st) h k n = (oV (fget h a 1 3) (WP 49 G S f) 24 ls st h k n) := by rw [wp_s dd_49_21 rfl hs]; rfl
theorem dd_49_24 : decode (mB 49) 24 = .ok (.iconst 1, 1) := by decide +kernel
theorem u_49_24 {G : aG} {S : Nat → Bool} {f : Nat} {st : List Value} {ls : aL} {h : aH} {k n : Nat} (hs : S 24 = false) : WP 49 G S (f + 1) 24 ls st h k n = (WP 49 G S f 25 ls (.int (nI 1) :: st) h k n) := by rw [wp_s dd_49_24 rfl hs]; rfl
theorem dd_49_25 : decode (mB 49) 25 = .ok (.isub, 1) := by decide +kernel
theorem u_49_25 {G : aG} {S : Nat → Bool} {f : Nat} {st : List Value} {ls : aL} {h : aH} {k n : Nat} {x y : Int32} (hs : S 25 = false) : WP 49 G S (f + 1) 25 ls (.int y :: .int x :: st) h k n = (WP 49 G S f 26 ls (.int (x - y) :: st) h k n) := by rw [wp_s dd_49_25 rfl hs]; rfl
theorem dd_49_26 : decode (mB 49) 26 = .ok (.putfield 63, 3) := by decide +kernel
theorem u_49_26 {G : aG} {S : Nat → Bool} {f : Nat} {st : List Value} {ls : aL} {h : aH} {k n : Nat} {a : Nat} {x : Int32} (hs : S 26 = false) : WP 49 G S (f + 1) 26 ls (.int x :: .ref a :: st) h k n = (oH (fput h a 1 3 (.int x)) (WP 49 G S f) 29 ls st k n) := by rw [wp_s dd_49_26 rfl hs]; rfl
theorem dd_49_29 : decode (mB 49) 29 = .ok (.iconst 1, 1) := by decide +kernel
theorem u_49_29 {G : aG} {S : Nat → Bool} {f : Nat} {st : List Value} {ls : aL} {h : aH} {k n : Nat} (hs : S 29 = false) : WP 49 G S (f + 1) 29 ls st h k n = (WP 49 G S f 30 ls (.int (nI 1) :: st) h k n) := by rw [wp_s dd_49_29 rfl hs]; rfl
theorem dd_49_30 : decode (mB 49) 30 = .ok (.ireturn, 1) := by decide +kernel
theorem u_49_30 {G : aG} {S : Nat → Bool} {f : Nat} {ls : aL} {h : aH} {k n : Nat} {x : Int32} (hs : S 30 = false) : WP 49 G S (f + 1) 30 ls [.int x] h k n = (cond (x == nI 0 || x == nI 1) (RET G (some (.int x)) h k n) False) := by rw [wp_s dd_49_30 rfl hs]; rfl
theorem dd_50_0 : decode (mB 50) 0 = .ok (.aload_n 0, 1) := by decide +kernel
theorem u_50_0 {G : aG} {S : Nat → Bool} {f : Nat} {st : List Value} {ls : aL} {h : aH} {k n : Nat} (hs : S 0 = false) : WP 50 G S (f + 1) 0 ls st h k n = (oA (lget ls 0) (WP 50 G S f) 1 ls st h k n) := by rw [wp_s dd_50_0 rfl hs]; rfl
theorem dd_50_1 : decode (mB 50) 1 = .ok (.getfield 57, 3) := by decide +kernel
theorem u_50_1 {G : aG} {S : Nat → Bool} {f : Nat} {st : List Value} {ls : aL} {h : aH} {k n : Nat} {a : Nat} (hs : S 1 = false) : WP 50 G S (f + 1) 1 ls (.ref a :: st) h k n = (oV (fget h a 1 7) (WP 50 G S f) 4 ls st h k n) := by rw [wp_s dd_50_1 rfl hs]; rfl
theorem dd_50_4 : decode (mB 50) 4 = .ok (.invokestatic 105, 3) := by decide +kernel
theorem u_50_4 {G : aG} {S : Nat → Bool} {f : Nat} {st : List Value} {ls : aL} {h : aH} {k n : Nat} {v1 : Value} (hs : S 4 = false) : WP 50 G S (f + 1) 4 ls (v1 :: st) h k n = (CAL G (WP 50 G S f) 51 [v1] 7 ls st h k n) := by rw [wp_s dd_50_4 rfl hs]; rfl
theorem dd_50_7 : decode (mB 50) 7 = .ok (.ifCond .ne 5, 3) := by decide +kernel
theorem u_50_7 {G : aG} {S : Nat → Bool} {f : Nat} {st : List Value} {ls : aL} {h : aH} {k n : Nat} {x : Int32} (hs : S 7 = false) : WP 50 G S (f + 1) 7 ls (.int x :: st) h k n = (if x = nI 0 then WP 50 G S f 10 ls st h k n else WP 50 G S f 12 ls st h k n) := by rw [wp_s dd_50_7 rfl hs]; exact br_iten (c := x = nI 0)
theorem dd_50_10 : decode (mB 50) 10 = .ok (.iconst 0, 1) := by decide +kernel
theorem u_50_10 {G : aG} {S : Nat → Bool} {f : Nat} {st : List Value} {ls : aL} {h : aH} {k n : Nat} (hs : S 10 = false) : WP 50 G S (f + 1) 10 ls st h k n = (WP 50 G S f 11 ls (.int (nI 0) :: st) h k n) := by rw [wp_s dd_50_10 rfl hs]; rfl
theorem dd_50_11 : decode (mB 50) 11 = .ok (.ireturn, 1) := by decide +kernel
theorem u_50_11 {G : aG} {S : Nat → Bool} {f : Nat} {ls : aL} {h : aH} {k n : Nat} {x : Int32} (hs : S 11 = false) : WP 50 G S (f + 1) 11 ls [.int x] h k n = (cond (x == nI 0 || x == nI 1) (RET G (some (.int x)) h k n) False) := by rw [wp_s dd_50_11 rfl hs]; rfl
theorem dd_50_12 : decode (mB 50) 12 = .ok (.aload_n 0, 1) := by decide +kernel
theorem u_50_12 {G : aG} {S : Nat → Bool} {f : Nat} {st : List Value} {ls : aL} {h : aH} {k n : Nat} (hs : S 12 = false) : WP 50 G S (f + 1) 12 ls st h k n = (oA (lget ls 0) (WP 50 G S f) 13 ls st h k n) := by rw [wp_s dd_50_12 rfl hs]; rfl
theorem dd_50_13 : decode (mB 50) 13 = .ok (.iconst 1, 1) := by decide +kernel
theorem u_50_13 {G : aG} {S : Nat → Bool} {f : Nat} {st : List Value} {ls : aL} {h : aH} {k n : Nat} (hs : S 13 = false) : WP 50 G S (f + 1) 13 ls st h k n = (WP 50 G S f 14 ls (.int (nI 1) :: st) h k n) := by rw [wp_s dd_50_13 rfl hs]; rfl
theorem dd_50_14 : decode (mB 50) 14 = .ok (.invokevirtual 95, 3) := by decide +kernel
theorem u_50_14 {G : aG} {S : Nat → Bool} {f : Nat} {st : List Value} {ls : aL} {h : aH} {k n : Nat} {v1 : Value} {b : Nat} (hs : S 14 = false) : WP 50 G S (f + 1) 14 ls (v1 :: .ref b :: st) h k n = (rcv (hget h b) 1 ∧ CAL G (WP 50 G S f) 48 [.ref b, v1] 17 ls st h k n) := by rw [wp_s dd_50_14 rfl hs]; rfl
theorem dd_50_17 : decode (mB 50) 17 = .ok (.aload_n 0, 1) := by decide +kernel
theorem u_50_17 {G : aG} {S : Nat → Bool} {f : Nat} {st : List Value} {ls : aL} {h : aH} {k n : Nat} (hs : S 17 = false) : WP 50 G S (f + 1) 17 ls st h k n = (oA (lget ls 0) (WP 50 G S f) 18 ls st h k n) := by rw [wp_s dd_50_17 rfl hs]; rfl
theorem dd_50_18 : decode (mB 50) 18 = .ok (.getfield 9, 3) := by decide +kernel
theorem u_50_18 {G : aG} {S : Nat → Bool} {f : Nat} {st : List Value} {ls : aL} {h : aH} {k n : Nat} {a : Nat} (hs : S 18 = false) : WP 50 G S (f + 1) 18 ls (.ref a :: st) h k n = (oV (fget h a 1 0) (WP 50 G S f) 21 ls st h k n) := by rw [wp_s dd_50_18 rfl hs]; rfl
theorem dd_50_21 : decode (mB 50) 21 = .ok (.aload_n 0, 1) := by decide +kernel
theorem u_50_21 {G : aG} {S : Nat → Bool} {f : Nat} {st : List Value} {ls : aL} {h : aH} {k n : Nat} (hs : S 21 = false) : WP 50 G S (f + 1) 21 ls st h k n = (oA (lget ls 0) (WP 50 G S f) 22 ls st h k n) := by rw [wp_s dd_50_21 rfl hs]; rfl
theorem dd_50_22 : decode (mB 50) 22 = .ok (.getfield 57, 3) := by decide +kernel
theorem u_50_22 {G : aG} {S : Nat → Bool} {f : Nat} {st : List Value} {ls : aL} {h : aH} {k n : Nat} {a : Nat} (hs : S 22 = false) : WP 50 G S (f + 1) 22 ls (.ref a :: st) h k n = (oV (fget h a 1 7) (WP 50 G S f) 25 ls st h k n) := by rw [wp_s dd_50_22 rfl hs]; rfl
theorem dd_50_25 : decode (mB 50) 25 = .ok (.aload_n 0, 1) := by decide +kernel
theorem u_50_25 {G : aG} {S : Nat → Bool} {f : Nat} {st : List Value} {ls : aL} {h : aH} {k n : Nat} (hs : S 25 = false) : WP 50 G S (f + 1) 25 ls st h k n = (oA (lget ls 0) (WP 50 G S f) 26 ls st h k n) := by rw [wp_s dd_50_25 rfl hs]; rfl
theorem dd_50_26 : decode (mB 50) 26 = .ok (.getfield 72, 3) := by decide +kernel
theorem u_50_26 {G : aG} {S : Nat → Bool} {f : Nat} {st : List Value} {ls : aL} {h : aH} {k n : Nat} {a : Nat} (hs : S 26 = false) : WP 50 G S (f + 1) 26 ls (.ref a :: st) h k n = (oV (fget h a 1 6) (WP 50 G S f) 29 ls st h k n) := by rw [wp_s dd_50_26 rfl hs]; rfl
theorem dd_50_29 : decode (mB 50) 29 = .ok (.lastore, 1) := by decide +kernel
theorem u_50_29 {G : aG} {S : Nat → Bool} {f : Nat} {st : List Value} {ls : aL} {h : aH} {k n : Nat} {i : Int32} {x : Int64} {a : Nat} (hs : S 29 = false) : WP 50 G S (f + 1) 29 ls (.long x :: .int i :: .ref a :: st) h k n = (oJst (jget h a) a i x (WP 50 G S f) 30 ls st h k n) := by rw [wp_s dd_50_29 rfl hs]; rfl
theorem dd_50_30 : decode (mB 50) 30 = .ok (.aload_n 0, 1) := by decide +kernel
theorem u_50_30 {G : aG} {S : Nat → Bool} {f : Nat} {st : List Value} {ls : aL} {h : aH} {k n : Nat} (hs : S 30 = false) : WP 50 G S (f + 1) 30 ls st h k n = (oA (lget ls 0) (WP 50 G S f) 31 ls st h k n) := by rw [wp_s dd_50_30 rfl hs]; rfl
theorem dd_50_31 : decode (mB 50) 31 = .ok (.dup, 1) := by decide +kernel
theorem u_50_31 {G : aG} {S : Nat → Bool} {f : Nat} {st : List Value} {ls : aL} {h : aH} {k n : Nat} {v : Value} (hs : S 31 = false) : WP 50 G S (f + 1) 31 ls (v :: st) h k n = (cond (cat1 v) (WP 50 G S f 32 ls (v :: v :: st) h k n) False) := by rw [wp_s dd_50_31 rfl hs]; rfl
theorem dd_50_32 : decode (mB 50) 32 = .ok (.getfield 29, 3) := by decide +kernel
theorem u_50_32 {G : aG} {S : Nat → Bool} {f : Nat} {st : List Value} {ls : aL} {h : aH} {k n : Nat} {a : Nat} (hs : S 32 = false) : WP 50 G S (f + 1) 32 ls (.ref a :: st) h k n = (oV (fget h a 1 9) (WP 50 G S f) 35 ls st h k n) := by rw [wp_s dd_50_32 rfl hs]; rfl
theorem dd_50_35 : decode (mB 50) 35 = .ok (.iconst 1, 1) := by decide +kernel
theorem u_50_35 {G : aG} {S : Nat → Bool} {f : Nat} {st : List Value} {ls : aL} {h : aH} {k n : Nat} (hs : S 35 = false) : WP 50 G S (f + 1) 35 ls st h k n = (WP 50 G S f 36 ls (.int (nI 1) :: st) h k n) := by rw [wp_s dd_50_35 rfl hs]; rfl
theorem dd_50_36 : decode (mB 50) 36 = .ok (.iadd, 1) := by decide +kernel
theorem u_50_36 {G : aG} {S : Nat → Bool} {f : Nat} {st : List Value} {ls : aL} {h : aH} {k n : Nat} {x y : Int32} (hs : S 36 = false) : WP 50 G S (f + 1) 36 ls (.int y :: .int x :: st) h k n = (WP 50 G S f 37 ls (.int (x + y) :: st) h k n) := by rw [wp_s dd_50_36 rfl hs]; rfl
theorem dd_50_37 : decode (mB 50) 37 = .ok (.putfield 29, 3) := by decide +kernel
theorem u_50_37 {G : aG} {S : Nat → Bool} {f : Nat} {st : List Value} {ls : aL} {h : aH} {k n : Nat} {a : Nat} {x : Int32} (hs : S 37 = false) : WP 50 G S (f + 1) 37 ls (.int x :: .ref a :: st) h k n = (oH (fput h a 1 9 (.int x)) (WP 50 G S f) 40 ls st k n) := by rw [wp_s dd_50_37 rfl hs]; rfl
theorem dd_50_40 : decode (mB 50) 40 = .ok (.aload_n 0, 1) := by decide +kernel
theorem u_50_40 {G : aG} {S : Nat → Bool} {f : Nat} {st : List Value} {ls : aL} {h : aH} {k n : Nat} (hs : S 40 = false) : WP 50 G S (f + 1) 40 ls st h k n = (oA (lget ls 0) (WP 50 G S f) 41 ls st h k n) := by rw [wp_s dd_50_40 rfl hs]; rfl
theorem dd_50_41 : decode (mB 50) 41 = .ok (.iconst 0, 1) := by decide +kernel
theorem u_50_41 {G : aG} {S : Nat → Bool} {f : Nat} {st : List Value} {ls : aL} {h : aH} {k n : Nat} (hs : S 41 = false) : WP 50 G S (f + 1) 41 ls st h k n = (WP 50 G S f 42 ls (.int (nI 0) :: st) h k n) := by rw [wp_s dd_50_41 rfl hs]; rfl
theorem dd_50_42 : decode (mB 50) 42 = .ok (.putfield 25, 3) := by decide +kernel
theorem u_50_42 {G : aG} {S : Nat → Bool} {f : Nat} {st : List Value} {ls : aL} {h : aH} {k n : Nat} {a : Nat} {x : Int32} (hs : S 42 = false) : WP 50 G S (f + 1) 42 ls (.int x :: .ref a :: st) h k n = (oH (fput h a 1 8 (.int x)) (WP 50 G S f) 45 ls st k n) := by rw [wp_s dd_50_42 rfl hs]; rfl
theorem dd_50_45 : decode (mB 50) 45 = .ok (.iconst 1, 1) := by decide +kernel
theorem u_50_45 {G : aG} {S : Nat → Bool} {f : Nat} {st : List Value} {ls : aL} {h : aH} {k n : Nat} (hs : S 45 = false) : WP 50 G S (f + 1) 45 ls st h k n = (WP 50 G S f 46 ls (.int (nI 1) :: st) h k n) := by rw [wp_s dd_50_45 rfl hs]; rfl
theorem dd_50_46 : decode (mB 50) 46 = .ok (.ireturn, 1) := by decide +kernel
theorem u_50_46 {G : aG} {S : Nat → Bool} {f : Nat} {ls : aL} {h : aH} {k n : Nat} {x : Int32} (hs : S 46 = false) : WP 50 G S (f + 1) 46 ls [.int x] h k n = (cond (x == nI 0 || x == nI 1) (RET G (some (.int x)) h k n) False) := by rw [wp_s dd_50_46 rfl hs]; rfl
theorem dd_76_0 : decode (mB 76) 0 = .ok (.aload_n 0, 1) := by decide +kernel
theorem u_76_0 {G : aG} {S : Nat → Bool} {f : Nat} {st : List Value} {ls : aL} {h : aH} {k n : Nat} (hs : S 0 = false) : WP 76 G S (f + 1) 0 ls st h k n = (oA (lget ls 0) (WP 76 G S f) 1 ls st h k n) := by rw [wp_s dd_76_0 rfl hs]; rfl
theorem dd_76_1 : decode (mB 76) 1 = .ok (.invokevirtual 18, 3) := by decide +kernel
theorem u_76_1 {G : aG} {S : Nat → Bool} {f : Nat} {st : List Value} {ls : aL} {h : aH} {k n : Nat} {b : Nat} (hs : S 1 = false) : WP 76 G S (f + 1) 1 ls (.ref b :: st) h k n = (rcv (hget h b) 0 ∧ CAL G (WP 76 G S f) 77 [.ref b] 4 ls st h k n) := by rw [wp_s dd_76_1 rfl hs]; rfl
theorem dd_76_4 : decode (mB 76) 4 = .ok (.iconst 0, 1) := by decide +kernel
theorem u_76_4 {G : aG} {S : Nat → Bool} {f : Nat} {st : List Value} {ls : aL} {h : aH} {k n : Nat} (hs : S 4 = false) : WP 76 G S (f + 1) 4 ls st h k n = (WP 76 G S f 5 ls (.int (nI 0) :: st) h k n) := by rw [wp_s dd_76_4 rfl hs]; rfl
theorem dd_76_5 : decode (mB 76) 5 = .ok (.istore_n 3, 1) := by decide +kernel
theorem u_76_5 {G : aG} {S : Nat → Bool} {f : Nat} {st : List Value} {ls : aL} {h : aH} {k n : Nat} {x : Int32} (hs : S 5 = false) : WP 76 G S (f + 1) 5 ls (.int x :: st) h k n = (WP 76 G S f 6 (lput1 ls 3 (.int x)) st h k n) := by rw [wp_s dd_76_5 rfl hs]; rfl
theorem dd_76_6 : decode (mB 76) 6 = .ok (.iload_n 3, 1) := by decide +kernel
theorem u_76_6 {G : aG} {S : Nat → Bool} {f : Nat} {st : List Value} {ls : aL} {h : aH} {k n : Nat} (hs : S 6 = false) : WP 76 G S (f + 1) 6 ls st h k n = (oI (lget ls 3) (WP 76 G S f) 7 ls st h k n) := by rw [wp_s dd_76_6 rfl hs]; rfl
theorem v_76_6 {G : aG} {S : Nat → Bool} {f : Nat} {st : List Value} {ls : aL} {h : aH} {k n : Nat} : WQ 76 G S f 6 ls st h k n = (oI (lget ls 3) (WP 76 G S f) 7 ls st h k n) := by rw [wq_s dd_76_6 rfl]; rfl
theorem dd_76_7 : decode (mB 76) 7 = .ok (.aload_n 1, 1) := by decide +kernel
theorem u_76_7 {G : aG} {S : Nat → Bool} {f : Nat} {st : List Value} {ls : aL} {h : aH} {k n : Nat} (hs : S 7 = false) : WP 76 G S (f + 1) 7 ls st h k n = (oA (lget ls 1) (WP 76 G S f) 8 ls st h k n) := by rw [wp_s dd_76_7 rfl hs]; rfl
theorem dd_76_8 : decode (mB 76) 8 = .ok (.getfield 21, 3) := by decide +kernel
theorem u_76_8 {G : aG} {S : Nat → Bool} {f : Nat} {st : List Value} {ls : aL} {h : aH} {k n : Nat} {a : Nat} (hs : S 8 = false) : WP 76 G S (f + 1) 8 ls (.ref a :: st) h k n = (oV (fget h a 8 1) (WP 76 G S f) 11 ls st h k n) := by rw [wp_s dd_76_8 rfl hs]; rfl
theorem dd_76_11 : decode (mB 76) 11 = .ok (.if_icmp .ge 103, 3) := by decide +kernel
theorem u_76_11 {G : aG} {S : Nat → Bool} {f : Nat} {st : List Value} {ls : aL} {h : aH} {k n : Nat} {x y : Int32} (hs : S 11 = false) : WP 76 G S (f + 1) 11 ls (.int y :: .int x :: st) h k n = (if y ≤ x then WP 76 G S f 114 ls st h k n else WP 76 G S f 14 ls st h k n) := by rw [wp_s dd_76_11 rfl hs]; exact br_ite (c := y ≤ x)
theorem dd_76_14 : decode (mB 76) 14 = .ok (.aload_n 1, 1) := by decide +kernel
theorem u_76_14 {G : aG} {S : Nat → Bool} {f : Nat} {st : List Value} {ls : aL} {h : aH} {k n : Nat} (hs : S 14 = false) : WP 76 G S (f + 1) 14 ls st h k n = (oA (lget ls 1) (WP 76 G S f) 15 ls st h k n) := by rw [wp_s dd_76_14 rfl hs]; rfl
theorem dd_76_15 : decode (mB 76) 15 = .ok (.iload_n 3, 1) := by decide +kernel
theorem u_76_15 {G : aG} {S : Nat → Bool} {f : Nat} {st : List Value} {ls : aL} {h : aH} {k n : Nat} (hs : S 15 = false) : WP 76 G S (f + 1) 15 ls st h k n = (oI (lget ls 3) (WP 76 G S f) 16 ls st h k n) := by rw [wp_s dd_76_15 rfl hs]; rfl
theorem dd_76_16 : decode (mB 76) 16 = .ok (.invokevirtual 27, 3) := by decide +kernel
theorem u_76_16 {G : aG} {S : Nat → Bool} {f : Nat} {st : List Value} {ls : aL} {h : aH} {k n : Nat} {v1 : Value} {b : Nat} (hs : S 16 = false) : WP 76 G S (f + 1) 16 ls (v1 :: .ref b :: st) h k n = (rcv (hget h b) 8 ∧ CAL G (WP 76 G S f) 38 [.ref b, v1] 19 ls st h k n) := by rw [wp_s dd_76_16 rfl hs]; rfl
theorem dd_76_19 : decode (mB 76) 19 = .ok (.istore 4, 2) := by decide +kernel
theorem u_76_19 {G : aG} {S : Nat → Bool} {f : Nat} {st : List Value} {ls : aL} {h : aH} {k n : Nat} {x : Int32} (hs : S 19 = false) : WP 76 G S (f + 1) 19 ls (.int x :: st) h k n = (WP 76 G S f 21 (lput1 ls 4 (.int x)) st h k n) := by rw [wp_s dd_76_19 rfl hs]; rfl
theorem dd_76_21 : decode (mB 76) 21 = .ok (.iload 4, 2) := by decide +kernel
theorem u_76_21 {G : aG} {S : Nat → Bool} {f : Nat} {st : List Value} {ls : aL} {h : aH} {k n : Nat} (hs : S 21 = false) : WP 76 G S (f + 1) 21 ls st h k n = (oI (lget ls 4) (WP 76 G S f) 23 ls st h k n) := by rw [wp_s dd_76_21 rfl hs]; rfl
theorem dd_76_23 : decode (mB 76) 23 = .ok (.invokestatic 31, 3) := by decide +kernel
theorem u_76_23 {G : aG} {S : Nat → Bool} {f : Nat} {st : List Value} {ls : aL} {h : aH} {k n : Nat} {v1 : Value} (hs : S 23 = false) : WP 76 G S (f + 1) 23 ls (v1 :: st) h k n = (CAL G (WP 76 G S f) 41 [v1] 26 ls st h k n) := by rw [wp_s dd_76_23 rfl hs]; rfl
theorem dd_76_26 : decode (mB 76) 26 = .ok (.istore 5, 2) := by decide +kernel
theorem u_76_26 {G : aG} {S : Nat → Bool} {f : Nat} {st : List Value} {ls : aL} {h : aH} {k n : Nat} {x : Int32} (hs : S 26 = false) : WP 76 G S (f + 1) 26 ls (.int x :: st) h k n = (WP 76 G S f 28 (lput1 ls 5 (.int x)) st h k n) := by rw [wp_s dd_76_26 rfl hs]; rfl
theorem dd_76_28 : decode (mB 76) 28 = .ok (.iload 5, 2) := by decide +kernel
theorem u_76_28 {G : aG} {S : Nat → Bool} {f : Nat} {st : List Value} {ls : aL} {h : aH} {k n : Nat} (hs : S 28 = false) : WP 76 G S (f + 1) 28 ls st h k n = (oI (lget ls 5) (WP 76 G S f) 30 ls st h k n) := by rw [wp_s dd_76_28 rfl hs]; rfl
theorem dd_76_30 : decode (mB 76) 30 = .ok (.iconst (-1), 1) := by decide +kernel
theorem u_76_30 {G : aG} {S : Nat → Bool} {f : Nat} {st : List Value} {ls : aL} {h : aH} {k n : Nat} (hs : S 30 = false) : WP 76 G S (f + 1) 30 ls st h k n = (WP 76 G S f 31 ls (.int (-1) :: st) h k n) := by rw [wp_s dd_76_30 rfl hs]; rfl
theorem dd_76_31 : decode (mB 76) 31 = .ok (.if_icmp .eq 14, 3) := by decide +kernel
theorem u_76_31 {G : aG} {S : Nat → Bool} {f : Nat} {st : List Value} {ls : aL} {h : aH} {k n : Nat} {x y : Int32} (hs : S 31 = false) : WP 76 G S (f + 1) 31 ls (.int y :: .int x :: st) h k n = (if x = y then WP 76 G S f 45 ls st h k n else WP 76 G S f 34 ls st h k n) := by rw [wp_s dd_76_31 rfl hs]; exact br_ite (c := x = y)
theorem dd_76_34 : decode (mB 76) 34 = .ok (.aload_n 0, 1) := by decide +kernel
theorem u_76_34 {G : aG} {S : Nat → Bool} {f : Nat} {st : List Value} {ls : aL} {h : aH} {k n : Nat} (hs : S 34 = false) : WP 76 G S (f + 1) 34 ls st h k n = (oA (lget ls 0) (WP 76 G S f) 35 ls st h k n) := by rw [wp_s dd_76_34 rfl hs]; rfl
theorem dd_76_35 : decode (mB 76) 35 = .ok (.aload_n 2, 1) := by decide +kernel
theorem u_76_35 {G : aG} {S : Nat → Bool} {f : Nat} {st : List Value} {ls : aL} {h : aH} {k n : Nat} (hs : S 35 = false) : WP 76 G S (f + 1) 35 ls st h k n = (oA (lget ls 2) (WP 76 G S f) 36 ls st h k n) := by rw [wp_s dd_76_35 rfl hs]; rfl
theorem dd_76_36 : decode (mB 76) 36 = .ok (.iload 5, 2) := by decide +kernel
theorem u_76_36 {G : aG} {S : Nat → Bool} {f : Nat} {st : List Value} {ls : aL} {h : aH} {k n : Nat} (hs : S 36 = false) : WP 76 G S (f + 1) 36 ls st h k n = (oI (lget ls 5) (WP 76 G S f) 38 ls st h k n) := by rw [wp_s dd_76_36 rfl hs]; rfl
theorem dd_76_38 : decode (mB 76) 38 = .ok (.iload_n 3, 1) := by decide +kernel
theorem u_76_38 {G : aG} {S : Nat → Bool} {f : Nat} {st : List Value} {ls : aL} {h : aH} {k n : Nat} (hs : S 38 = false) : WP 76 G S (f + 1) 38 ls st h k n = (oI (lget ls 3) (WP 76 G S f) 39 ls st h k n) := by rw [wp_s dd_76_38 rfl hs]; rfl
theorem dd_76_39 : decode (mB 76) 39 = .ok (.invokevirtual 34, 3) := by decide +kernel
theorem u_76_39 {G : aG} {S : Nat → Bool} {f : Nat} {st : List Value} {ls : aL} {h : aH} {k n : Nat} {v1 v2 v3 : Value} {b : Nat} (hs : S 39 = false) : WP 76 G S (f + 1) 39 ls (v3 :: v2 :: v1 :: .ref b :: st) h k n = (rcv (hget h b) 0 ∧ CAL G (WP 76 G S f) 78 [.ref b, v1, v2, v3] 42 ls st h k n) := by rw [wp_s dd_76_39 rfl hs]; rfl
theorem dd_76_42 : decode (mB 76) 42 = .ok (.goto 66, 3) := by decide +kernel
theorem u_76_42 {G : aG} {S : Nat → Bool} {f : Nat} {st : List Value} {ls : aL} {h : aH} {k n : Nat} (hs : S 42 = false) : WP 76 G S (f + 1) 42 ls st h k n = (WP 76 G S f 108 ls st h k n) := by rw [wp_s dd_76_42 rfl hs]; rfl
theorem dd_76_45 : decode (mB 76) 45 = .ok (.iload 4, 2) := by decide +kernel
theorem u_76_45 {G : aG} {S : Nat → Bool} {f : Nat} {st : List Value} {ls : aL} {h : aH} {k n : Nat} (hs : S 45 = false) : WP 76 G S (f + 1) 45 ls st h k n = (oI (lget ls 4) (WP 76 G S f) 47 ls st h k n) := by rw [wp_s dd_76_45 rfl hs]; rfl
theorem dd_76_47 : decode (mB 76) 47 = .ok (.bipush 40, 2) := by decide +kernel
theorem u_76_47 {G : aG} {S : Nat → Bool} {f : Nat} {st : List Value} {ls : aL} {h : aH} {k n : Nat} (hs : S 47 = false) : WP 76 G S (f + 1) 47 ls st h k n = (WP 76 G S f 49 ls (.int (nI 40) :: st) h k n) := by rw [wp_s dd_76_47 rfl hs]; rfl
theorem dd_76_49 : decode (mB 76) 49 = .ok (.if_icmp .ne 27, 3) := by decide +kernel
theorem u_76_49 {G : aG} {S : Nat → Bool} {f : Nat} {st : List Value} {ls : aL} {h : aH} {k n : Nat} {x y : Int32} (hs : S 49 = false) : WP 76 G S (f + 1) 49 ls (.int y :: .int x :: st) h k n = (if x = y then WP 76 G S f 52 ls st h k n else WP 76 G S f 76 ls st h k n) := by rw [wp_s dd_76_49 rfl hs]; exact br_iten (c := x = y)
theorem dd_76_52 : decode (mB 76) 52 = .ok (.aload_n 0, 1) := by decide +kernel
theorem u_76_52 {G : aG} {S : Nat → Bool} {f : Nat} {st : List Value} {ls : aL} {h : aH} {k n : Nat} (hs : S 52 = false) : WP 76 G S (f + 1) 52 ls st h k n = (oA (lget ls 0) (WP 76 G S f) 53 ls st h k n) := by rw [wp_s dd_76_52 rfl hs]; rfl
theorem dd_76_53 : decode (mB 76) 53 = .ok (.getfield 38, 3) := by decide +kernel
theorem u_76_53 {G : aG} {S : Nat → Bool} {f : Nat} {st : List Value} {ls : aL} {h : aH} {k n : Nat} {a : Nat} (hs : S 53 = false) : WP 76 G S (f + 1) 53 ls (.ref a :: st) h k n = (oV (fget h a 0 3) (WP 76 G S f) 56 ls st h k n) := by rw [wp_s dd_76_53 rfl hs]; rfl
theorem dd_76_56 : decode (mB 76) 56 = .ok (.iconst (-1), 1) := by decide +kernel
theorem u_76_56 {G : aG} {S : Nat → Bool} {f : Nat} {st : List Value} {ls : aL} {h : aH} {k n : Nat} (hs : S 56 = false) : WP 76 G S (f + 1) 56 ls st h k n = (WP 76 G S f 57 ls (.int (-1) :: st) h k n) := by rw [wp_s dd_76_56 rfl hs]; rfl
theorem dd_76_57 : decode (mB 76) 57 = .ok (.if_icmp .eq 19, 3) := by decide +kernel
theorem u_76_57 {G : aG} {S : Nat → Bool} {f : Nat} {st : List Value} {ls : aL} {h : aH} {k n : Nat} {x y : Int32} (hs : S 57 = false) : WP 76 G S (f + 1) 57 ls (.int y :: .int x :: st) h k n = (if x = y then WP 76 G S f 76 ls st h k n else WP 76 G S f 60 ls st h k n) := by rw [wp_s dd_76_57 rfl hs]; exact br_ite (c := x = y)
theorem dd_76_60 : decode (mB 76) 60 = .ok (.aload_n 0, 1) := by decide +kernel
theorem u_76_60 {G : aG} {S : Nat → Bool} {f : Nat} {st : List Value} {ls : aL} {h : aH} {k n : Nat} (hs : S 60 = false) : WP 76 G S (f + 1) 60 ls st h k n = (oA (lget ls 0) (WP 76 G S f) 61 ls st h k n) := by rw [wp_s dd_76_60 rfl hs]; rfl
theorem dd_76_61 : decode (mB 76) 61 = .ok (.getfield 41, 3) := by decide +kernel
theorem u_76_61 {G : aG} {S : Nat → Bool} {f : Nat} {st : List Value} {ls : aL} {h : aH} {k n : Nat} {a : Nat} (hs : S 61 = false) : WP 76 G S (f + 1) 61 ls (.ref a :: st) h k n = (oV (fget h a 0 2) (WP 76 G S f) 64 ls st h k n) := by rw [wp_s dd_76_61 rfl hs]; rfl
theorem dd_76_64 : decode (mB 76) 64 = .ok (.bipush 8, 2) := by decide +kernel
theorem u_76_64 {G : aG} {S : Nat → Bool} {f : Nat} {st : List Value} {ls : aL} {h : aH} {k n : Nat} (hs : S 64 = false) : WP 76 G S (f + 1) 64 ls st h k n = (WP 76 G S f 66 ls (.int (nI 8) :: st) h k n) := by rw [wp_s dd_76_64 rfl hs]; rfl
theorem dd_76_66 : decode (mB 76) 66 = .ok (.if_icmp .ge 10, 3) := by decide +kernel
theorem u_76_66 {G : aG} {S : Nat → Bool} {f : Nat} {st : List Value} {ls : aL} {h : aH} {k n : Nat} {x y : Int32} (hs : S 66 = false) : WP 76 G S (f + 1) 66 ls (.int y :: .int x :: st) h k n = (if y ≤ x then WP 76 G S f 76 ls st h k n else WP 76 G S f 69 ls st h k n) := by rw [wp_s dd_76_66 rfl hs]; exact br_ite (c := y ≤ x)
theorem dd_76_69 : decode (mB 76) 69 = .ok (.aload_n 0, 1) := by decide +kernel
theorem u_76_69 {G : aG} {S : Nat → Bool} {f : Nat} {st : List Value} {ls : aL} {h : aH} {k n : Nat} (hs : S 69 = false) : WP 76 G S (f + 1) 69 ls st h k n = (oA (lget ls 0) (WP 76 G S f) 70 ls st h k n) := by rw [wp_s dd_76_69 rfl hs]; rfl
theorem dd_76_70 : decode (mB 76) 70 = .ok (.invokevirtual 44, 3) := by decide +kernel
theorem u_76_70 {G : aG} {S : Nat → Bool} {f : Nat} {st : List Value} {ls : aL} {h : aH} {k n : Nat} {b : Nat} (hs : S 70 = false) : WP 76 G S (f + 1) 70 ls (.ref b :: st) h k n = (rcv (hget h b) 0 ∧ CAL G (WP 76 G S f) 82 [.ref b] 73 ls st h k n) := by rw [wp_s dd_76_70 rfl hs]; rfl
theorem dd_76_73 : decode (mB 76) 73 = .ok (.goto 35, 3) := by decide +kernel
theorem u_76_73 {G : aG} {S : Nat → Bool} {f : Nat} {st : List Value} {ls : aL} {h : aH} {k n : Nat} (hs : S 73 = false) : WP 76 G S (f + 1) 73 ls st h k n = (WP 76 G S f 108 ls st h k n) := by rw [wp_s dd_76_73 rfl hs]; rfl
theorem dd_76_76 : decode (mB 76) 76 = .ok (.iload 4, 2) := by decide +kernel
theorem u_76_76 {G : aG} {S : Nat → Bool} {f : Nat} {st : List Value} {ls : aL} {h : aH} {k n : Nat} (hs : S 76 = false) : WP 76 G S (f + 1) 76 ls st h k n = (oI (lget ls 4) (WP 76 G S f) 78 ls st h k n) := by rw [wp_s dd_76_76 rfl hs]; rfl
theorem dd_76_78 : decode (mB 76) 78 = .ok (.bipush 41, 2) := by decide +kernel
theorem u_76_78 {G : aG} {S : Nat → Bool} {f : Nat} {st : List Value} {ls : aL} {h : aH} {k n : Nat} (hs : S 78 = false) : WP 76 G S (f + 1) 78 ls st h k n = (WP 76 G S f 80 ls (.int (nI 41) :: st) h k n) := by rw [wp_s dd_76_78 rfl hs]; rfl
theorem dd_76_80 : decode (mB 76) 80 = .ok (.if_icmp .ne 19, 3) := by decide +kernel
theorem u_76_80 {G : aG} {S : Nat → Bool} {f : Nat} {st : List Value} {ls : aL} {h : aH} {k n : Nat} {x y : Int32} (hs : S 80 = false) : WP 76 G S (f + 1) 80 ls (.int y :: .int x :: st) h k n = (if x = y then WP 76 G S f 83 ls st h k n else WP 76 G S f 99 ls st h k n) := by rw [wp_s dd_76_80 rfl hs]; exact br_iten (c := x = y)
theorem dd_76_83 : decode (mB 76) 83 = .ok (.aload_n 0, 1) := by decide +kernel
theorem u_76_83 {G : aG} {S : Nat → Bool} {f : Nat} {st : List Value} {ls : aL} {h : aH} {k n : Nat} (hs : S 83 = false) : WP 76 G S (f + 1) 83 ls st h k n = (oA (lget ls 0) (WP 76 G S f) 84 ls st h k n) := by rw [wp_s dd_76_83 rfl hs]; rfl
theorem dd_76_84 : decode (mB 76) 84 = .ok (.getfield 41, 3) := by decide +kernel
theorem u_76_84 {G : aG} {S : Nat → Bool} {f : Nat} {st : List Value} {ls : aL} {h : aH} {k n : Nat} {a : Nat} (hs : S 84 = false) : WP 76 G S (f + 1) 84 ls (.ref a :: st) h k n = (oV (fget h a 0 2) (WP 76 G S f) 87 ls st h k n) := by rw [wp_s dd_76_84 rfl hs]; rfl
theorem dd_76_87 : decode (mB 76) 87 = .ok (.ifCond .le 12, 3) := by decide +kernel
theorem u_76_87 {G : aG} {S : Nat → Bool} {f : Nat} {st : List Value} {ls : aL} {h : aH} {k n : Nat} {x : Int32} (hs : S 87 = false) : WP 76 G S (f + 1) 87 ls (.int x :: st) h k n = (if x ≤ nI 0 then WP 76 G S f 99 ls st h k n else WP 76 G S f 90 ls st h k n) := by rw [wp_s dd_76_87 rfl hs]; exact br_ite (c := x ≤ nI 0)
theorem dd_76_90 : decode (mB 76) 90 = .ok (.aload_n 0, 1) := by decide +kernel
theorem u_76_90 {G : aG} {S : Nat → Bool} {f : Nat} {st : List Value} {ls : aL} {h : aH} {k n : Nat} (hs : S 90 = false) : WP 76 G S (f + 1) 90 ls st h k n = (oA (lget ls 0) (WP 76 G S f) 91 ls st h k n) := by rw [wp_s dd_76_90 rfl hs]; rfl
theorem dd_76_91 : decode (mB 76) 91 = .ok (.aload_n 2, 1) := by decide +kernel
theorem u_76_91 {G : aG} {S : Nat → Bool} {f : Nat} {st : List Value} {ls : aL} {h : aH} {k n : Nat} (hs : S 91 = false) : WP 76 G S (f + 1) 91 ls st h k n = (oA (lget ls 2) (WP 76 G S f) 92 ls st h k n) := by rw [wp_s dd_76_91 rfl hs]; rfl
theorem dd_76_92 : decode (mB 76) 92 = .ok (.iload_n 3, 1) := by decide +kernel
theorem u_76_92 {G : aG} {S : Nat → Bool} {f : Nat} {st : List Value} {ls : aL} {h : aH} {k n : Nat} (hs : S 92 = false) : WP 76 G S (f + 1) 92 ls st h k n = (oI (lget ls 3) (WP 76 G S f) 93 ls st h k n) := by rw [wp_s dd_76_92 rfl hs]; rfl
theorem dd_76_93 : decode (mB 76) 93 = .ok (.invokevirtual 47, 3) := by decide +kernel
theorem u_76_93 {G : aG} {S : Nat → Bool} {f : Nat} {st : List Value} {ls : aL} {h : aH} {k n : Nat} {v1 v2 : Value} {b : Nat} (hs : S 93 = false) : WP 76 G S (f + 1) 93 ls (v2 :: v1 :: .ref b :: st) h k n = (rcv (hget h b) 0 ∧ CAL G (WP 76 G S f) 83 [.ref b, v1, v2] 96 ls st h k n) := by rw [wp_s dd_76_93 rfl hs]; rfl
theorem dd_76_96 : decode (mB 76) 96 = .ok (.goto 12, 3) := by decide +kernel
theorem u_76_96 {G : aG} {S : Nat → Bool} {f : Nat} {st : List Value} {ls : aL} {h : aH} {k n : Nat} (hs : S 96 = false) : WP 76 G S (f + 1) 96 ls st h k n = (WP 76 G S f 108 ls st h k n) := by rw [wp_s dd_76_96 rfl hs]; rfl
theorem dd_76_99 : decode (mB 76) 99 = .ok (.iload 4, 2) := by decide +kernel
theorem u_76_99 {G : aG} {S : Nat → Bool} {f : Nat} {st : List Value} {ls : aL} {h : aH} {k n : Nat} (hs : S 99 = false) : WP 76 G S (f + 1) 99 ls st h k n = (oI (lget ls 4) (WP 76 G S f) 101 ls st h k n) := by rw [wp_s dd_76_99 rfl hs]; rfl
theorem dd_76_101 : decode (mB 76) 101 = .ok (.bipush 32, 2) := by decide +kernel
theorem u_76_101 {G : aG} {S : Nat → Bool} {f : Nat} {st : List Value} {ls : aL} {h : aH} {k n : Nat} (hs : S 101 = false) : WP 76 G S (f + 1) 101 ls st h k n = (WP 76 G S f 103 ls (.int (nI 32) :: st) h k n) := by rw [wp_s dd_76_101 rfl hs]; rfl
theorem dd_76_103 : decode (mB 76) 103 = .ok (.if_icmp .eq 5, 3) := by decide +kernel
theorem u_76_103 {G : aG} {S : Nat → Bool} {f : Nat} {st : List Value} {ls : aL} {h : aH} {k n : Nat} {x y : Int32} (hs : S 103 = false) : WP 76 G S (f + 1) 103 ls (.int y :: .int x :: st) h k n = (if x = y then WP 76 G S f 108 ls st h k n else WP 76 G S f 106 ls st h k n) := by rw [wp_s dd_76_103 rfl hs]; exact br_ite (c := x = y)
theorem dd_76_106 : decode (mB 76) 106 = .ok (.iload_n 3, 1) := by decide +kernel
theorem u_76_106 {G : aG} {S : Nat → Bool} {f : Nat} {st : List Value} {ls : aL} {h : aH} {k n : Nat} (hs : S 106 = false) : WP 76 G S (f + 1) 106 ls st h k n = (oI (lget ls 3) (WP 76 G S f) 107 ls st h k n) := by rw [wp_s dd_76_106 rfl hs]; rfl
theorem dd_76_107 : decode (mB 76) 107 = .ok (.ireturn, 1) := by decide +kernel
theorem u_76_107 {G : aG} {S : Nat → Bool} {f : Nat} {ls : aL} {h : aH} {k n : Nat} {x : Int32} (hs : S 107 = false) : WP 76 G S (f + 1) 107 ls [.int x] h k n = (RET G (some (.int x)) h k n) := by rw [wp_s dd_76_107 rfl hs]; rfl
theorem dd_76_108 : decode (mB 76) 108 = .ok (.iinc 3 1, 3) := by decide +kernel
theorem u_76_108 {G : aG} {S : Nat → Bool} {f : Nat} {st : List Value} {ls : aL} {h : aH} {k n : Nat} (hs : S 108 = false) : WP 76 G S (f + 1) 108 ls st h k n = (oInc (lget ls 3) (nI 1) (WP 76 G S f) 3 111 ls st h k n) := by rw [wp_s dd_76_108 rfl hs]; rfl
theorem dd_76_111 : decode (mB 76) 111 = .ok (.goto (-105), 3) := by decide +kernel
theorem u_76_111 {G : aG} {S : Nat → Bool} {f : Nat} {st : List Value} {ls : aL} {h : aH} {k n : Nat} (hs : S 111 = false) : WP 76 G S (f + 1) 111 ls st h k n = (WP 76 G S f 6 ls st h k n) := by rw [wp_s dd_76_111 rfl hs]; rfl
theorem dd_76_114 : decode (mB 76) 114 = .ok (.aload_n 0, 1) := by decide +kernel
theorem u_76_114 {G : aG} {S : Nat → Bool} {f : Nat} {st : List Value} {ls : aL} {h : aH} {k n : Nat} (hs : S 114 = false) : WP 76 G S (f + 1) 114 ls st h k n = (oA (lget ls 0) (WP 76 G S f) 115 ls st h k n) := by rw [wp_s dd_76_114 rfl hs]; rfl
theorem dd_76_115 : decode (mB 76) 115 = .ok (.getfield 41, 3) := by decide +kernel
theorem u_76_115 {G : aG} {S : Nat → Bool} {f : Nat} {st : List Value} {ls : aL} {h : aH} {k n : Nat} {a : Nat} (hs : S 115 = false) : WP 76 G S (f + 1) 115 ls (.ref a :: st) h k n = (oV (fget h a 0 2) (WP 76 G S f) 118 ls st h k n) := by rw [wp_s dd_76_115 rfl hs]; rfl
theorem dd_76_118 : decode (mB 76) 118 = .ok (.ifCond .le 8, 3) := by decide +kernel
theorem u_76_118 {G : aG} {S : Nat → Bool} {f : Nat} {st : List Value} {ls : aL} {h : aH} {k n : Nat} {x : Int32} (hs : S 118 = false) : WP 76 G S (f + 1) 118 ls (.int x :: st) h k n = (if x ≤ nI 0 then WP 76 G S f 126 ls st h k n else WP 76 G S f 121 ls st h k n) := by rw [wp_s dd_76_118 rfl hs]; exact br_ite (c := x ≤ nI 0)
theorem dd_76_121 : decode (mB 76) 121 = .ok (.aload_n 1, 1) := by decide +kernel
theorem u_76_121 {G : aG} {S : Nat → Bool} {f : Nat} {st : List Value} {ls : aL} {h : aH} {k n : Nat} (hs : S 121 = false) : WP 76 G S (f + 1) 121 ls st h k n = (oA (lget ls 1) (WP 76 G S f) 122 ls st h k n) := by rw [wp_s dd_76_121 rfl hs]; rfl
theorem dd_76_122 : decode (mB 76) 122 = .ok (.getfield 21, 3) := by decide +kernel
theorem u_76_122 {G : aG} {S : Nat → Bool} {f : Nat} {st : List Value} {ls : aL} {h : aH} {k n : Nat} {a : Nat} (hs : S 122 = false) : WP 76 G S (f + 1) 122 ls (.ref a :: st) h k n = (oV (fget h a 8 1) (WP 76 G S f) 125 ls st h k n) := by rw [wp_s dd_76_122 rfl hs]; rfl
theorem dd_76_125 : decode (mB 76) 125 = .ok (.ireturn, 1) := by decide +kernel
theorem u_76_125 {G : aG} {S : Nat → Bool} {f : Nat} {ls : aL} {h : aH} {k n : Nat} {x : Int32} (hs : S 125 = false) : WP 76 G S (f + 1) 125 ls [.int x] h k n = (RET G (some (.int x)) h k n) := by rw [wp_s dd_76_125 rfl hs]; rfl
theorem dd_76_126 : decode (mB 76) 126 = .ok (.aload_n 0, 1) := by decide +kernel
theorem u_76_126 {G : aG} {S : Nat → Bool} {f : Nat} {st : List Value} {ls : aL} {h : aH} {k n : Nat} (hs : S 126 = false) : WP 76 G S (f + 1) 126 ls st h k n = (oA (lget ls 0) (WP 76 G S f) 127 ls st h k n) := by rw [wp_s dd_76_126 rfl hs]; rfl
theorem dd_76_127 : decode (mB 76) 127 = .ok (.aload_n 2, 1) := by decide +kernel
theorem u_76_127 {G : aG} {S : Nat → Bool} {f : Nat} {st : List Value} {ls : aL} {h : aH} {k n : Nat} (hs : S 127 = false) : WP 76 G S (f + 1) 127 ls st h k n = (oA (lget ls 2) (WP 76 G S f) 128 ls st h k n) := by rw [wp_s dd_76_127 rfl hs]; rfl
theorem dd_76_128 : decode (mB 76) 128 = .ok (.aload_n 1, 1) := by decide +kernel
theorem u_76_128 {G : aG} {S : Nat → Bool} {f : Nat} {st : List Value} {ls : aL} {h : aH} {k n : Nat} (hs : S 128 = false) : WP 76 G S (f + 1) 128 ls st h k n = (oA (lget ls 1) (WP 76 G S f) 129 ls st h k n) := by rw [wp_s dd_76_128 rfl hs]; rfl
theorem dd_76_129 : decode (mB 76) 129 = .ok (.getfield 21, 3) := by decide +kernel
theorem u_76_129 {G : aG} {S : Nat → Bool} {f : Nat} {st : List Value} {ls : aL} {h : aH} {k n : Nat} {a : Nat} (hs : S 129 = false) : WP 76 G S (f + 1) 129 ls (.ref a :: st) h k n = (oV (fget h a 8 1) (WP 76 G S f) 132 ls st h k n) := by rw [wp_s dd_76_129 rfl hs]; rfl
theorem dd_76_132 : decode (mB 76) 132 = .ok (.invokevirtual 51, 3) := by decide +kernel
theorem u_76_132 {G : aG} {S : Nat → Bool} {f : Nat} {st : List Value} {ls : aL} {h : aH} {k n : Nat} {v1 v2 : Value} {b : Nat} (hs : S 132 = false) : WP 76 G S (f + 1) 132 ls (v2 :: v1 :: .ref b :: st) h k n = (rcv (hget h b) 0 ∧ CAL G (WP 76 G S f) 79 [.ref b, v1, v2] 135 ls st h k n) := by rw [wp_s dd_76_132 rfl hs]; rfl
theorem dd_76_135 : decode (mB 76) 135 = .ok (.aload_n 0, 1) := by decide +kernel
theorem u_76_135 {G : aG} {S : Nat → Bool} {f : Nat} {st : List Value} {ls : aL} {h : aH} {k n : Nat} (hs : S 135 = false) : WP 76 G S (f + 1) 135 ls st h k n = (oA (lget ls 0) (WP 76 G S f) 136 ls st h k n) := by rw [wp_s dd_76_135 rfl hs]; rfl
theorem dd_76_136 : decode (mB 76) 136 = .ok (.aload_n 2, 1) := by decide +kernel
theorem u_76_136 {G : aG} {S : Nat → Bool} {f : Nat} {st : List Value} {ls : aL} {h : aH} {k n : Nat} (hs : S 136 = false) : WP 76 G S (f + 1) 136 ls st h k n = (oA (lget ls 2) (WP 76 G S f) 137 ls st h k n) := by rw [wp_s dd_76_136 rfl hs]; rfl
theorem dd_76_137 : decode (mB 76) 137 = .ok (.aload_n 1, 1) := by decide +kernel
theorem u_76_137 {G : aG} {S : Nat → Bool} {f : Nat} {st : List Value} {ls : aL} {h : aH} {k n : Nat} (hs : S 137 = false) : WP 76 G S (f + 1) 137 ls st h k n = (oA (lget ls 1) (WP 76 G S f) 138 ls st h k n) := by rw [wp_s dd_76_137 rfl hs]; rfl
theorem dd_76_138 : decode (mB 76) 138 = .ok (.getfield 21, 3) := by decide +kernel
theorem u_76_138 {G : aG} {S : Nat → Bool} {f : Nat} {st : List Value} {ls : aL} {h : aH} {k n : Nat} {a : Nat} (hs : S 138 = false) : WP 76 G S (f + 1) 138 ls (.ref a :: st) h k n = (oV (fget h a 8 1) (WP 76 G S f) 141 ls st h k n) := by rw [wp_s dd_76_138 rfl hs]; rfl
theorem dd_76_141 : decode (mB 76) 141 = .ok (.invokevirtual 54, 3) := by decide +kernel
theorem u_76_141 {G : aG} {S : Nat → Bool} {f : Nat} {st : List Value} {ls : aL} {h : aH} {k n : Nat} {v1 v2 : Value} {b : Nat} (hs : S 141 = false) : WP 76 G S (f + 1) 141 ls (v2 :: v1 :: .ref b :: st) h k n = (rcv (hget h b) 0 ∧ CAL G (WP 76 G S f) 84 [.ref b, v1, v2] 144 ls st h k n) := by rw [wp_s dd_76_141 rfl hs]; rfl
theorem dd_76_144 : decode (mB 76) 144 = .ok (.iconst (-1), 1) := by decide +kernel
theorem u_76_144 {G : aG} {S : Nat → Bool} {f : Nat} {st : List Value} {ls : aL} {h : aH} {k n : Nat} (hs : S 144 = false) : WP 76 G S (f + 1) 144 ls st h k n = (WP 76 G S f 145 ls (.int (-1) :: st) h k n) := by rw [wp_s dd_76_144 rfl hs]; rfl
theorem dd_76_145 : decode (mB 76) 145 = .ok (.ireturn, 1) := by decide +kernel
theorem u_76_145 {G : aG} {S : Nat → Bool} {f : Nat} {ls : aL} {h : aH} {k n : Nat} {x : Int32} (hs : S 145 = false) : WP 76 G S (f + 1) 145 ls [.int x] h k n = (RET G (some (.int x)) h k n) := by rw [wp_s dd_76_145 rfl hs]; rfl
theorem dd_77_0 : decode (mB 77) 0 = .ok (.aload_n 0, 1) := by decide +kernel
theorem u_77_0 {G : aG} {S : Nat → Bool} {f : Nat} {st : List Value} {ls : aL} {h : aH} {k n : Nat} (hs : S 0 = false) : WP 77 G S (f + 1) 0 ls st h k n = (oA (lget ls 0) (WP 77 G S f) 1 ls st h k n) := by rw [wp_s dd_77_0 rfl hs]; rfl
theorem dd_77_1 : decode (mB 77) 1 = .ok (.iconst 0, 1) := by decide +kernel
theorem u_77_1 {G : aG} {S : Nat → Bool} {f : Nat} {st : List Value} {ls : aL} {h : aH} {k n : Nat} (hs : S 1 = false) : WP 77 G S (f + 1) 1 ls st h k n = (WP 77 G S f 2 ls (.int (nI 0) :: st) h k n) := by rw [wp_s dd_77_1 rfl hs]; rfl
theorem dd_77_2 : decode (mB 77) 2 = .ok (.putfield 41, 3) := by decide +kernel
theorem u_77_2 {G : aG} {S : Nat → Bool} {f : Nat} {st : List Value} {ls : aL} {h : aH} {k n : Nat} {a : Nat} {x : Int32} (hs : S 2 = false) : WP 77 G S (f + 1) 2 ls (.int x :: .ref a :: st) h k n = (oH (fput h a 0 2 (.int x)) (WP 77 G S f) 5 ls st k n) := by rw [wp_s dd_77_2 rfl hs]; rfl
theorem dd_77_5 : decode (mB 77) 5 = .ok (.aload_n 0, 1) := by decide +kernel
theorem u_77_5 {G : aG} {S : Nat → Bool} {f : Nat} {st : List Value} {ls : aL} {h : aH} {k n : Nat} (hs : S 5 = false) : WP 77 G S (f + 1) 5 ls st h k n = (oA (lget ls 0) (WP 77 G S f) 6 ls st h k n) := by rw [wp_s dd_77_5 rfl hs]; rfl
theorem dd_77_6 : decode (mB 77) 6 = .ok (.getfield 9, 3) := by decide +kernel
theorem u_77_6 {G : aG} {S : Nat → Bool} {f : Nat} {st : List Value} {ls : aL} {h : aH} {k n : Nat} {a : Nat} (hs : S 6 = false) : WP 77 G S (f + 1) 6 ls (.ref a :: st) h k n = (oV (fget h a 0 0) (WP 77 G S f) 9 ls st h k n) := by rw [wp_s dd_77_6 rfl hs]; rfl
theorem dd_77_9 : decode (mB 77) 9 = .ok (.iconst 0, 1) := by decide +kernel
theorem u_77_9 {G : aG} {S : Nat → Bool} {f : Nat} {st : List Value} {ls : aL} {h : aH} {k n : Nat} (hs : S 9 = false) : WP 77 G S (f + 1) 9 ls st h k n = (WP 77 G S f 10 ls (.int (nI 0) :: st) h k n) := by rw [wp_s dd_77_9 rfl hs]; rfl
theorem dd_77_10 : decode (mB 77) 10 = .ok (.bipush 8, 2) := by decide +kernel
theorem u_77_10 {G : aG} {S : Nat → Bool} {f : Nat} {st : List Value} {ls : aL} {h : aH} {k n : Nat} (hs : S 10 = false) : WP 77 G S (f + 1) 10 ls st h k n = (WP 77 G S f 12 ls (.int (nI 8) :: st) h k n) := by rw [wp_s dd_77_10 rfl hs]; rfl
theorem dd_77_12 : decode (mB 77) 12 = .ok (.iastore, 1) := by decide +kernel
theorem u_77_12 {G : aG} {S : Nat → Bool} {f : Nat} {st : List Value} {ls : aL} {h : aH} {k n : Nat} {i x : Int32} {a : Nat} (hs : S 12 = false) : WP 77 G S (f + 1) 12 ls (.int x :: .int i :: .ref a :: st) h k n = (oIst (iget h a 1) a i x (WP 77 G S f) 13 ls st h k n) := by rw [wp_s dd_77_12 rfl hs]; rfl
theorem dd_77_13 : decode (mB 77) 13 = .ok (.aload_n 0, 1) := by decide +kernel
theorem u_77_13 {G : aG} {S : Nat → Bool} {f : Nat} {st : List Value} {ls : aL} {h : aH} {k n : Nat} (hs : S 13 = false) : WP 77 G S (f + 1) 13 ls st h k n = (oA (lget ls 0) (WP 77 G S f) 14 ls st h k n) := by rw [wp_s dd_77_13 rfl hs]; rfl
theorem dd_77_14 : decode (mB 77) 14 = .ok (.getfield 15, 3) := by decide +kernel
theorem u_77_14 {G : aG} {S : Nat → Bool} {f : Nat} {st : List Value} {ls : aL} {h : aH} {k n : Nat} {a : Nat} (hs : S 14 = false) : WP 77 G S (f + 1) 14 ls (.ref a :: st) h k n = (oV (fget h a 0 1) (WP 77 G S f) 17 ls st h k n) := by rw [wp_s dd_77_14 rfl hs]; rfl
theorem dd_77_17 : decode (mB 77) 17 = .ok (.iconst 0, 1) := by decide +kernel
theorem u_77_17 {G : aG} {S : Nat → Bool} {f : Nat} {st : List Value} {ls : aL} {h : aH} {k n : Nat} (hs : S 17 = false) : WP 77 G S (f + 1) 17 ls st h k n = (WP 77 G S f 18 ls (.int (nI 0) :: st) h k n) := by rw [wp_s dd_77_17 rfl hs]; rfl
theorem dd_77_18 : decode (mB 77) 18 = .ok (.iconst 0, 1) := by decide +kernel
theorem u_77_18 {G : aG} {S : Nat → Bool} {f : Nat} {st : List Value} {ls : aL} {h : aH} {k n : Nat} (hs : S 18 = false) : WP 77 G S (f + 1) 18 ls st h k n = (WP 77 G S f 19 ls (.int (nI 0) :: st) h k n) := by rw [wp_s dd_77_18 rfl hs]; rfl
theorem dd_77_19 : decode (mB 77) 19 = .ok (.iastore, 1) := by decide +kernel
theorem u_77_19 {G : aG} {S : Nat → Bool} {f : Nat} {st : List Value} {ls : aL} {h : aH} {k n : Nat} {i x : Int32} {a : Nat} (hs : S 19 = false) : WP 77 G S (f + 1) 19 ls (.int x :: .int i :: .ref a :: st) h k n = (oIst (iget h a 1) a i x (WP 77 G S f) 20 ls st h k n) := by rw [wp_s dd_77_19 rfl hs]; rfl
theorem dd_77_20 : decode (mB 77) 20 = .ok (.aload_n 0, 1) := by decide +kernel
theorem u_77_20 {G : aG} {S : Nat → Bool} {f : Nat} {st : List Value} {ls : aL} {h : aH} {k n : Nat} (hs : S 20 = false) : WP 77 G S (f + 1) 20 ls st h k n = (oA (lget ls 0) (WP 77 G S f) 21 ls st h k n) := by rw [wp_s dd_77_20 rfl hs]; rfl
theorem dd_77_21 : decode (mB 77) 21 = .ok (.iconst (-1), 1) := by decide +kernel
theorem u_77_21 {G : aG} {S : Nat → Bool} {f : Nat} {st : List Value} {ls : aL} {h : aH} {k n : Nat} (hs : S 21 = false) : WP 77 G S (f + 1) 21 ls st h k n = (WP 77 G S f 22 ls (.int (-1) :: st) h k n) := by rw [wp_s dd_77_21 rfl hs]; rfl
theorem dd_77_22 : decode (mB 77) 22 = .ok (.putfield 38, 3) := by decide +kernel
theorem u_77_22 {G : aG} {S : Nat → Bool} {f : Nat} {st : List Value} {ls : aL} {h : aH} {k n : Nat} {a : Nat} {x : Int32} (hs : S 22 = false) : WP 77 G S (f + 1) 22 ls (.int x :: .ref a :: st) h k n = (oH (fput h a 0 3 (.int x)) (WP 77 G S f) 25 ls st k n) := by rw [wp_s dd_77_22 rfl hs]; rfl
theorem dd_77_25 : decode (mB 77) 25 = .ok (.aload_n 0, 1) := by decide +kernel
theorem u_77_25 {G : aG} {S : Nat → Bool} {f : Nat} {st : List Value} {ls : aL} {h : aH} {k n : Nat} (hs : S 25 = false) : WP 77 G S (f + 1) 25 ls st h k n = (oA (lget ls 0) (WP 77 G S f) 26 ls st h k n) := by rw [wp_s dd_77_25 rfl hs]; rfl
theorem dd_77_26 : decode (mB 77) 26 = .ok (.iconst (-1), 1) := by decide +kernel
theorem u_77_26 {G : aG} {S : Nat → Bool} {f : Nat} {st : List Value} {ls : aL} {h : aH} {k n : Nat} (hs : S 26 = false) : WP 77 G S (f + 1) 26 ls st h k n = (WP 77 G S f 27 ls (.int (-1) :: st) h k n) := by rw [wp_s dd_77_26 rfl hs]; rfl
theorem dd_77_27 : decode (mB 77) 27 = .ok (.putfield 60, 3) := by decide +kernel
theorem u_77_27 {G : aG} {S : Nat → Bool} {f : Nat} {st : List Value} {ls : aL} {h : aH} {k n : Nat} {a : Nat} {x : Int32} (hs : S 27 = false) : WP 77 G S (f + 1) 27 ls (.int x :: .ref a :: st) h k n = (oH (fput h a 0 4 (.int x)) (WP 77 G S f) 30 ls st k n) := by rw [wp_s dd_77_27 rfl hs]; rfl
theorem dd_77_30 : decode (mB 77) 30 = .ok (.aload_n 0, 1) := by decide +kernel
theorem u_77_30 {G : aG} {S : Nat → Bool} {f : Nat} {st : List Value} {ls : aL} {h : aH} {k n : Nat} (hs : S 30 = false) : WP 77 G S (f + 1) 30 ls st h k n = (oA (lget ls 0) (WP 77 G S f) 31 ls st h k n) := by rw [wp_s dd_77_30 rfl hs]; rfl
theorem dd_77_31 : decode (mB 77) 31 = .ok (.iconst 0, 1) := by decide +kernel
theorem u_77_31 {G : aG} {S : Nat → Bool} {f : Nat} {st : List Value} {ls : aL} {h : aH} {k n : Nat} (hs : S 31 = false) : WP 77 G S (f + 1) 31 ls st h k n = (WP 77 G S f 32 ls (.int (nI 0) :: st) h k n) := by rw [wp_s dd_77_31 rfl hs]; rfl
theorem dd_77_32 : decode (mB 77) 32 = .ok (.putfield 68, 3) := by decide +kernel
theorem u_77_32 {G : aG} {S : Nat → Bool} {f : Nat} {st : List Value} {ls : aL} {h : aH} {k n : Nat} {a : Nat} {x : Int32} (hs : S 32 = false) : WP 77 G S (f + 1) 32 ls (.int x :: .ref a :: st) h k n = (oH (fput h a 0 5 (.int x)) (WP 77 G S f) 35 ls st k n) := by rw [wp_s dd_77_32 rfl hs]; rfl
theorem dd_77_35 : decode (mB 77) 35 = .ok (.aload_n 0, 1) := by decide +kernel
theorem u_77_35 {G : aG} {S : Nat → Bool} {f : Nat} {st : List Value} {ls : aL} {h : aH} {k n : Nat} (hs : S 35 = false) : WP 77 G S (f + 1) 35 ls st h k n = (oA (lget ls 0) (WP 77 G S f) 36 ls st h k n) := by rw [wp_s dd_77_35 rfl hs]; rfl
theorem dd_77_36 : decode (mB 77) 36 = .ok (.iconst 1, 1) := by decide +kernel
theorem u_77_36 {G : aG} {S : Nat → Bool} {f : Nat} {st : List Value} {ls : aL} {h : aH} {k n : Nat} (hs : S 36 = false) : WP 77 G S (f + 1) 36 ls st h k n = (WP 77 G S f 37 ls (.int (nI 1) :: st) h k n) := by rw [wp_s dd_77_36 rfl hs]; rfl
theorem dd_77_37 : decode (mB 77) 37 = .ok (.putfield 71, 3) := by decide +kernel
theorem u_77_37 {G : aG} {S : Nat → Bool} {f : Nat} {st : List Value} {ls : aL} {h : aH} {k n : Nat} {a : Nat} {x : Int32} (hs : S 37 = false) : WP 77 G S (f + 1) 37 ls (.int x :: .ref a :: st) h k n = (cond ((x == nI 0 || x == nI 1) && true) (oH (fput h a 0 6 (.int x)) (WP 77 G S f) 40 ls st k n) False) := by rw [wp_s dd_77_37 rfl hs]; rfl
theorem dd_77_40 : decode (mB 77) 40 = .ok (.aload_n 0, 1) := by decide +kernel
theorem u_77_40 {G : aG} {S : Nat → Bool} {f : Nat} {st : List Value} {ls : aL} {h : aH} {k n : Nat} (hs : S 40 = false) : WP 77 G S (f + 1) 40 ls st h k n = (oA (lget ls 0) (WP 77 G S f) 41 ls st h k n) := by rw [wp_s dd_77_40 rfl hs]; rfl
theorem dd_77_41 : decode (mB 77) 41 = .ok (.iconst 0, 1) := by decide +kernel
theorem u_77_41 {G : aG} {S : Nat → Bool} {f : Nat} {st : List Value} {ls : aL} {h : aH} {k n : Nat} (hs : S 41 = false) : WP 77 G S (f + 1) 41 ls st h k n = (WP 77 G S f 42 ls (.int (nI 0) :: st) h k n) := by rw [wp_s dd_77_41 rfl hs]; rfl
theorem dd_77_42 : decode (mB 77) 42 = .ok (.putfield 57, 3) := by decide +kernel
theorem u_77_42 {G : aG} {S : Nat → Bool} {f : Nat} {st : List Value} {ls : aL} {h : aH} {k n : Nat} {a : Nat} {x : Int32} (hs : S 42 = false) : WP 77 G S (f + 1) 42 ls (.int x :: .ref a :: st) h k n = (oH (fput h a 0 7 (.int x)) (WP 77 G S f) 45 ls st k n) := by rw [wp_s dd_77_42 rfl hs]; rfl
theorem dd_77_45 : decode (mB 77) 45 = .ok (.aload_n 0, 1) := by decide +kernel
theorem u_77_45 {G : aG} {S : Nat → Bool} {f : Nat} {st : List Value} {ls : aL} {h : aH} {k n : Nat} (hs : S 45 = false) : WP 77 G S (f + 1) 45 ls st h k n = (oA (lget ls 0) (WP 77 G S f) 46 ls st h k n) := by rw [wp_s dd_77_45 rfl hs]; rfl
theorem dd_77_46 : decode (mB 77) 46 = .ok (.iconst 0, 1) := by decide +kernel
theorem u_77_46 {G : aG} {S : Nat → Bool} {f : Nat} {st : List Value} {ls : aL} {h : aH} {k n : Nat} (hs : S 46 = false) : WP 77 G S (f + 1) 46 ls st h k n = (WP 77 G S f 47 ls (.int (nI 0) :: st) h k n) := by rw [wp_s dd_77_46 rfl hs]; rfl
theorem dd_77_47 : decode (mB 77) 47 = .ok (.putfield 63, 3) := by decide +kernel
theorem u_77_47 {G : aG} {S : Nat → Bool} {f : Nat} {st : List Value} {ls : aL} {h : aH} {k n : Nat} {a : Nat} {x : Int32} (hs : S 47 = false) : WP 77 G S (f + 1) 47 ls (.int x :: .ref a :: st) h k n = (oH (fput h a 0 8 (.int x)) (WP 77 G S f) 50 ls st k n) := by rw [wp_s dd_77_47 rfl hs]; rfl
theorem dd_77_50 : decode (mB 77) 50 = .ok (.aload_n 0, 1) := by decide +kernel
theorem u_77_50 {G : aG} {S : Nat → Bool} {f : Nat} {st : List Value} {ls : aL} {h : aH} {k n : Nat} (hs : S 50 = false) : WP 77 G S (f + 1) 50 ls st h k n = (oA (lget ls 0) (WP 77 G S f) 51 ls st h k n) := by rw [wp_s dd_77_50 rfl hs]; rfl
theorem dd_77_51 : decode (mB 77) 51 = .ok (.iconst 0, 1) := by decide +kernel
theorem u_77_51 {G : aG} {S : Nat → Bool} {f : Nat} {st : List Value} {ls : aL} {h : aH} {k n : Nat} (hs : S 51 = false) : WP 77 G S (f + 1) 51 ls st h k n = (WP 77 G S f 52 ls (.int (nI 0) :: st) h k n) := by rw [wp_s dd_77_51 rfl hs]; rfl
theorem dd_77_52 : decode (mB 77) 52 = .ok (.putfield 75, 3) := by decide +kernel
theorem u_77_52 {G : aG} {S : Nat → Bool} {f : Nat} {st : List Value} {ls : aL} {h : aH} {k n : Nat} {a : Nat} {x : Int32} (hs : S 52 = false) : WP 77 G S (f + 1) 52 ls (.int x :: .ref a :: st) h k n = (oH (fput h a 0 9 (.int x)) (WP 77 G S f) 55 ls st k n) := by rw [wp_s dd_77_52 rfl hs]; rfl
theorem dd_77_55 : decode (mB 77) 55 = .ok (.return_, 1) := by decide +kernel
theorem u_77_55 {G : aG} {S : Nat → Bool} {f : Nat} {ls : aL} {h : aH} {k n : Nat} (hs : S 55 = false) : WP 77 G S (f + 1) 55 ls [] h k n = (RET G none h k n) := by rw [wp_s dd_77_55 rfl hs]; rfl
theorem dd_78_0 : decode (mB 78) 0 = .ok (.aload_n 0, 1) := by decide +kernel
theorem u_78_0 {G : aG} {S : Nat → Bool} {f : Nat} {st : List Value} {ls : aL} {h : aH} {k n : Nat} (hs : S 0 = false) : WP 78 G S (f + 1) 0 ls st h k n = (oA (lget ls 0) (WP 78 G S f) 1 ls st h k n) := by rw [wp_s dd_78_0 rfl hs]; rfl
theorem dd_78_1 : decode (mB 78) 1 = .ok (.aload_n 1, 1) := by decide +kernel
theorem u_78_1 {G : aG} {S : Nat → Bool} {f : Nat} {st : List Value} {ls : aL} {h : aH} {k n : Nat} (hs : S 1 = false) : WP 78 G S (f + 1) 1 ls st h k n = (oA (lget ls 1) (WP 78 G S f) 2 ls st h k n) := by rw [wp_s dd_78_1 rfl hs]; rfl
theorem dd_78_2 : decode (mB 78) 2 = .ok (.iload_n 3, 1) := by decide +kernel
theorem u_78_2 {G : aG} {S : Nat → Bool} {f : Nat} {st : List Value} {ls : aL} {h : aH} {k n : Nat} (hs : S 2 = false) : WP 78 G S (f + 1) 2 ls st h k n = (oI (lget ls 3) (WP 78 G S f) 3 ls st h k n) := by rw [wp_s dd_78_2 rfl hs]; rfl
theorem dd_78_3 : decode (mB 78) 3 = .ok (.invokevirtual 51, 3) := by decide +kernel
theorem u_78_3 {G : aG} {S : Nat → Bool} {f : Nat} {st : List Value} {ls : aL} {h : aH} {k n : Nat} {v1 v2 : Value} {b : Nat} (hs : S 3 = false) : WP 78 G S (f + 1) 3 ls (v2 :: v1 :: .ref b :: st) h k n = (rcv (hget h b) 0 ∧ CAL G (WP 78 G S f) 79 [.ref b, v1, v2] 6 ls st h k n) := by rw [wp_s dd_78_3 rfl hs]; rfl
theorem dd_78_6 : decode (mB 78) 6 = .ok (.aload_n 0, 1) := by decide +kernel
theorem u_78_6 {G : aG} {S : Nat → Bool} {f : Nat} {st : List Value} {ls : aL} {h : aH} {k n : Nat} (hs : S 6 = false) : WP 78 G S (f + 1) 6 ls st h k n = (oA (lget ls 0) (WP 78 G S f) 7 ls st h k n) := by rw [wp_s dd_78_6 rfl hs]; rfl
theorem dd_78_7 : decode (mB 78) 7 = .ok (.getfield 60, 3) := by decide +kernel
theorem u_78_7 {G : aG} {S : Nat → Bool} {f : Nat} {st : List Value} {ls : aL} {h : aH} {k n : Nat} {a : Nat} (hs : S 7 = false) : WP 78 G S (f + 1) 7 ls (.ref a :: st) h k n = (oV (fget h a 0 4) (WP 78 G S f) 10 ls st h k n) := by rw [wp_s dd_78_7 rfl hs]; rfl
theorem dd_78_10 : decode (mB 78) 10 = .ok (.iconst (-1), 1) := by decide +kernel
theorem u_78_10 {G : aG} {S : Nat → Bool} {f : Nat} {st : List Value} {ls : aL} {h : aH} {k n : Nat} (hs : S 10 = false) : WP 78 G S (f + 1) 10 ls st h k n = (WP 78 G S f 11 ls (.int (-1) :: st) h k n) := by rw [wp_s dd_78_10 rfl hs]; rfl
theorem dd_78_11 : decode (mB 78) 11 = .ok (.if_icmp .ne 71, 3) := by decide +kernel
theorem u_78_11 {G : aG} {S : Nat → Bool} {f : Nat} {st : List Value} {ls : aL} {h : aH} {k n : Nat} {x y : Int32} (hs : S 11 = false) : WP 78 G S (f + 1) 11 ls (.int y :: .int x :: st) h k n = (if x = y then WP 78 G S f 14 ls st h k n else WP 78 G S f 82 ls st h k n) := by rw [wp_s dd_78_11 rfl hs]; exact br_iten (c := x = y)
theorem dd_78_14 : decode (mB 78) 14 = .ok (.aload_n 1, 1) := by decide +kernel
theorem u_78_14 {G : aG} {S : Nat → Bool} {f : Nat} {st : List Value} {ls : aL} {h : aH} {k n : Nat} (hs : S 14 = false) : WP 78 G S (f + 1) 14 ls st h k n = (oA (lget ls 1) (WP 78 G S f) 15 ls st h k n) := by rw [wp_s dd_78_14 rfl hs]; rfl
theorem dd_78_15 : decode (mB 78) 15 = .ok (.aload_n 0, 1) := by decide +kernel
theorem u_78_15 {G : aG} {S : Nat → Bool} {f : Nat} {st : List Value} {ls : aL} {h : aH} {k n : Nat} (hs : S 15 = false) : WP 78 G S (f + 1) 15 ls st h k n = (oA (lget ls 0) (WP 78 G S f) 16 ls st h k n) := by rw [wp_s dd_78_15 rfl hs]; rfl
theorem dd_78_16 : decode (mB 78) 16 = .ok (.getfield 9, 3) := by decide +kernel
theorem u_78_16 {G : aG} {S : Nat → Bool} {f : Nat} {st : List Value} {ls : aL} {h : aH} {k n : Nat} {a : Nat} (hs : S 16 = false) : WP 78 G S (f + 1) 16 ls (.ref a :: st) h k n = (oV (fget h a 0 0) (WP 78 G S f) 19 ls st h k n) := by rw [wp_s dd_78_16 rfl hs]; rfl
theorem dd_78_19 : decode (mB 78) 19 = .ok (.aload_n 0, 1) := by decide +kernel
theorem u_78_19 {G : aG} {S : Nat → Bool} {f : Nat} {st : List Value} {ls : aL} {h : aH} {k n : Nat} (hs : S 19 = false) : WP 78 G S (f + 1) 19 ls st h k n = (oA (lget ls 0) (WP 78 G S f) 20 ls st h k n) := by rw [wp_s dd_78_19 rfl hs]; rfl
theorem dd_78_20 : decode (mB 78) 20 = .ok (.getfield 41, 3) := by decide +kernel
theorem u_78_20 {G : aG} {S : Nat → Bool} {f : Nat} {st : List Value} {ls : aL} {h : aH} {k n : Nat} {a : Nat} (hs : S 20 = false) : WP 78 G S (f + 1) 20 ls (.ref a :: st) h k n = (oV (fget h a 0 2) (WP 78 G S f) 23 ls st h k n) := by rw [wp_s dd_78_20 rfl hs]; rfl
theorem dd_78_23 : decode (mB 78) 23 = .ok (.iaload, 1) := by decide +kernel
theorem u_78_23 {G : aG} {S : Nat → Bool} {f : Nat} {st : List Value} {ls : aL} {h : aH} {k n : Nat} {i : Int32} {a : Nat} (hs : S 23 = false) : WP 78 G S (f + 1) 23 ls (.int i :: .ref a :: st) h k n = (oIld (iget h a 1) i (WP 78 G S f) 24 ls st h k n) := by rw [wp_s dd_78_23 rfl hs]; rfl
theorem dd_78_24 : decode (mB 78) 24 = .ok (.invokevirtual 78, 3) := by decide +kernel
theorem u_78_24 {G : aG} {S : Nat → Bool} {f : Nat} {st : List Value} {ls : aL} {h : aH} {k n : Nat} {v1 : Value} {b : Nat} (hs : S 24 = false) : WP 78 G S (f + 1) 24 ls (v1 :: .ref b :: st) h k n = (rcv (hget h b) 3 ∧ CAL G (WP 78 G S f) 58 [.ref b, v1] 27 ls st h k n) := by rw [wp_s dd_78_24 rfl hs]; rfl
theorem dd_78_27 : decode (mB 78) 27 = .ok (.astore 4, 2) := by decide +kernel
theorem u_78_27 {G : aG} {S : Nat → Bool} {f : Nat} {st : List Value} {ls : aL} {h : aH} {k n : Nat} {x : Nat} (hs : S 27 = false) : WP 78 G S (f + 1) 27 ls (.ref x :: st) h k n = (WP 78 G S f 29 (lput1 ls 4 (.ref x)) st h k n) := by rw [wp_s dd_78_27 rfl hs]; rfl
theorem dd_78_29 : decode (mB 78) 29 = .ok (.aload 4, 2) := by decide +kernel
theorem u_78_29 {G : aG} {S : Nat → Bool} {f : Nat} {st : List Value} {ls : aL} {h : aH} {k n : Nat} (hs : S 29 = false) : WP 78 G S (f + 1) 29 ls st h k n = (oA (lget ls 4) (WP 78 G S f) 31 ls st h k n) := by rw [wp_s dd_78_29 rfl hs]; rfl
theorem dd_78_31 : decode (mB 78) 31 = .ok (.aload_n 0, 1) := by decide +kernel
theorem u_78_31 {G : aG} {S : Nat → Bool} {f : Nat} {st : List Value} {ls : aL} {h : aH} {k n : Nat} (hs : S 31 = false) : WP 78 G S (f + 1) 31 ls st h k n = (oA (lget ls 0) (WP 78 G S f) 32 ls st h k n) := by rw [wp_s dd_78_31 rfl hs]; rfl
theorem dd_78_32 : decode (mB 78) 32 = .ok (.getfield 15, 3) := by decide +kernel
theorem u_78_32 {G : aG} {S : Nat → Bool} {f : Nat} {st : List Value} {ls : aL} {h : aH} {k n : Nat} {a : Nat} (hs : S 32 = false) : WP 78 G S (f + 1) 32 ls (.ref a :: st) h k n = (oV (fget h a 0 1) (WP 78 G S f) 35 ls st h k n) := by rw [wp_s dd_78_32 rfl hs]; rfl
theorem dd_78_35 : decode (mB 78) 35 = .ok (.aload_n 0, 1) := by decide +kernel
theorem u_78_35 {G : aG} {S : Nat → Bool} {f : Nat} {st : List Value} {ls : aL} {h : aH} {k n : Nat} (hs : S 35 = false) : WP 78 G S (f + 1) 35 ls st h k n = (oA (lget ls 0) (WP 78 G S f) 36 ls st h k n) := by rw [wp_s dd_78_35 rfl hs]; rfl
theorem dd_78_36 : decode (mB 78) 36 = .ok (.getfield 41, 3) := by decide +kernel
theorem u_78_36 {G : aG} {S : Nat → Bool} {f : Nat} {st : List Value} {ls : aL} {h : aH} {k n : Nat} {a : Nat} (hs : S 36 = false) : WP 78 G S (f + 1) 36 ls (.ref a :: st) h k n = (oV (fget h a 0 2) (WP 78 G S f) 39 ls st h k n) := by rw [wp_s dd_78_36 rfl hs]; rfl
theorem dd_78_39 : decode (mB 78) 39 = .ok (.iaload, 1) := by decide +kernel
theorem u_78_39 {G : aG} {S : Nat → Bool} {f : Nat} {st : List Value} {ls : aL} {h : aH} {k n : Nat} {i : Int32} {a : Nat} (hs : S 39 = false) : WP 78 G S (f + 1) 39 ls (.int i :: .ref a :: st) h k n = (oIld (iget h a 1) i (WP 78 G S f) 40 ls st h k n) := by rw [wp_s dd_78_39 rfl hs]; rfl
theorem dd_78_40 : decode (mB 78) 40 = .ok (.iload_n 2, 1) := by decide +kernel
theorem u_78_40 {G : aG} {S : Nat → Bool} {f : Nat} {st : List Value} {ls : aL} {h : aH} {k n : Nat} (hs : S 40 = false) : WP 78 G S (f + 1) 40 ls st h k n = (oI (lget ls 2) (WP 78 G S f) 41 ls st h k n) := by rw [wp_s dd_78_40 rfl hs]; rfl
theorem dd_78_41 : decode (mB 78) 41 = .ok (.invokevirtual 83, 3) := by decide +kernel
theorem u_78_41 {G : aG} {S : Nat → Bool} {f : Nat} {st : List Value} {ls : aL} {h : aH} {k n : Nat} {v1 v2 : Value} {b : Nat} (hs : S 41 = false) : WP 78 G S (f + 1) 41 ls (v2 :: v1 :: .ref b :: st) h k n = (rcv (hget h b) 2 ∧ CAL G (WP 78 G S f) 71 [.ref b, v1, v2] 44 ls st h k n) := by rw [wp_s dd_78_41 rfl hs]; rfl
theorem dd_78_44 : decode (mB 78) 44 = .ok (.istore 5, 2) := by decide +kernel
theorem u_78_44 {G : aG} {S : Nat → Bool} {f : Nat} {st : List Value} {ls : aL} {h : aH} {k n : Nat} {x : Int32} (hs : S 44 = false) : WP 78 G S (f + 1) 44 ls (.int x :: st) h k n = (WP 78 G S f 46 (lput1 ls 5 (.int x)) st h k n) := by rw [wp_s dd_78_44 rfl hs]; rfl
theorem dd_78_46 : decode (mB 78) 46 = .ok (.iload 5, 2) := by decide +kernel
theorem u_78_46 {G : aG} {S : Nat → Bool} {f : Nat} {st : List Value} {ls : aL} {h : aH} {k n : Nat} (hs : S 46 = false) : WP 78 G S (f + 1) 46 ls st h k n = (oI (lget ls 5) (WP 78 G S f) 48 ls st h k n) := by rw [wp_s dd_78_46 rfl hs]; rfl
theorem dd_78_48 : decode (mB 78) 48 = .ok (.iconst (-1), 1) := by decide +kernel
theorem u_78_48 {G : aG} {S : Nat → Bool} {f : Nat} {st : List Value} {ls : aL} {h : aH} {k n : Nat} (hs : S 48 = false) : WP 78 G S (f + 1) 48 ls st h k n = (WP 78 G S f 49 ls (.int (-1) :: st) h k n) := by rw [wp_s dd_78_48 rfl hs]; rfl
theorem dd_78_49 : decode (mB 78) 49 = .ok (.if_icmp .ne 22, 3) := by decide +kernel
theorem u_78_49 {G : aG} {S : Nat → Bool} {f : Nat} {st : List Value} {ls : aL} {h : aH} {k n : Nat} {x y : Int32} (hs : S 49 = false) : WP 78 G S (f + 1) 49 ls (.int y :: .int x :: st) h k n = (if x = y then WP 78 G S f 52 ls st h k n else WP 78 G S f 71 ls st h k n) := by rw [wp_s dd_78_49 rfl hs]; exact br_iten (c := x = y)
theorem dd_78_52 : decode (mB 78) 52 = .ok (.aload_n 0, 1) := by decide +kernel
theorem u_78_52 {G : aG} {S : Nat → Bool} {f : Nat} {st : List Value} {ls : aL} {h : aH} {k n : Nat} (hs : S 52 = false) : WP 78 G S (f + 1) 52 ls st h k n = (oA (lget ls 0) (WP 78 G S f) 53 ls st h k n) := by rw [wp_s dd_78_52 rfl hs]; rfl
theorem dd_78_53 : decode (mB 78) 53 = .ok (.iload_n 3, 1) := by decide +kernel
theorem u_78_53 {G : aG} {S : Nat → Bool} {f : Nat} {st : List Value} {ls : aL} {h : aH} {k n : Nat} (hs : S 53 = false) : WP 78 G S (f + 1) 53 ls st h k n = (oI (lget ls 3) (WP 78 G S f) 54 ls st h k n) := by rw [wp_s dd_78_53 rfl hs]; rfl
theorem dd_78_54 : decode (mB 78) 54 = .ok (.aload 4, 2) := by decide +kernel
theorem u_78_54 {G : aG} {S : Nat → Bool} {f : Nat} {st : List Value} {ls : aL} {h : aH} {k n : Nat} (hs : S 54 = false) : WP 78 G S (f + 1) 54 ls st h k n = (oA (lget ls 4) (WP 78 G S f) 56 ls st h k n) := by rw [wp_s dd_78_54 rfl hs]; rfl
theorem dd_78_56 : decode (mB 78) 56 = .ok (.aload_n 0, 1) := by decide +kernel
theorem u_78_56 {G : aG} {S : Nat → Bool} {f : Nat} {st : List Value} {ls : aL} {h : aH} {k n : Nat} (hs : S 56 = false) : WP 78 G S (f + 1) 56 ls st h k n = (oA (lget ls 0) (WP 78 G S f) 57 ls st h k n) := by rw [wp_s dd_78_56 rfl hs]; rfl
theorem dd_78_57 : decode (mB 78) 57 = .ok (.getfield 15, 3) := by decide +kernel
theorem u_78_57 {G : aG} {S : Nat → Bool} {f : Nat} {st : List Value} {ls : aL} {h : aH} {k n : Nat} {a : Nat} (hs : S 57 = false) : WP 78 G S (f + 1) 57 ls (.ref a :: st) h k n = (oV (fget h a 0 1) (WP 78 G S f) 60 ls st h k n) := by rw [wp_s dd_78_57 rfl hs]; rfl
theorem dd_78_60 : decode (mB 78) 60 = .ok (.aload_n 0, 1) := by decide +kernel
theorem u_78_60 {G : aG} {S : Nat → Bool} {f : Nat} {st : List Value} {ls : aL} {h : aH} {k n : Nat} (hs : S 60 = false) : WP 78 G S (f + 1) 60 ls st h k n = (oA (lget ls 0) (WP 78 G S f) 61 ls st h k n) := by rw [wp_s dd_78_60 rfl hs]; rfl
theorem dd_78_61 : decode (mB 78) 61 = .ok (.getfield 41, 3) := by decide +kernel
theorem u_78_61 {G : aG} {S : Nat → Bool} {f : Nat} {st : List Value} {ls : aL} {h : aH} {k n : Nat} {a : Nat} (hs : S 61 = false) : WP 78 G S (f + 1) 61 ls (.ref a :: st) h k n = (oV (fget h a 0 2) (WP 78 G S f) 64 ls st h k n) := by rw [wp_s dd_78_61 rfl hs]; rfl
theorem dd_78_64 : decode (mB 78) 64 = .ok (.iaload, 1) := by decide +kernel
theorem u_78_64 {G : aG} {S : Nat → Bool} {f : Nat} {st : List Value} {ls : aL} {h : aH} {k n : Nat} {i : Int32} {a : Nat} (hs : S 64 = false) : WP 78 G S (f + 1) 64 ls (.int i :: .ref a :: st) h k n = (oIld (iget h a 1) i (WP 78 G S f) 65 ls st h k n) := by rw [wp_s dd_78_64 rfl hs]; rfl
theorem dd_78_65 : decode (mB 78) 65 = .ok (.invokevirtual 87, 3) := by decide +kernel
theorem u_78_65 {G : aG} {S : Nat → Bool} {f : Nat} {st : List Value} {ls : aL} {h : aH} {k n : Nat} {v1 v2 v3 : Value} {b : Nat} (hs : S 65 = false) : WP 78 G S (f + 1) 65 ls (v3 :: v2 :: v1 :: .ref b :: st) h k n = (rcv (hget h b) 0 ∧ CAL G (WP 78 G S f) 81 [.ref b, v1, v2, v3] 68 ls st h k n) := by rw [wp_s dd_78_65 rfl hs]; rfl
theorem dd_78_68 : decode (mB 78) 68 = .ok (.goto 14, 3) := by decide +kernel
theorem u_78_68 {G : aG} {S : Nat → Bool} {f : Nat} {st : List Value} {ls : aL} {h : aH} {k n : Nat} (hs : S 68 = false) : WP 78 G S (f + 1) 68 ls st h k n = (WP 78 G S f 82 ls st h k n) := by rw [wp_s dd_78_68 rfl hs]; rfl
theorem dd_78_71 : decode (mB 78) 71 = .ok (.aload_n 0, 1) := by decide +kernel
theorem u_78_71 {G : aG} {S : Nat → Bool} {f : Nat} {st : List Value} {ls : aL} {h : aH} {k n : Nat} (hs : S 71 = false) : WP 78 G S (f + 1) 71 ls st h k n = (oA (lget ls 0) (WP 78 G S f) 72 ls st h k n) := by rw [wp_s dd_78_71 rfl hs]; rfl
theorem dd_78_72 : decode (mB 78) 72 = .ok (.getfield 15, 3) := by decide +kernel
theorem u_78_72 {G : aG} {S : Nat → Bool} {f : Nat} {st : List Value} {ls : aL} {h : aH} {k n : Nat} {a : Nat} (hs : S 72 = false) : WP 78 G S (f + 1) 72 ls (.ref a :: st) h k n = (oV (fget h a 0 1) (WP 78 G S f) 75 ls st h k n) := by rw [wp_s dd_78_72 rfl hs]; rfl
theorem dd_78_75 : decode (mB 78) 75 = .ok (.aload_n 0, 1) := by decide +kernel
theorem u_78_75 {G : aG} {S : Nat → Bool} {f : Nat} {st : List Value} {ls : aL} {h : aH} {k n : Nat} (hs : S 75 = false) : WP 78 G S (f + 1) 75 ls st h k n = (oA (lget ls 0) (WP 78 G S f) 76 ls st h k n) := by rw [wp_s dd_78_75 rfl hs]; rfl
theorem dd_78_76 : decode (mB 78) 76 = .ok (.getfield 41, 3) := by decide +kernel
theorem u_78_76 {G : aG} {S : Nat → Bool} {f : Nat} {st : List Value} {ls : aL} {h : aH} {k n : Nat} {a : Nat} (hs : S 76 = false) : WP 78 G S (f + 1) 76 ls (.ref a :: st) h k n = (oV (fget h a 0 2) (WP 78 G S f) 79 ls st h k n) := by rw [wp_s dd_78_76 rfl hs]; rfl
theorem dd_78_79 : decode (mB 78) 79 = .ok (.iload 5, 2) := by decide +kernel
theorem u_78_79 {G : aG} {S : Nat → Bool} {f : Nat} {st : List Value} {ls : aL} {h : aH} {k n : Nat} (hs : S 79 = false) : WP 78 G S (f + 1) 79 ls st h k n = (oI (lget ls 5) (WP 78 G S f) 81 ls st h k n) := by rw [wp_s dd_78_79 rfl hs]; rfl
theorem dd_78_81 : decode (mB 78) 81 = .ok (.iastore, 1) := by decide +kernel
theorem u_78_81 {G : aG} {S : Nat → Bool} {f : Nat} {st : List Value} {ls : aL} {h : aH} {k n : Nat} {i x : Int32} {a : Nat} (hs : S 81 = false) : WP 78 G S (f + 1) 81 ls (.int x :: .int i :: .ref a :: st) h k n = (oIst (iget h a 1) a i x (WP 78 G S f) 82 ls st h k n) := by rw [wp_s dd_78_81 rfl hs]; rfl
theorem dd_78_82 : decode (mB 78) 82 = .ok (.aload_n 0, 1) := by decide +kernel
theorem u_78_82 {G : aG} {S : Nat → Bool} {f : Nat} {st : List Value} {ls : aL} {h : aH} {k n : Nat} (hs : S 82 = false) : WP 78 G S (f + 1) 82 ls st h k n = (oA (lget ls 0) (WP 78 G S f) 83 ls st h k n) := by rw [wp_s dd_78_82 rfl hs]; rfl
theorem dd_78_83 : decode (mB 78) 83 = .ok (.dup, 1) := by decide +kernel
theorem u_78_83 {G : aG} {S : Nat → Bool} {f : Nat} {st : List Value} {ls : aL} {h : aH} {k n : Nat} {v : Value} (hs : S 83 = false) : WP 78 G S (f + 1) 83 ls (v :: st) h k n = (cond (cat1 v) (WP 78 G S f 84 ls (v :: v :: st) h k n) False) := by rw [wp_s dd_78_83 rfl hs]; rfl
theorem dd_78_84 : decode (mB 78) 84 = .ok (.getfield 57, 3) := by decide +kernel
theorem u_78_84 {G : aG} {S : Nat → Bool} {f : Nat} {st : List Value} {ls : aL} {h : aH} {k n : Nat} {a : Nat} (hs : S 84 = false) : WP 78 G S (f + 1) 84 ls (.ref a :: st) h k n = (oV (fget h a 0 7) (WP 78 G S f) 87 ls st h k n) := by rw [wp_s dd_78_84 rfl hs]; rfl
theorem dd_78_87 : decode (mB 78) 87 = .ok (.iconst 1, 1) := by decide +kernel
theorem u_78_87 {G : aG} {S : Nat → Bool} {f : Nat} {st : List Value} {ls : aL} {h : aH} {k n : Nat} (hs : S 87 = false) : WP 78 G S (f + 1) 87 ls st h k n = (WP 78 G S f 88 ls (.int (nI 1) :: st) h k n) := by rw [wp_s dd_78_87 rfl hs]; rfl
theorem dd_78_88 : decode (mB 78) 88 = .ok (.iadd, 1) := by decide +kernel
theorem u_78_88 {G : aG} {S : Nat → Bool} {f : Nat} {st : List Value} {ls : aL} {h : aH} {k n : Nat} {x y : Int32} (hs : S 88 = false) : WP 78 G S (f + 1) 88 ls (.int y :: .int x :: st) h k n = (WP 78 G S f 89 ls (.int (x + y) :: st) h k n) := by rw [wp_s dd_78_88 rfl hs]; rfl
theorem dd_78_89 : decode (mB 78) 89 = .ok (.putfield 57, 3) := by decide +kernel
theorem u_78_89 {G : aG} {S : Nat → Bool} {f : Nat} {st : List Value} {ls : aL} {h : aH} {k n : Nat} {a : Nat} {x : Int32} (hs : S 89 = false) : WP 78 G S (f + 1) 89 ls (.int x :: .ref a :: st) h k n = (oH (fput h a 0 7 (.int x)) (WP 78 G S f) 92 ls st k n) := by rw [wp_s dd_78_89 rfl hs]; rfl
theorem dd_78_92 : decode (mB 78) 92 = .ok (.aload_n 0, 1) := by decide +kernel
theorem u_78_92 {G : aG} {S : Nat → Bool} {f : Nat} {st : List Value} {ls : aL} {h : aH} {k n : Nat} (hs : S 92 = false) : WP 78 G S (f + 1) 92 ls st h k n = (oA (lget ls 0) (WP 78 G S f) 93 ls st h k n) := by rw [wp_s dd_78_92 rfl hs]; rfl
theorem dd_78_93 : decode (mB 78) 93 = .ok (.aload_n 0, 1) := by decide +kernel
theorem u_78_93 {G : aG} {S : Nat → Bool} {f : Nat} {st : List Value} {ls : aL} {h : aH} {k n : Nat} (hs : S 93 = false) : WP 78 G S (f + 1) 93 ls st h k n = (oA (lget ls 0) (WP 78 G S f) 94 ls st h k n) := by rw [wp_s dd_78_93 rfl hs]; rfl
theorem dd_78_94 : decode (mB 78) 94 = .ok (.getfield 75, 3) := by decide +kernel
theorem u_78_94 {G : aG} {S : Nat → Bool} {f : Nat} {st : List Value} {ls : aL} {h : aH} {k n : Nat} {a : Nat} (hs : S 94 = false) : WP 78 G S (f + 1) 94 ls (.ref a :: st) h k n = (oV (fget h a 0 9) (WP 78 G S f) 97 ls st h k n) := by rw [wp_s dd_78_94 rfl hs]; rfl
theorem dd_78_97 : decode (mB 78) 97 = .ok (.aload_n 0, 1) := by decide +kernel
theorem u_78_97 {G : aG} {S : Nat → Bool} {f : Nat} {st : List Value} {ls : aL} {h : aH} {k n : Nat} (hs : S 97 = false) : WP 78 G S (f + 1) 97 ls st h k n = (oA (lget ls 0) (WP 78 G S f) 98 ls st h k n) := by rw [wp_s dd_78_97 rfl hs]; rfl
theorem dd_78_98 : decode (mB 78) 98 = .ok (.getfield 41, 3) := by decide +kernel
theorem u_78_98 {G : aG} {S : Nat → Bool} {f : Nat} {st : List Value} {ls : aL} {h : aH} {k n : Nat} {a : Nat} (hs : S 98 = false) : WP 78 G S (f + 1) 98 ls (.ref a :: st) h k n = (oV (fget h a 0 2) (WP 78 G S f) 101 ls st h k n) := by rw [wp_s dd_78_98 rfl hs]; rfl
theorem dd_78_101 : decode (mB 78) 101 = .ok (.iconst 1, 1) := by decide +kernel
theorem u_78_101 {G : aG} {S : Nat → Bool} {f : Nat} {st : List Value} {ls : aL} {h : aH} {k n : Nat} (hs : S 101 = false) : WP 78 G S (f + 1) 101 ls st h k n = (WP 78 G S f 102 ls (.int (nI 1) :: st) h k n) := by rw [wp_s dd_78_101 rfl hs]; rfl
theorem dd_78_102 : decode (mB 78) 102 = .ok (.iadd, 1) := by decide +kernel
theorem u_78_102 {G : aG} {S : Nat → Bool} {f : Nat} {st : List Value} {ls : aL} {h : aH} {k n : Nat} {x y : Int32} (hs : S 102 = false) : WP 78 G S (f + 1) 102 ls (.int y :: .int x :: st) h k n = (WP 78 G S f 103 ls (.int (x + y) :: st) h k n) := by rw [wp_s dd_78_102 rfl hs]; rfl
theorem dd_78_103 : decode (mB 78) 103 = .ok (.invokestatic 91, 3) := by decide +kernel
theorem u_78_103 {G : aG} {S : Nat → Bool} {f : Nat} {st : List Value} {ls : aL} {h : aH} {k n : Nat} {v1 v2 : Value} (hs : S 103 = false) : WP 78 G S (f + 1) 103 ls (v2 :: v1 :: st) h k n = (CAL G (WP 78 G S f) 22 [v1, v2] 106 ls st h k n) := by rw [wp_s dd_78_103 rfl hs]; rfl
theorem dd_78_106 : decode (mB 78) 106 = .ok (.putfield 75, 3) := by decide +kernel
theorem u_78_106 {G : aG} {S : Nat → Bool} {f : Nat} {st : List Value} {ls : aL} {h : aH} {k n : Nat} {a : Nat} {x : Int32} (hs : S 106 = false) : WP 78 G S (f + 1) 106 ls (.int x :: .ref a :: st) h k n = (oH (fput h a 0 9 (.int x)) (WP 78 G S f) 109 ls st k n) := by rw [wp_s dd_78_106 rfl hs]; rfl
theorem dd_78_109 : decode (mB 78) 109 = .ok (.aload_n 0, 1) := by decide +kernel
theorem u_78_109 {G : aG} {S : Nat → Bool} {f : Nat} {st : List Value} {ls : aL} {h : aH} {k n : Nat} (hs : S 109 = false) : WP 78 G S (f + 1) 109 ls st h k n = (oA (lget ls 0) (WP 78 G S f) 110 ls st h k n) := by rw [wp_s dd_78_109 rfl hs]; rfl
theorem dd_78_110 : decode (mB 78) 110 = .ok (.iload_n 2, 1) := by decide +kernel
theorem u_78_110 {G : aG} {S : Nat → Bool} {f : Nat} {st : List Value} {ls : aL} {h : aH} {k n : Nat} (hs : S 110 = false) : WP 78 G S (f + 1) 110 ls st h k n = (oI (lget ls 2) (WP 78 G S f) 111 ls st h k n) := by rw [wp_s dd_78_110 rfl hs]; rfl
theorem dd_78_111 : decode (mB 78) 111 = .ok (.putfield 38, 3) := by decide +kernel
theorem u_78_111 {G : aG} {S : Nat → Bool} {f : Nat} {st : List Value} {ls : aL} {h : aH} {k n : Nat} {a : Nat} {x : Int32} (hs : S 111 = false) : WP 78 G S (f + 1) 111 ls (.int x :: .ref a :: st) h k n = (oH (fput h a 0 3 (.int x)) (WP 78 G S f) 114 ls st k n) := by rw [wp_s dd_78_111 rfl hs]; rfl
theorem dd_78_114 : decode (mB 78) 114 = .ok (.return_, 1) := by decide +kernel
theorem u_78_114 {G : aG} {S : Nat → Bool} {f : Nat} {ls : aL} {h : aH} {k n : Nat} (hs : S 114 = false) : WP 78 G S (f + 1) 114 ls [] h k n = (RET G none h k n) := by rw [wp_s dd_78_114 rfl hs]; rfl
theorem dd_79_0 : decode (mB 79) 0 = .ok (.aload_n 0, 1) := by decide +kernel
theorem u_79_0 {G : aG} {S : Nat → Bool} {f : Nat} {st : List Value} {ls : aL} {h : aH} {k n : Nat} (hs : S 0 = false) : WP 79 G S (f + 1) 0 ls st h k n = (oA (lget ls 0) (WP 79 G S f) 1 ls st h k n) := by rw [wp_s dd_79_0 rfl hs]; rfl
theorem dd_79_1 : decode (mB 79) 1 = .ok (.getfield 38, 3) := by decide +kernel
theorem u_79_1 {G : aG} {S : Nat → Bool} {f : Nat} {st : List Value} {ls : aL} {h : aH} {k n : Nat} {a : Nat} (hs : S 1 = false) : WP 79 G S (f + 1) 1 ls (.ref a :: st) h k n = (oV (fget h a 0 3) (WP 79 G S f) 4 ls st h k n) := by rw [wp_s dd_79_1 rfl hs]; rfl
theorem dd_79_4 : decode (mB 79) 4 = .ok (.iconst (-1), 1) := by decide +kernel
theorem u_79_4 {G : aG} {S : Nat → Bool} {f : Nat} {st : List Value} {ls : aL} {h : aH} {k n : Nat} (hs : S 4 = false) : WP 79 G S (f + 1) 4 ls st h k n = (WP 79 G S f 5 ls (.int (-1) :: st) h k n) := by rw [wp_s dd_79_4 rfl hs]; rfl
theorem dd_79_5 : decode (mB 79) 5 = .ok (.if_icmp .eq 22, 3) := by decide +kernel
theorem u_79_5 {G : aG} {S : Nat → Bool} {f : Nat} {st : List Value} {ls : aL} {h : aH} {k n : Nat} {x y : Int32} (hs : S 5 = false) : WP 79 G S (f + 1) 5 ls (.int y :: .int x :: st) h k n = (if x = y then WP 79 G S f 27 ls st h k n else WP 79 G S f 8 ls st h k n) := by rw [wp_s dd_79_5 rfl hs]; exact br_ite (c := x = y)
theorem dd_79_8 : decode (mB 79) 8 = .ok (.aload_n 0, 1) := by decide +kernel
theorem u_79_8 {G : aG} {S : Nat → Bool} {f : Nat} {st : List Value} {ls : aL} {h : aH} {k n : Nat} (hs : S 8 = false) : WP 79 G S (f + 1) 8 ls st h k n = (oA (lget ls 0) (WP 79 G S f) 9 ls st h k n) := by rw [wp_s dd_79_8 rfl hs]; rfl
theorem dd_79_9 : decode (mB 79) 9 = .ok (.iload_n 2, 1) := by decide +kernel
theorem u_79_9 {G : aG} {S : Nat → Bool} {f : Nat} {st : List Value} {ls : aL} {h : aH} {k n : Nat} (hs : S 9 = false) : WP 79 G S (f + 1) 9 ls st h k n = (oI (lget ls 2) (WP 79 G S f) 10 ls st h k n) := by rw [wp_s dd_79_9 rfl hs]; rfl
theorem dd_79_10 : decode (mB 79) 10 = .ok (.aload_n 1, 1) := by decide +kernel
theorem u_79_10 {G : aG} {S : Nat → Bool} {f : Nat} {st : List Value} {ls : aL} {h : aH} {k n : Nat} (hs : S 10 = false) : WP 79 G S (f + 1) 10 ls st h k n = (oA (lget ls 1) (WP 79 G S f) 11 ls st h k n) := by rw [wp_s dd_79_10 rfl hs]; rfl
theorem dd_79_11 : decode (mB 79) 11 = .ok (.aload_n 0, 1) := by decide +kernel
theorem u_79_11 {G : aG} {S : Nat → Bool} {f : Nat} {st : List Value} {ls : aL} {h : aH} {k n : Nat} (hs : S 11 = false) : WP 79 G S (f + 1) 11 ls st h k n = (oA (lget ls 0) (WP 79 G S f) 12 ls st h k n) := by rw [wp_s dd_79_11 rfl hs]; rfl
theorem dd_79_12 : decode (mB 79) 12 = .ok (.getfield 38, 3) := by decide +kernel
theorem u_79_12 {G : aG} {S : Nat → Bool} {f : Nat} {st : List Value} {ls : aL} {h : aH} {k n : Nat} {a : Nat} (hs : S 12 = false) : WP 79 G S (f + 1) 12 ls (.ref a :: st) h k n = (oV (fget h a 0 3) (WP 79 G S f) 15 ls st h k n) := by rw [wp_s dd_79_12 rfl hs]; rfl
theorem dd_79_15 : decode (mB 79) 15 = .ok (.invokevirtual 78, 3) := by decide +kernel
theorem u_79_15 {G : aG} {S : Nat → Bool} {f : Nat} {st : List Value} {ls : aL} {h : aH} {k n : Nat} {v1 : Value} {b : Nat} (hs : S 15 = false) : WP 79 G S (f + 1) 15 ls (v1 :: .ref b :: st) h k n = (rcv (hget h b) 3 ∧ CAL G (WP 79 G S f) 58 [.ref b, v1] 18 ls st h k n) := by rw [wp_s dd_79_15 rfl hs]; rfl
theorem dd_79_18 : decode (mB 79) 18 = .ok (.iconst 0, 1) := by decide +kernel
theorem u_79_18 {G : aG} {S : Nat → Bool} {f : Nat} {st : List Value} {ls : aL} {h : aH} {k n : Nat} (hs : S 18 = false) : WP 79 G S (f + 1) 18 ls st h k n = (WP 79 G S f 19 ls (.int (nI 0) :: st) h k n) := by rw [wp_s dd_79_18 rfl hs]; rfl
theorem dd_79_19 : decode (mB 79) 19 = .ok (.invokevirtual 96, 3) := by decide +kernel
theorem u_79_19 {G : aG} {S : Nat → Bool} {f : Nat} {st : List Value} {ls : aL} {h : aH} {k n : Nat} {v1 v2 v3 : Value} {b : Nat} (hs : S 19 = false) : WP 79 G S (f + 1) 19 ls (v3 :: v2 :: v1 :: .ref b :: st) h k n = (rcv (hget h b) 0 ∧ CAL G (WP 79 G S f) 80 [.ref b, v1, v2, v3] 22 ls st h k n) := by rw [wp_s dd_79_19 rfl hs]; rfl
theorem dd_79_22 : decode (mB 79) 22 = .ok (.aload_n 0, 1) := by decide +kernel
theorem u_79_22 {G : aG} {S : Nat → Bool} {f : Nat} {st : List Value} {ls : aL} {h : aH} {k n : Nat} (hs : S 22 = false) : WP 79 G S (f + 1) 22 ls st h k n = (oA (lget ls 0) (WP 79 G S f) 23 ls st h k n) := by rw [wp_s dd_79_22 rfl hs]; rfl
theorem dd_79_23 : decode (mB 79) 23 = .ok (.iconst (-1), 1) := by decide +kernel
theorem u_79_23 {G : aG} {S : Nat → Bool} {f : Nat} {st : List Value} {ls : aL} {h : aH} {k n : Nat} (hs : S 23 = false) : WP 79 G S (f + 1) 23 ls st h k n = (WP 79 G S f 24 ls (.int (-1) :: st) h k n) := by rw [wp_s dd_79_23 rfl hs]; rfl
theorem dd_79_24 : decode (mB 79) 24 = .ok (.putfield 38, 3) := by decide +kernel
theorem u_79_24 {G : aG} {S : Nat → Bool} {f : Nat} {st : List Value} {ls : aL} {h : aH} {k n : Nat} {a : Nat} {x : Int32} (hs : S 24 = false) : WP 79 G S (f + 1) 24 ls (.int x :: .ref a :: st) h k n = (oH (fput h a 0 3 (.int x)) (WP 79 G S f) 27 ls st k n) := by rw [wp_s dd_79_24 rfl hs]; rfl
theorem dd_79_27 : decode (mB 79) 27 = .ok (.return_, 1) := by decide +kernel
theorem u_79_27 {G : aG} {S : Nat → Bool} {f : Nat} {ls : aL} {h : aH} {k n : Nat} (hs : S 27 = false) : WP 79 G S (f + 1) 27 ls [] h k n = (RET G none h k n) := by rw [wp_s dd_79_27 rfl hs]; rfl
theorem dd_80_0 : decode (mB 80) 0 = .ok (.aload_n 0, 1) := by decide +kernel
theorem u_80_0 {G : aG} {S : Nat → Bool} {f : Nat} {st : List Value} {ls : aL} {h : aH} {k n : Nat} (hs : S 0 = false) : WP 80 G S (f + 1) 0 ls st h k n = (oA (lget ls 0) (WP 80 G S f) 1 ls st h k n) := by rw [wp_s dd_80_0 rfl hs]; rfl
theorem dd_80_1 : decode (mB 80) 1 = .ok (.getfield 60, 3) := by decide +kernel
theorem u_80_1 {G : aG} {S : Nat → Bool} {f : Nat} {st : List Value} {ls : aL} {h : aH} {k n : Nat} {a : Nat} (hs : S 1 = false) : WP 80 G S (f + 1) 1 ls (.ref a :: st) h k n = (oV (fget h a 0 4) (WP 80 G S f) 4 ls st h k n) := by rw [wp_s dd_80_1 rfl hs]; rfl
theorem dd_80_4 : decode (mB 80) 4 = .ok (.iconst (-1), 1) := by decide +kernel
theorem u_80_4 {G : aG} {S : Nat → Bool} {f : Nat} {st : List Value} {ls : aL} {h : aH} {k n : Nat} (hs : S 4 = false) : WP 80 G S (f + 1) 4 ls st h k n = (WP 80 G S f 5 ls (.int (-1) :: st) h k n) := by rw [wp_s dd_80_4 rfl hs]; rfl
theorem dd_80_5 : decode (mB 80) 5 = .ok (.if_icmp .ne 18, 3) := by decide +kernel
theorem u_80_5 {G : aG} {S : Nat → Bool} {f : Nat} {st : List Value} {ls : aL} {h : aH} {k n : Nat} {x y : Int32} (hs : S 5 = false) : WP 80 G S (f + 1) 5 ls (.int y :: .int x :: st) h k n = (if x = y then WP 80 G S f 8 ls st h k n else WP 80 G S f 23 ls st h k n) := by rw [wp_s dd_80_5 rfl hs]; exact br_iten (c := x = y)
theorem dd_80_8 : decode (mB 80) 8 = .ok (.aload_n 2, 1) := by decide +kernel
theorem u_80_8 {G : aG} {S : Nat → Bool} {f : Nat} {st : List Value} {ls : aL} {h : aH} {k n : Nat} (hs : S 8 = false) : WP 80 G S (f + 1) 8 ls st h k n = (oA (lget ls 2) (WP 80 G S f) 9 ls st h k n) := by rw [wp_s dd_80_8 rfl hs]; rfl
theorem dd_80_9 : decode (mB 80) 9 = .ok (.iload_n 3, 1) := by decide +kernel
theorem u_80_9 {G : aG} {S : Nat → Bool} {f : Nat} {st : List Value} {ls : aL} {h : aH} {k n : Nat} (hs : S 9 = false) : WP 80 G S (f + 1) 9 ls st h k n = (oI (lget ls 3) (WP 80 G S f) 10 ls st h k n) := by rw [wp_s dd_80_9 rfl hs]; rfl
theorem dd_80_10 : decode (mB 80) 10 = .ok (.invokevirtual 99, 3) := by decide +kernel
theorem u_80_10 {G : aG} {S : Nat → Bool} {f : Nat} {st : List Value} {ls : aL} {h : aH} {k n : Nat} {v1 : Value} {b : Nat} (hs : S 10 = false) : WP 80 G S (f + 1) 10 ls (v1 :: .ref b :: st) h k n = (rcv (hget h b) 2 ∧ CAL G (WP 80 G S f) 60 [.ref b, v1] 13 ls st h k n) := by rw [wp_s dd_80_10 rfl hs]; rfl
theorem dd_80_13 : decode (mB 80) 13 = .ok (.ifCond .ne 10, 3) := by decide +kernel
theorem u_80_13 {G : aG} {S : Nat → Bool} {f : Nat} {st : List Value} {ls : aL} {h : aH} {k n : Nat} {x : Int32} (hs : S 13 = false) : WP 80 G S (f + 1) 13 ls (.int x :: st) h k n = (if x = nI 0 then WP 80 G S f 16 ls st h k n else WP 80 G S f 23 ls st h k n) := by rw [wp_s dd_80_13 rfl hs]; exact br_iten (c := x = nI 0)
theorem dd_80_16 : decode (mB 80) 16 = .ok (.aload_n 0, 1) := by decide +kernel
theorem u_80_16 {G : aG} {S : Nat → Bool} {f : Nat} {st : List Value} {ls : aL} {h : aH} {k n : Nat} (hs : S 16 = false) : WP 80 G S (f + 1) 16 ls st h k n = (oA (lget ls 0) (WP 80 G S f) 17 ls st h k n) := by rw [wp_s dd_80_16 rfl hs]; rfl
theorem dd_80_17 : decode (mB 80) 17 = .ok (.iload_n 1, 1) := by decide +kernel
theorem u_80_17 {G : aG} {S : Nat → Bool} {f : Nat} {st : List Value} {ls : aL} {h : aH} {k n : Nat} (hs : S 17 = false) : WP 80 G S (f + 1) 17 ls st h k n = (oI (lget ls 1) (WP 80 G S f) 18 ls st h k n) := by rw [wp_s dd_80_17 rfl hs]; rfl
theorem dd_80_18 : decode (mB 80) 18 = .ok (.aload_n 2, 1) := by decide +kernel
theorem u_80_18 {G : aG} {S : Nat → Bool} {f : Nat} {st : List Value} {ls : aL} {h : aH} {k n : Nat} (hs : S 18 = false) : WP 80 G S (f + 1) 18 ls st h k n = (oA (lget ls 2) (WP 80 G S f) 19 ls st h k n) := by rw [wp_s dd_80_18 rfl hs]; rfl
theorem dd_80_19 : decode (mB 80) 19 = .ok (.iload_n 3, 1) := by decide +kernel
theorem u_80_19 {G : aG} {S : Nat → Bool} {f : Nat} {st : List Value} {ls : aL} {h : aH} {k n : Nat} (hs : S 19 = false) : WP 80 G S (f + 1) 19 ls st h k n = (oI (lget ls 3) (WP 80 G S f) 20 ls st h k n) := by rw [wp_s dd_80_19 rfl hs]; rfl
theorem dd_80_20 : decode (mB 80) 20 = .ok (.invokevirtual 87, 3) := by decide +kernel
theorem u_80_20 {G : aG} {S : Nat → Bool} {f : Nat} {st : List Value} {ls : aL} {h : aH} {k n : Nat} {v1 v2 v3 : Value} {b : Nat} (hs : S 20 = false) : WP 80 G S (f + 1) 20 ls (v3 :: v2 :: v1 :: .ref b :: st) h k n = (rcv (hget h b) 0 ∧ CAL G (WP 80 G S f) 81 [.ref b, v1, v2, v3] 23 ls st h k n) := by rw [wp_s dd_80_20 rfl hs]; rfl
theorem dd_80_23 : decode (mB 80) 23 = .ok (.return_, 1) := by decide +kernel
theorem u_80_23 {G : aG} {S : Nat → Bool} {f : Nat} {ls : aL} {h : aH} {k n : Nat} (hs : S 23 = false) : WP 80 G S (f + 1) 23 ls [] h k n = (RET G none h k n) := by rw [wp_s dd_80_23 rfl hs]; rfl
theorem dd_81_0 : decode (mB 81) 0 = .ok (.aload_n 0, 1) := by decide +kernel
theorem u_81_0 {G : aG} {S : Nat → Bool} {f : Nat} {st : List Value} {ls : aL} {h : aH} {k n : Nat} (hs : S 0 = false) : WP 81 G S (f + 1) 0 ls st h k n = (oA (lget ls 0) (WP 81 G S f) 1 ls st h k n) := by rw [wp_s dd_81_0 rfl hs]; rfl
theorem dd_81_1 : decode (mB 81) 1 = .ok (.iload_n 1, 1) := by decide +kernel
theorem u_81_1 {G : aG} {S : Nat → Bool} {f : Nat} {st : List Value} {ls : aL} {h : aH} {k n : Nat} (hs : S 1 = false) : WP 81 G S (f + 1) 1 ls st h k n = (oI (lget ls 1) (WP 81 G S f) 2 ls st h k n) := by rw [wp_s dd_81_1 rfl hs]; rfl
theorem dd_81_2 : decode (mB 81) 2 = .ok (.putfield 60, 3) := by decide +kernel
theorem u_81_2 {G : aG} {S : Nat → Bool} {f : Nat} {st : List Value} {ls : aL} {h : aH} {k n : Nat} {a : Nat} {x : Int32} (hs : S 2 = false) : WP 81 G S (f + 1) 2 ls (.int x :: .ref a :: st) h k n = (oH (fput h a 0 4 (.int x)) (WP 81 G S f) 5 ls st k n) := by rw [wp_s dd_81_2 rfl hs]; rfl
theorem dd_81_5 : decode (mB 81) 5 = .ok (.aload_n 0, 1) := by decide +kernel
theorem u_81_5 {G : aG} {S : Nat → Bool} {f : Nat} {st : List Value} {ls : aL} {h : aH} {k n : Nat} (hs : S 5 = false) : WP 81 G S (f + 1) 5 ls st h k n = (oA (lget ls 0) (WP 81 G S f) 6 ls st h k n) := by rw [wp_s dd_81_5 rfl hs]; rfl
theorem dd_81_6 : decode (mB 81) 6 = .ok (.aload_n 2, 1) := by decide +kernel
theorem u_81_6 {G : aG} {S : Nat → Bool} {f : Nat} {st : List Value} {ls : aL} {h : aH} {k n : Nat} (hs : S 6 = false) : WP 81 G S (f + 1) 6 ls st h k n = (oA (lget ls 2) (WP 81 G S f) 7 ls st h k n) := by rw [wp_s dd_81_6 rfl hs]; rfl
theorem dd_81_7 : decode (mB 81) 7 = .ok (.iload_n 3, 1) := by decide +kernel
theorem u_81_7 {G : aG} {S : Nat → Bool} {f : Nat} {st : List Value} {ls : aL} {h : aH} {k n : Nat} (hs : S 7 = false) : WP 81 G S (f + 1) 7 ls st h k n = (oI (lget ls 3) (WP 81 G S f) 8 ls st h k n) := by rw [wp_s dd_81_7 rfl hs]; rfl
theorem dd_81_8 : decode (mB 81) 8 = .ok (.invokevirtual 103, 3) := by decide +kernel
theorem u_81_8 {G : aG} {S : Nat → Bool} {f : Nat} {st : List Value} {ls : aL} {h : aH} {k n : Nat} {v1 : Value} {b : Nat} (hs : S 8 = false) : WP 81 G S (f + 1) 8 ls (v1 :: .ref b :: st) h k n = (rcv (hget h b) 2 ∧ CAL G (WP 81 G S f) 62 [.ref b, v1] 11 ls st h k n) := by rw [wp_s dd_81_8 rfl hs]; rfl
theorem dd_81_11 : decode (mB 81) 11 = .ok (.putfield 68, 3) := by decide +kernel
theorem u_81_11 {G : aG} {S : Nat → Bool} {f : Nat} {st : List Value} {ls : aL} {h : aH} {k n : Nat} {a : Nat} {x : Int32} (hs : S 11 = false) : WP 81 G S (f + 1) 11 ls (.int x :: .ref a :: st) h k n = (oH (fput h a 0 5 (.int x)) (WP 81 G S f) 14 ls st k n) := by rw [wp_s dd_81_11 rfl hs]; rfl
theorem dd_81_14 : decode (mB 81) 14 = .ok (.aload_n 0, 1) := by decide +kernel
theorem u_81_14 {G : aG} {S : Nat → Bool} {f : Nat} {st : List Value} {ls : aL} {h : aH} {k n : Nat} (hs : S 14 = false) : WP 81 G S (f + 1) 14 ls st h k n = (oA (lget ls 0) (WP 81 G S f) 15 ls st h k n) := by rw [wp_s dd_81_14 rfl hs]; rfl
theorem dd_81_15 : decode (mB 81) 15 = .ok (.aload_n 2, 1) := by decide +kernel
theorem u_81_15 {G : aG} {S : Nat → Bool} {f : Nat} {st : List Value} {ls : aL} {h : aH} {k n : Nat} (hs : S 15 = false) : WP 81 G S (f + 1) 15 ls st h k n = (oA (lget ls 2) (WP 81 G S f) 16 ls st h k n) := by rw [wp_s dd_81_15 rfl hs]; rfl
theorem dd_81_16 : decode (mB 81) 16 = .ok (.iload_n 3, 1) := by decide +kernel
theorem u_81_16 {G : aG} {S : Nat → Bool} {f : Nat} {st : List Value} {ls : aL} {h : aH} {k n : Nat} (hs : S 16 = false) : WP 81 G S (f + 1) 16 ls st h k n = (oI (lget ls 3) (WP 81 G S f) 17 ls st h k n) := by rw [wp_s dd_81_16 rfl hs]; rfl
theorem dd_81_17 : decode (mB 81) 17 = .ok (.invokevirtual 99, 3) := by decide +kernel
theorem u_81_17 {G : aG} {S : Nat → Bool} {f : Nat} {st : List Value} {ls : aL} {h : aH} {k n : Nat} {v1 : Value} {b : Nat} (hs : S 17 = false) : WP 81 G S (f + 1) 17 ls (v1 :: .ref b :: st) h k n = (rcv (hget h b) 2 ∧ CAL G (WP 81 G S f) 60 [.ref b, v1] 20 ls st h k n) := by rw [wp_s dd_81_17 rfl hs]; rfl
theorem dd_81_20 : decode (mB 81) 20 = .ok (.putfield 71, 3) := by decide +kernel
theorem u_81_20 {G : aG} {S : Nat → Bool} {f : Nat} {st : List Value} {ls : aL} {h : aH} {k n : Nat} {a : Nat} {x : Int32} (hs : S 20 = false) : WP 81 G S (f + 1) 20 ls (.int x :: .ref a :: st) h k n = (cond ((x == nI 0 || x == nI 1) && true) (oH (fput h a 0 6 (.int x)) (WP 81 G S f) 23 ls st k n) False) := by rw [wp_s dd_81_20 rfl hs]; rfl
theorem dd_81_23 : decode (mB 81) 23 = .ok (.aload_n 0, 1) := by decide +kernel
theorem u_81_23 {G : aG} {S : Nat → Bool} {f : Nat} {st : List Value} {ls : aL} {h : aH} {k n : Nat} (hs : S 23 = false) : WP 81 G S (f + 1) 23 ls st h k n = (oA (lget ls 0) (WP 81 G S f) 24 ls st h k n) := by rw [wp_s dd_81_23 rfl hs]; rfl
theorem dd_81_24 : decode (mB 81) 24 = .ok (.aload_n 0, 1) := by decide +kernel
theorem u_81_24 {G : aG} {S : Nat → Bool} {f : Nat} {st : List Value} {ls : aL} {h : aH} {k n : Nat} (hs : S 24 = false) : WP 81 G S (f + 1) 24 ls st h k n = (oA (lget ls 0) (WP 81 G S f) 25 ls st h k n) := by rw [wp_s dd_81_24 rfl hs]; rfl
theorem dd_81_25 : decode (mB 81) 25 = .ok (.getfield 57, 3) := by decide +kernel
theorem u_81_25 {G : aG} {S : Nat → Bool} {f : Nat} {st : List Value} {ls : aL} {h : aH} {k n : Nat} {a : Nat} (hs : S 25 = false) : WP 81 G S (f + 1) 25 ls (.ref a :: st) h k n = (oV (fget h a 0 7) (WP 81 G S f) 28 ls st h k n) := by rw [wp_s dd_81_25 rfl hs]; rfl
theorem dd_81_28 : decode (mB 81) 28 = .ok (.putfield 63, 3) := by decide +kernel
theorem u_81_28 {G : aG} {S : Nat → Bool} {f : Nat} {st : List Value} {ls : aL} {h : aH} {k n : Nat} {a : Nat} {x : Int32} (hs : S 28 = false) : WP 81 G S (f + 1) 28 ls (.int x :: .ref a :: st) h k n = (oH (fput h a 0 8 (.int x)) (WP 81 G S f) 31 ls st k n) := by rw [wp_s dd_81_28 rfl hs]; rfl
theorem dd_81_31 : decode (mB 81) 31 = .ok (.return_, 1) := by decide +kernel
theorem u_81_31 {G : aG} {S : Nat → Bool} {f : Nat} {ls : aL} {h : aH} {k n : Nat} (hs : S 31 = false) : WP 81 G S (f + 1) 31 ls [] h k n = (RET G none h k n) := by rw [wp_s dd_81_31 rfl hs]; rfl
theorem dd_82_0 : decode (mB 82) 0 = .ok (.aload_n 0, 1) := by decide +kernel
theorem u_82_0 {G : aG} {S : Nat → Bool} {f : Nat} {st : List Value} {ls : aL} {h : aH} {k n : Nat} (hs : S 0 = false) : WP 82 G S (f + 1) 0 ls st h k n = (oA (lget ls 0) (WP 82 G S f) 1 ls st h k n) := by rw [wp_s dd_82_0 rfl hs]; rfl
theorem dd_82_1 : decode (mB 82) 1 = .ok (.dup, 1) := by decide +kernel
theorem u_82_1 {G : aG} {S : Nat → Bool} {f : Nat} {st : List Value} {ls : aL} {h : aH} {k n : Nat} {v : Value} (hs : S 1 = false) : WP 82 G S (f + 1) 1 ls (v :: st) h k n = (cond (cat1 v) (WP 82 G S f 2 ls (v :: v :: st) h k n) False) := by rw [wp_s dd_82_1 rfl hs]; rfl
theorem dd_82_2 : decode (mB 82) 2 = .ok (.getfield 41, 3) := by decide +kernel
theorem u_82_2 {G : aG} {S : Nat → Bool} {f : Nat} {st : List Value} {ls : aL} {h : aH} {k n : Nat} {a : Nat} (hs : S 2 = false) : WP 82 G S (f + 1) 2 ls (.ref a :: st) h k n = (oV (fget h a 0 2) (WP 82 G S f) 5 ls st h k n) := by rw [wp_s dd_82_2 rfl hs]; rfl
theorem dd_82_5 : decode (mB 82) 5 = .ok (.iconst 1, 1) := by decide +kernel
theorem u_82_5 {G : aG} {S : Nat → Bool} {f : Nat} {st : List Value} {ls : aL} {h : aH} {k n : Nat} (hs : S 5 = false) : WP 82 G S (f + 1) 5 ls st h k n = (WP 82 G S f 6 ls (.int (nI 1) :: st) h k n) := by rw [wp_s dd_82_5 rfl hs]; rfl
theorem dd_82_6 : decode (mB 82) 6 = .ok (.iadd, 1) := by decide +kernel
theorem u_82_6 {G : aG} {S : Nat → Bool} {f : Nat} {st : List Value} {ls : aL} {h : aH} {k n : Nat} {x y : Int32} (hs : S 6 = false) : WP 82 G S (f + 1) 6 ls (.int y :: .int x :: st) h k n = (WP 82 G S f 7 ls (.int (x + y) :: st) h k n) := by rw [wp_s dd_82_6 rfl hs]; rfl
theorem dd_82_7 : decode (mB 82) 7 = .ok (.putfield 41, 3) := by decide +kernel
theorem u_82_7 {G : aG} {S : Nat → Bool} {f : Nat} {st : List Value} {ls : aL} {h : aH} {k n : Nat} {a : Nat} {x : Int32} (hs : S 7 = false) : WP 82 G S (f + 1) 7 ls (.int x :: .ref a :: st) h k n = (oH (fput h a 0 2 (.int x)) (WP 82 G S f) 10 ls st k n) := by rw [wp_s dd_82_7 rfl hs]; rfl
theorem dd_82_10 : decode (mB 82) 10 = .ok (.aload_n 0, 1) := by decide +kernel
theorem u_82_10 {G : aG} {S : Nat → Bool} {f : Nat} {st : List Value} {ls : aL} {h : aH} {k n : Nat} (hs : S 10 = false) : WP 82 G S (f + 1) 10 ls st h k n = (oA (lget ls 0) (WP 82 G S f) 11 ls st h k n) := by rw [wp_s dd_82_10 rfl hs]; rfl
theorem dd_82_11 : decode (mB 82) 11 = .ok (.getfield 9, 3) := by decide +kernel
theorem u_82_11 {G : aG} {S : Nat → Bool} {f : Nat} {st : List Value} {ls : aL} {h : aH} {k n : Nat} {a : Nat} (hs : S 11 = false) : WP 82 G S (f + 1) 11 ls (.ref a :: st) h k n = (oV (fget h a 0 0) (WP 82 G S f) 14 ls st h k n) := by rw [wp_s dd_82_11 rfl hs]; rfl
theorem dd_82_14 : decode (mB 82) 14 = .ok (.aload_n 0, 1) := by decide +kernel
theorem u_82_14 {G : aG} {S : Nat → Bool} {f : Nat} {st : List Value} {ls : aL} {h : aH} {k n : Nat} (hs : S 14 = false) : WP 82 G S (f + 1) 14 ls st h k n = (oA (lget ls 0) (WP 82 G S f) 15 ls st h k n) := by rw [wp_s dd_82_14 rfl hs]; rfl
theorem dd_82_15 : decode (mB 82) 15 = .ok (.getfield 41, 3) := by decide +kernel
theorem u_82_15 {G : aG} {S : Nat → Bool} {f : Nat} {st : List Value} {ls : aL} {h : aH} {k n : Nat} {a : Nat} (hs : S 15 = false) : WP 82 G S (f + 1) 15 ls (.ref a :: st) h k n = (oV (fget h a 0 2) (WP 82 G S f) 18 ls st h k n) := by rw [wp_s dd_82_15 rfl hs]; rfl
theorem dd_82_18 : decode (mB 82) 18 = .ok (.aload_n 0, 1) := by decide +kernel
theorem u_82_18 {G : aG} {S : Nat → Bool} {f : Nat} {st : List Value} {ls : aL} {h : aH} {k n : Nat} (hs : S 18 = false) : WP 82 G S (f + 1) 18 ls st h k n = (oA (lget ls 0) (WP 82 G S f) 19 ls st h k n) := by rw [wp_s dd_82_18 rfl hs]; rfl
theorem dd_82_19 : decode (mB 82) 19 = .ok (.getfield 38, 3) := by decide +kernel
theorem u_82_19 {G : aG} {S : Nat → Bool} {f : Nat} {st : List Value} {ls : aL} {h : aH} {k n : Nat} {a : Nat} (hs : S 19 = false) : WP 82 G S (f + 1) 19 ls (.ref a :: st) h k n = (oV (fget h a 0 3) (WP 82 G S f) 22 ls st h k n) := by rw [wp_s dd_82_19 rfl hs]; rfl
theorem dd_82_22 : decode (mB 82) 22 = .ok (.iastore, 1) := by decide +kernel
theorem u_82_22 {G : aG} {S : Nat → Bool} {f : Nat} {st : List Value} {ls : aL} {h : aH} {k n : Nat} {i x : Int32} {a : Nat} (hs : S 22 = false) : WP 82 G S (f + 1) 22 ls (.int x :: .int i :: .ref a :: st) h k n = (oIst (iget h a 1) a i x (WP 82 G S f) 23 ls st h k n) := by rw [wp_s dd_82_22 rfl hs]; rfl
theorem dd_82_23 : decode (mB 82) 23 = .ok (.aload_n 0, 1) := by decide +kernel
theorem u_82_23 {G : aG} {S : Nat → Bool} {f : Nat} {st : List Value} {ls : aL} {h : aH} {k n : Nat} (hs : S 23 = false) : WP 82 G S (f + 1) 23 ls st h k n = (oA (lget ls 0) (WP 82 G S f) 24 ls st h k n) := by rw [wp_s dd_82_23 rfl hs]; rfl
theorem dd_82_24 : decode (mB 82) 24 = .ok (.getfield 15, 3) := by decide +kernel
theorem u_82_24 {G : aG} {S : Nat → Bool} {f : Nat} {st : List Value} {ls : aL} {h : aH} {k n : Nat} {a : Nat} (hs : S 24 = false) : WP 82 G S (f + 1) 24 ls (.ref a :: st) h k n = (oV (fget h a 0 1) (WP 82 G S f) 27 ls st h k n) := by rw [wp_s dd_82_24 rfl hs]; rfl
theorem dd_82_27 : decode (mB 82) 27 = .ok (.aload_n 0, 1) := by decide +kernel
theorem u_82_27 {G : aG} {S : Nat → Bool} {f : Nat} {st : List Value} {ls : aL} {h : aH} {k n : Nat} (hs : S 27 = false) : WP 82 G S (f + 1) 27 ls st h k n = (oA (lget ls 0) (WP 82 G S f) 28 ls st h k n) := by rw [wp_s dd_82_27 rfl hs]; rfl
theorem dd_82_28 : decode (mB 82) 28 = .ok (.getfield 41, 3) := by decide +kernel
theorem u_82_28 {G : aG} {S : Nat → Bool} {f : Nat} {st : List Value} {ls : aL} {h : aH} {k n : Nat} {a : Nat} (hs : S 28 = false) : WP 82 G S (f + 1) 28 ls (.ref a :: st) h k n = (oV (fget h a 0 2) (WP 82 G S f) 31 ls st h k n) := by rw [wp_s dd_82_28 rfl hs]; rfl
theorem dd_82_31 : decode (mB 82) 31 = .ok (.iconst 0, 1) := by decide +kernel
theorem u_82_31 {G : aG} {S : Nat → Bool} {f : Nat} {st : List Value} {ls : aL} {h : aH} {k n : Nat} (hs : S 31 = false) : WP 82 G S (f + 1) 31 ls st h k n = (WP 82 G S f 32 ls (.int (nI 0) :: st) h k n) := by rw [wp_s dd_82_31 rfl hs]; rfl
theorem dd_82_32 : decode (mB 82) 32 = .ok (.iastore, 1) := by decide +kernel
theorem u_82_32 {G : aG} {S : Nat → Bool} {f : Nat} {st : List Value} {ls : aL} {h : aH} {k n : Nat} {i x : Int32} {a : Nat} (hs : S 32 = false) : WP 82 G S (f + 1) 32 ls (.int x :: .int i :: .ref a :: st) h k n = (oIst (iget h a 1) a i x (WP 82 G S f) 33 ls st h k n) := by rw [wp_s dd_82_32 rfl hs]; rfl
theorem dd_82_33 : decode (mB 82) 33 = .ok (.aload_n 0, 1) := by decide +kernel
theorem u_82_33 {G : aG} {S : Nat → Bool} {f : Nat} {st : List Value} {ls : aL} {h : aH} {k n : Nat} (hs : S 33 = false) : WP 82 G S (f + 1) 33 ls st h k n = (oA (lget ls 0) (WP 82 G S f) 34 ls st h k n) := by rw [wp_s dd_82_33 rfl hs]; rfl
theorem dd_82_34 : decode (mB 82) 34 = .ok (.iconst (-1), 1) := by decide +kernel
theorem u_82_34 {G : aG} {S : Nat → Bool} {f : Nat} {st : List Value} {ls : aL} {h : aH} {k n : Nat} (hs : S 34 = false) : WP 82 G S (f + 1) 34 ls st h k n = (WP 82 G S f 35 ls (.int (-1) :: st) h k n) := by rw [wp_s dd_82_34 rfl hs]; rfl
theorem dd_82_35 : decode (mB 82) 35 = .ok (.putfield 38, 3) := by decide +kernel
theorem u_82_35 {G : aG} {S : Nat → Bool} {f : Nat} {st : List Value} {ls : aL} {h : aH} {k n : Nat} {a : Nat} {x : Int32} (hs : S 35 = false) : WP 82 G S (f + 1) 35 ls (.int x :: .ref a :: st) h k n = (oH (fput h a 0 3 (.int x)) (WP 82 G S f) 38 ls st k n) := by rw [wp_s dd_82_35 rfl hs]; rfl
theorem dd_82_38 : decode (mB 82) 38 = .ok (.return_, 1) := by decide +kernel
theorem u_82_38 {G : aG} {S : Nat → Bool} {f : Nat} {ls : aL} {h : aH} {k n : Nat} (hs : S 38 = false) : WP 82 G S (f + 1) 38 ls [] h k n = (RET G none h k n) := by rw [wp_s dd_82_38 rfl hs]; rfl
theorem dd_83_0 : decode (mB 83) 0 = .ok (.aload_n 0, 1) := by decide +kernel
theorem u_83_0 {G : aG} {S : Nat → Bool} {f : Nat} {st : List Value} {ls : aL} {h : aH} {k n : Nat} (hs : S 0 = false) : WP 83 G S (f + 1) 0 ls st h k n = (oA (lget ls 0) (WP 83 G S f) 1 ls st h k n) := by rw [wp_s dd_83_0 rfl hs]; rfl
theorem dd_83_1 : decode (mB 83) 1 = .ok (.aload_n 1, 1) := by decide +kernel
theorem u_83_1 {G : aG} {S : Nat → Bool} {f : Nat} {st : List Value} {ls : aL} {h : aH} {k n : Nat} (hs : S 1 = false) : WP 83 G S (f + 1) 1 ls st h k n = (oA (lget ls 1) (WP 83 G S f) 2 ls st h k n) := by rw [wp_s dd_83_1 rfl hs]; rfl
theorem dd_83_2 : decode (mB 83) 2 = .ok (.iload_n 2, 1) := by decide +kernel
theorem u_83_2 {G : aG} {S : Nat → Bool} {f : Nat} {st : List Value} {ls : aL} {h : aH} {k n : Nat} (hs : S 2 = false) : WP 83 G S (f + 1) 2 ls st h k n = (oI (lget ls 2) (WP 83 G S f) 3 ls st h k n) := by rw [wp_s dd_83_2 rfl hs]; rfl
theorem dd_83_3 : decode (mB 83) 3 = .ok (.invokevirtual 51, 3) := by decide +kernel
theorem u_83_3 {G : aG} {S : Nat → Bool} {f : Nat} {st : List Value} {ls : aL} {h : aH} {k n : Nat} {v1 v2 : Value} {b : Nat} (hs : S 3 = false) : WP 83 G S (f + 1) 3 ls (v2 :: v1 :: .ref b :: st) h k n = (rcv (hget h b) 0 ∧ CAL G (WP 83 G S f) 79 [.ref b, v1, v2] 6 ls st h k n) := by rw [wp_s dd_83_3 rfl hs]; rfl
theorem dd_83_6 : decode (mB 83) 6 = .ok (.aload_n 0, 1) := by decide +kernel
theorem u_83_6 {G : aG} {S : Nat → Bool} {f : Nat} {st : List Value} {ls : aL} {h : aH} {k n : Nat} (hs : S 6 = false) : WP 83 G S (f + 1) 6 ls st h k n = (oA (lget ls 0) (WP 83 G S f) 7 ls st h k n) := by rw [wp_s dd_83_6 rfl hs]; rfl
theorem dd_83_7 : decode (mB 83) 7 = .ok (.aload_n 1, 1) := by decide +kernel
theorem u_83_7 {G : aG} {S : Nat → Bool} {f : Nat} {st : List Value} {ls : aL} {h : aH} {k n : Nat} (hs : S 7 = false) : WP 83 G S (f + 1) 7 ls st h k n = (oA (lget ls 1) (WP 83 G S f) 8 ls st h k n) := by rw [wp_s dd_83_7 rfl hs]; rfl
theorem dd_83_8 : decode (mB 83) 8 = .ok (.iload_n 2, 1) := by decide +kernel
theorem u_83_8 {G : aG} {S : Nat → Bool} {f : Nat} {st : List Value} {ls : aL} {h : aH} {k n : Nat} (hs : S 8 = false) : WP 83 G S (f + 1) 8 ls st h k n = (oI (lget ls 2) (WP 83 G S f) 9 ls st h k n) := by rw [wp_s dd_83_8 rfl hs]; rfl
theorem dd_83_9 : decode (mB 83) 9 = .ok (.invokevirtual 54, 3) := by decide +kernel
theorem u_83_9 {G : aG} {S : Nat → Bool} {f : Nat} {st : List Value} {ls : aL} {h : aH} {k n : Nat} {v1 v2 : Value} {b : Nat} (hs : S 9 = false) : WP 83 G S (f + 1) 9 ls (v2 :: v1 :: .ref b :: st) h k n = (rcv (hget h b) 0 ∧ CAL G (WP 83 G S f) 84 [.ref b, v1, v2] 12 ls st h k n) := by rw [wp_s dd_83_9 rfl hs]; rfl
theorem dd_83_12 : decode (mB 83) 12 = .ok (.aload_n 0, 1) := by decide +kernel
theorem u_83_12 {G : aG} {S : Nat → Bool} {f : Nat} {st : List Value} {ls : aL} {h : aH} {k n : Nat} (hs : S 12 = false) : WP 83 G S (f + 1) 12 ls st h k n = (oA (lget ls 0) (WP 83 G S f) 13 ls st h k n) := by rw [wp_s dd_83_12 rfl hs]; rfl
theorem dd_83_13 : decode (mB 83) 13 = .ok (.dup, 1) := by decide +kernel
theorem u_83_13 {G : aG} {S : Nat → Bool} {f : Nat} {st : List Value} {ls : aL} {h : aH} {k n : Nat} {v : Value} (hs : S 13 = false) : WP 83 G S (f + 1) 13 ls (v :: st) h k n = (cond (cat1 v) (WP 83 G S f 14 ls (v :: v :: st) h k n) False) := by rw [wp_s dd_83_13 rfl hs]; rfl
theorem dd_83_14 : decode (mB 83) 14 = .ok (.getfield 41, 3) := by decide +kernel
theorem u_83_14 {G : aG} {S : Nat → Bool} {f : Nat} {st : List Value} {ls : aL} {h : aH} {k n : Nat} {a : Nat} (hs : S 14 = false) : WP 83 G S (f + 1) 14 ls (.ref a :: st) h k n = (oV (fget h a 0 2) (WP 83 G S f) 17 ls st h k n) := by rw [wp_s dd_83_14 rfl hs]; rfl
theorem dd_83_17 : decode (mB 83) 17 = .ok (.iconst 1, 1) := by decide +kernel
theorem u_83_17 {G : aG} {S : Nat → Bool} {f : Nat} {st : List Value} {ls : aL} {h : aH} {k n : Nat} (hs : S 17 = false) : WP 83 G S (f + 1) 17 ls st h k n = (WP 83 G S f 18 ls (.int (nI 1) :: st) h k n) := by rw [wp_s dd_83_17 rfl hs]; rfl
theorem dd_83_18 : decode (mB 83) 18 = .ok (.isub, 1) := by decide +kernel
theorem u_83_18 {G : aG} {S : Nat → Bool} {f : Nat} {st : List Value} {ls : aL} {h : aH} {k n : Nat} {x y : Int32} (hs : S 18 = false) : WP 83 G S (f + 1) 18 ls (.int y :: .int x :: st) h k n = (WP 83 G S f 19 ls (.int (x - y) :: st) h k n) := by rw [wp_s dd_83_18 rfl hs]; rfl
theorem dd_83_19 : decode (mB 83) 19 = .ok (.putfield 41, 3) := by decide +kernel
theorem u_83_19 {G : aG} {S : Nat → Bool} {f : Nat} {st : List Value} {ls : aL} {h : aH} {k n : Nat} {a : Nat} {x : Int32} (hs : S 19 = false) : WP 83 G S (f + 1) 19 ls (.int x :: .ref a :: st) h k n = (oH (fput h a 0 2 (.int x)) (WP 83 G S f) 22 ls st k n) := by rw [wp_s dd_83_19 rfl hs]; rfl
theorem dd_83_22 : decode (mB 83) 22 = .ok (.return_, 1) := by decide +kernel
theorem u_83_22 {G : aG} {S : Nat → Bool} {f : Nat} {ls : aL} {h : aH} {k n : Nat} (hs : S 22 = false) : WP 83 G S (f + 1) 22 ls [] h k n = (RET G none h k n) := by rw [wp_s dd_83_22 rfl hs]; rfl
theorem dd_84_0 : decode (mB 84) 0 = .ok (.aload_n 0, 1) := by decide +kernel
theorem u_84_0 {G : aG} {S : Nat → Bool} {f : Nat} {st : List Value} {ls : aL} {h : aH} {k n : Nat} (hs : S 0 = false) : WP 84 G S (f + 1) 0 ls st h k n = (oA (lget ls 0) (WP 84 G S f) 1 ls st h k n) := by rw [wp_s dd_84_0 rfl hs]; rfl
theorem dd_84_1 : decode (mB 84) 1 = .ok (.iload_n 2, 1) := by decide +kernel
theorem u_84_1 {G : aG} {S : Nat → Bool} {f : Nat} {st : List Value} {ls : aL} {h : aH} {k n : Nat} (hs : S 1 = false) : WP 84 G S (f + 1) 1 ls st h k n = (oI (lget ls 2) (WP 84 G S f) 2 ls st h k n) := by rw [wp_s dd_84_1 rfl hs]; rfl
theorem dd_84_2 : decode (mB 84) 2 = .ok (.aload_n 1, 1) := by decide +kernel
theorem u_84_2 {G : aG} {S : Nat → Bool} {f : Nat} {st : List Value} {ls : aL} {h : aH} {k n : Nat} (hs : S 2 = false) : WP 84 G S (f + 1) 2 ls st h k n = (oA (lget ls 1) (WP 84 G S f) 3 ls st h k n) := by rw [wp_s dd_84_2 rfl hs]; rfl
theorem dd_84_3 : decode (mB 84) 3 = .ok (.aload_n 0, 1) := by decide +kernel
theorem u_84_3 {G : aG} {S : Nat → Bool} {f : Nat} {st : List Value} {ls : aL} {h : aH} {k n : Nat} (hs : S 3 = false) : WP 84 G S (f + 1) 3 ls st h k n = (oA (lget ls 0) (WP 84 G S f) 4 ls st h k n) := by rw [wp_s dd_84_3 rfl hs]; rfl
theorem dd_84_4 : decode (mB 84) 4 = .ok (.getfield 9, 3) := by decide +kernel
theorem u_84_4 {G : aG} {S : Nat → Bool} {f : Nat} {st : List Value} {ls : aL} {h : aH} {k n : Nat} {a : Nat} (hs : S 4 = false) : WP 84 G S (f + 1) 4 ls (.ref a :: st) h k n = (oV (fget h a 0 0) (WP 84 G S f) 7 ls st h k n) := by rw [wp_s dd_84_4 rfl hs]; rfl
theorem dd_84_7 : decode (mB 84) 7 = .ok (.aload_n 0, 1) := by decide +kernel
theorem u_84_7 {G : aG} {S : Nat → Bool} {f : Nat} {st : List Value} {ls : aL} {h : aH} {k n : Nat} (hs : S 7 = false) : WP 84 G S (f + 1) 7 ls st h k n = (oA (lget ls 0) (WP 84 G S f) 8 ls st h k n) := by rw [wp_s dd_84_7 rfl hs]; rfl
theorem dd_84_8 : decode (mB 84) 8 = .ok (.getfield 41, 3) := by decide +kernel
theorem u_84_8 {G : aG} {S : Nat → Bool} {f : Nat} {st : List Value} {ls : aL} {h : aH} {k n : Nat} {a : Nat} (hs : S 8 = false) : WP 84 G S (f + 1) 8 ls (.ref a :: st) h k n = (oV (fget h a 0 2) (WP 84 G S f) 11 ls st h k n) := by rw [wp_s dd_84_8 rfl hs]; rfl
theorem dd_84_11 : decode (mB 84) 11 = .ok (.iaload, 1) := by decide +kernel
theorem u_84_11 {G : aG} {S : Nat → Bool} {f : Nat} {st : List Value} {ls : aL} {h : aH} {k n : Nat} {i : Int32} {a : Nat} (hs : S 11 = false) : WP 84 G S (f + 1) 11 ls (.int i :: .ref a :: st) h k n = (oIld (iget h a 1) i (WP 84 G S f) 12 ls st h k n) := by rw [wp_s dd_84_11 rfl hs]; rfl
theorem dd_84_12 : decode (mB 84) 12 = .ok (.invokevirtual 78, 3) := by decide +kernel
theorem u_84_12 {G : aG} {S : Nat → Bool} {f : Nat} {st : List Value} {ls : aL} {h : aH} {k n : Nat} {v1 : Value} {b : Nat} (hs : S 12 = false) : WP 84 G S (f + 1) 12 ls (v1 :: .ref b :: st) h k n = (rcv (hget h b) 3 ∧ CAL G (WP 84 G S f) 58 [.ref b, v1] 15 ls st h k n) := by rw [wp_s dd_84_12 rfl hs]; rfl
theorem dd_84_15 : decode (mB 84) 15 = .ok (.aload_n 0, 1) := by decide +kernel
theorem u_84_15 {G : aG} {S : Nat → Bool} {f : Nat} {st : List Value} {ls : aL} {h : aH} {k n : Nat} (hs : S 15 = false) : WP 84 G S (f + 1) 15 ls st h k n = (oA (lget ls 0) (WP 84 G S f) 16 ls st h k n) := by rw [wp_s dd_84_15 rfl hs]; rfl
theorem dd_84_16 : decode (mB 84) 16 = .ok (.getfield 15, 3) := by decide +kernel
theorem u_84_16 {G : aG} {S : Nat → Bool} {f : Nat} {st : List Value} {ls : aL} {h : aH} {k n : Nat} {a : Nat} (hs : S 16 = false) : WP 84 G S (f + 1) 16 ls (.ref a :: st) h k n = (oV (fget h a 0 1) (WP 84 G S f) 19 ls st h k n) := by rw [wp_s dd_84_16 rfl hs]; rfl
theorem dd_84_19 : decode (mB 84) 19 = .ok (.aload_n 0, 1) := by decide +kernel
theorem u_84_19 {G : aG} {S : Nat → Bool} {f : Nat} {st : List Value} {ls : aL} {h : aH} {k n : Nat} (hs : S 19 = false) : WP 84 G S (f + 1) 19 ls st h k n = (oA (lget ls 0) (WP 84 G S f) 20 ls st h k n) := by rw [wp_s dd_84_19 rfl hs]; rfl
theorem dd_84_20 : decode (mB 84) 20 = .ok (.getfield 41, 3) := by decide +kernel
theorem u_84_20 {G : aG} {S : Nat → Bool} {f : Nat} {st : List Value} {ls : aL} {h : aH} {k n : Nat} {a : Nat} (hs : S 20 = false) : WP 84 G S (f + 1) 20 ls (.ref a :: st) h k n = (oV (fget h a 0 2) (WP 84 G S f) 23 ls st h k n) := by rw [wp_s dd_84_20 rfl hs]; rfl
theorem dd_84_23 : decode (mB 84) 23 = .ok (.iaload, 1) := by decide +kernel
theorem u_84_23 {G : aG} {S : Nat → Bool} {f : Nat} {st : List Value} {ls : aL} {h : aH} {k n : Nat} {i : Int32} {a : Nat} (hs : S 23 = false) : WP 84 G S (f + 1) 23 ls (.int i :: .ref a :: st) h k n = (oIld (iget h a 1) i (WP 84 G S f) 24 ls st h k n) := by rw [wp_s dd_84_23 rfl hs]; rfl
theorem dd_84_24 : decode (mB 84) 24 = .ok (.invokevirtual 96, 3) := by decide +kernel
theorem u_84_24 {G : aG} {S : Nat → Bool} {f : Nat} {st : List Value} {ls : aL} {h : aH} {k n : Nat} {v1 v2 v3 : Value} {b : Nat} (hs : S 24 = false) : WP 84 G S (f + 1) 24 ls (v3 :: v2 :: v1 :: .ref b :: st) h k n = (rcv (hget h b) 0 ∧ CAL G (WP 84 G S f) 80 [.ref b, v1, v2, v3] 27 ls st h k n) := by rw [wp_s dd_84_24 rfl hs]; rfl
theorem dd_84_27 : decode (mB 84) 27 = .ok (.return_, 1) := by decide +kernel
theorem u_84_27 {G : aG} {S : Nat → Bool} {f : Nat} {ls : aL} {h : aH} {k n : Nat} (hs : S 27 = false) : WP 84 G S (f + 1) 27 ls [] h k n = (RET G none h k n) := by rw [wp_s dd_84_27 rfl hs]; rfl
theorem dd_87_0 : decode (mB 87) 0 = .ok (.aload_n 0, 1) := by decide +kernel
theorem u_87_0 {G : aG} {S : Nat → Bool} {f : Nat} {st : List Value} {ls : aL} {h : aH} {k n : Nat} (hs : S 0 = false) : WP 87 G S (f + 1) 0 ls st h k n = (oA (lget ls 0) (WP 87 G S f) 1 ls st h k n) := by rw [wp_s dd_87_0 rfl hs]; rfl
theorem dd_87_1 : decode (mB 87) 1 = .ok (.getfield 57, 3) := by decide +kernel
theorem u_87_1 {G : aG} {S : Nat → Bool} {f : Nat} {st : List Value} {ls : aL} {h : aH} {k n : Nat} {a : Nat} (hs : S 1 = false) : WP 87 G S (f + 1) 1 ls (.ref a :: st) h k n = (oV (fget h a 0 7) (WP 87 G S f) 4 ls st h k n) := by rw [wp_s dd_87_1 rfl hs]; rfl
theorem dd_87_4 : decode (mB 87) 4 = .ok (.ifCond .ne 17, 3) := by decide +kernel
theorem u_87_4 {G : aG} {S : Nat → Bool} {f : Nat} {st : List Value} {ls : aL} {h : aH} {k n : Nat} {x : Int32} (hs : S 4 = false) : WP 87 G S (f + 1) 4 ls (.int x :: st) h k n = (if x = nI 0 then WP 87 G S f 7 ls st h k n else WP 87 G S f 21 ls st h k n) := by rw [wp_s dd_87_4 rfl hs]; exact br_iten (c := x = nI 0)
theorem dd_87_7 : decode (mB 87) 7 = .ok (.aload_n 0, 1) := by decide +kernel
theorem u_87_7 {G : aG} {S : Nat → Bool} {f : Nat} {st : List Value} {ls : aL} {h : aH} {k n : Nat} (hs : S 7 = false) : WP 87 G S (f + 1) 7 ls st h k n = (oA (lget ls 0) (WP 87 G S f) 8 ls st h k n) := by rw [wp_s dd_87_7 rfl hs]; rfl
theorem dd_87_8 : decode (mB 87) 8 = .ok (.getfield 60, 3) := by decide +kernel
theorem u_87_8 {G : aG} {S : Nat → Bool} {f : Nat} {st : List Value} {ls : aL} {h : aH} {k n : Nat} {a : Nat} (hs : S 8 = false) : WP 87 G S (f + 1) 8 ls (.ref a :: st) h k n = (oV (fget h a 0 4) (WP 87 G S f) 11 ls st h k n) := by rw [wp_s dd_87_8 rfl hs]; rfl
theorem dd_87_11 : decode (mB 87) 11 = .ok (.iconst (-1), 1) := by decide +kernel
theorem u_87_11 {G : aG} {S : Nat → Bool} {f : Nat} {st : List Value} {ls : aL} {h : aH} {k n : Nat} (hs : S 11 = false) : WP 87 G S (f + 1) 11 ls st h k n = (WP 87 G S f 12 ls (.int (-1) :: st) h k n) := by rw [wp_s dd_87_11 rfl hs]; rfl
theorem dd_87_12 : decode (mB 87) 12 = .ok (.if_icmp .ne 7, 3) := by decide +kernel
theorem u_87_12 {G : aG} {S : Nat → Bool} {f : Nat} {st : List Value} {ls : aL} {h : aH} {k n : Nat} {x y : Int32} (hs : S 12 = false) : WP 87 G S (f + 1) 12 ls (.int y :: .int x :: st) h k n = (if x = y then WP 87 G S f 15 ls st h k n else WP 87 G S f 19 ls st h k n) := by rw [wp_s dd_87_12 rfl hs]; exact br_iten (c := x = y)
theorem dd_87_15 : decode (mB 87) 15 = .ok (.fconst 1, 1) := by decide +kernel
theorem u_87_15 {G : aG} {S : Nat → Bool} {f : Nat} {st : List Value} {ls : aL} {h : aH} {k n : Nat} (hs : S 15 = false) : WP 87 G S (f + 1) 15 ls st h k n = (WP 87 G S f 16 ls (.float FP.fconst1 :: st) h k n) := by rw [wp_s dd_87_15 rfl hs]; rfl
theorem dd_87_16 : decode (mB 87) 16 = .ok (.goto 4, 3) := by decide +kernel
theorem u_87_16 {G : aG} {S : Nat → Bool} {f : Nat} {st : List Value} {ls : aL} {h : aH} {k n : Nat} (hs : S 16 = false) : WP 87 G S (f + 1) 16 ls st h k n = (WP 87 G S f 20 ls st h k n) := by rw [wp_s dd_87_16 rfl hs]; rfl
theorem dd_87_19 : decode (mB 87) 19 = .ok (.fconst 0, 1) := by decide +kernel
theorem u_87_19 {G : aG} {S : Nat → Bool} {f : Nat} {st : List Value} {ls : aL} {h : aH} {k n : Nat} (hs : S 19 = false) : WP 87 G S (f + 1) 19 ls st h k n = (WP 87 G S f 20 ls (.float FP.fconst0 :: st) h k n) := by rw [wp_s dd_87_19 rfl hs]; rfl
theorem dd_87_20 : decode (mB 87) 20 = .ok (.freturn, 1) := by decide +kernel
theorem u_87_20 {G : aG} {S : Nat → Bool} {f : Nat} {ls : aL} {h : aH} {k n : Nat} {x : UInt32} (hs : S 20 = false) : WP 87 G S (f + 1) 20 ls [.float x] h k n = (RET G (some (.float x)) h k n) := by rw [wp_s dd_87_20 rfl hs]; rfl
theorem dd_87_21 : decode (mB 87) 21 = .ok (.aload_n 0, 1) := by decide +kernel
theorem u_87_21 {G : aG} {S : Nat → Bool} {f : Nat} {st : List Value} {ls : aL} {h : aH} {k n : Nat} (hs : S 21 = false) : WP 87 G S (f + 1) 21 ls st h k n = (oA (lget ls 0) (WP 87 G S f) 22 ls st h k n) := by rw [wp_s dd_87_21 rfl hs]; rfl
theorem dd_87_22 : decode (mB 87) 22 = .ok (.getfield 60, 3) := by decide +kernel
theorem u_87_22 {G : aG} {S : Nat → Bool} {f : Nat} {st : List Value} {ls : aL} {h : aH} {k n : Nat} {a : Nat} (hs : S 22 = false) : WP 87 G S (f + 1) 22 ls (.ref a :: st) h k n = (oV (fget h a 0 4) (WP 87 G S f) 25 ls st h k n) := by rw [wp_s dd_87_22 rfl hs]; rfl
theorem dd_87_25 : decode (mB 87) 25 = .ok (.iconst (-1), 1) := by decide +kernel
theorem u_87_25 {G : aG} {S : Nat → Bool} {f : Nat} {st : List Value} {ls : aL} {h : aH} {k n : Nat} (hs : S 25 = false) : WP 87 G S (f + 1) 25 ls st h k n = (WP 87 G S f 26 ls (.int (-1) :: st) h k n) := by rw [wp_s dd_87_25 rfl hs]; rfl
theorem dd_87_26 : decode (mB 87) 26 = .ok (.if_icmp .ne 10, 3) := by decide +kernel
theorem u_87_26 {G : aG} {S : Nat → Bool} {f : Nat} {st : List Value} {ls : aL} {h : aH} {k n : Nat} {x y : Int32} (hs : S 26 = false) : WP 87 G S (f + 1) 26 ls (.int y :: .int x :: st) h k n = (if x = y then WP 87 G S f 29 ls st h k n else WP 87 G S f 36 ls st h k n) := by rw [wp_s dd_87_26 rfl hs]; exact br_iten (c := x = y)
theorem dd_87_29 : decode (mB 87) 29 = .ok (.aload_n 0, 1) := by decide +kernel
theorem u_87_29 {G : aG} {S : Nat → Bool} {f : Nat} {st : List Value} {ls : aL} {h : aH} {k n : Nat} (hs : S 29 = false) : WP 87 G S (f + 1) 29 ls st h k n = (oA (lget ls 0) (WP 87 G S f) 30 ls st h k n) := by rw [wp_s dd_87_29 rfl hs]; rfl
theorem dd_87_30 : decode (mB 87) 30 = .ok (.getfield 57, 3) := by decide +kernel
theorem u_87_30 {G : aG} {S : Nat → Bool} {f : Nat} {st : List Value} {ls : aL} {h : aH} {k n : Nat} {a : Nat} (hs : S 30 = false) : WP 87 G S (f + 1) 30 ls (.ref a :: st) h k n = (oV (fget h a 0 7) (WP 87 G S f) 33 ls st h k n) := by rw [wp_s dd_87_30 rfl hs]; rfl
theorem dd_87_33 : decode (mB 87) 33 = .ok (.goto 7, 3) := by decide +kernel
theorem u_87_33 {G : aG} {S : Nat → Bool} {f : Nat} {st : List Value} {ls : aL} {h : aH} {k n : Nat} (hs : S 33 = false) : WP 87 G S (f + 1) 33 ls st h k n = (WP 87 G S f 40 ls st h k n) := by rw [wp_s dd_87_33 rfl hs]; rfl
theorem dd_87_36 : decode (mB 87) 36 = .ok (.aload_n 0, 1) := by decide +kernel
theorem u_87_36 {G : aG} {S : Nat → Bool} {f : Nat} {st : List Value} {ls : aL} {h : aH} {k n : Nat} (hs : S 36 = false) : WP 87 G S (f + 1) 36 ls st h k n = (oA (lget ls 0) (WP 87 G S f) 37 ls st h k n) := by rw [wp_s dd_87_36 rfl hs]; rfl
theorem dd_87_37 : decode (mB 87) 37 = .ok (.getfield 63, 3) := by decide +kernel
theorem u_87_37 {G : aG} {S : Nat → Bool} {f : Nat} {st : List Value} {ls : aL} {h : aH} {k n : Nat} {a : Nat} (hs : S 37 = false) : WP 87 G S (f + 1) 37 ls (.ref a :: st) h k n = (oV (fget h a 0 8) (WP 87 G S f) 40 ls st h k n) := by rw [wp_s dd_87_37 rfl hs]; rfl
theorem dd_87_40 : decode (mB 87) 40 = .ok (.i2f, 1) := by decide +kernel
theorem u_87_40 {G : aG} {S : Nat → Bool} {f : Nat} {st : List Value} {ls : aL} {h : aH} {k n : Nat} {x : Int32} (hs : S 40 = false) : WP 87 G S (f + 1) 40 ls (.int x :: st) h k n = (WP 87 G S f 41 ls (.float (FP.i2f x) :: st) h k n) := by rw [wp_s dd_87_40 rfl hs]; rfl
theorem dd_87_41 : decode (mB 87) 41 = .ok (.aload_n 0, 1) := by decide +kernel
theorem u_87_41 {G : aG} {S : Nat → Bool} {f : Nat} {st : List Value} {ls : aL} {h : aH} {k n : Nat} (hs : S 41 = false) : WP 87 G S (f + 1) 41 ls st h k n = (oA (lget ls 0) (WP 87 G S f) 42 ls st h k n) := by rw [wp_s dd_87_41 rfl hs]; rfl
theorem dd_87_42 : decode (mB 87) 42 = .ok (.getfield 57, 3) := by decide +kernel
theorem u_87_42 {G : aG} {S : Nat → Bool} {f : Nat} {st : List Value} {ls : aL} {h : aH} {k n : Nat} {a : Nat} (hs : S 42 = false) : WP 87 G S (f + 1) 42 ls (.ref a :: st) h k n = (oV (fget h a 0 7) (WP 87 G S f) 45 ls st h k n) := by rw [wp_s dd_87_42 rfl hs]; rfl
theorem dd_87_45 : decode (mB 87) 45 = .ok (.i2f, 1) := by decide +kernel
theorem u_87_45 {G : aG} {S : Nat → Bool} {f : Nat} {st : List Value} {ls : aL} {h : aH} {k n : Nat} {x : Int32} (hs : S 45 = false) : WP 87 G S (f + 1) 45 ls (.int x :: st) h k n = (WP 87 G S f 46 ls (.float (FP.i2f x) :: st) h k n) := by rw [wp_s dd_87_45 rfl hs]; rfl
theorem dd_87_46 : decode (mB 87) 46 = .ok (.fdiv, 1) := by decide +kernel
theorem u_87_46 {G : aG} {S : Nat → Bool} {f : Nat} {st : List Value} {ls : aL} {h : aH} {k n : Nat} {x y : UInt32} (hs : S 46 = false) : WP 87 G S (f + 1) 46 ls (.float y :: .float x :: st) h k n = (vf_n32 (FP.fdiv x y) ∧ WP 87 G S f 47 ls (.float (FP.fdiv x y) :: st) h k n) := by rw [wp_s dd_87_46 rfl hs]; rfl
theorem dd_87_47 : decode (mB 87) 47 = .ok (.freturn, 1) := by decide +kernel
theorem u_87_47 {G : aG} {S : Nat → Bool} {f : Nat} {ls : aL} {h : aH} {k n : Nat} {x : UInt32} (hs : S 47 = false) : WP 87 G S (f + 1) 47 ls [.float x] h k n = (RET G (some (.float x)) h k n) := by rw [wp_s dd_87_47 rfl hs]; rfl
