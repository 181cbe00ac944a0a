/-! rows of 8 Plan.init, 13 Plan.findNodes, 14 Plan.measure, 16 Plan.findPlaces, 17 Plan.allows, 18 Plan.findMoves, 19 Plan.leave, 20 Plan.keepMove, 22 Plan.leaveTimes, 23 Plan.leaveMix, 24 Plan.leavePair, 63 Plan.shortestRow, 74 Plan.addTargets -/
theorem dd_8_0 : decode (mB 8) 0 = .ok (.aload_n 0, 1) := by decide +kernel
theorem u_8_0 {G : aG} {S : Nat → Bool} {f : Nat} {st : List Value} {ls : aL} {h : aH} {k n : Nat} (hs : S 0 = false) : WP 8 G S (f + 1) 0 ls st h k n = (oA (lget ls 0) (WP 8 G S f) 1 ls st h k n) := by rw [wp_s dd_8_0 rfl hs]; rfl
theorem dd_8_1 : decode (mB 8) 1 = .ok (.invokespecial 3, 3) := by decide +kernel
theorem u_8_1 {G : aG} {S : Nat → Bool} {f : Nat} {st : List Value} {ls : aL} {h : aH} {k n : Nat} {a : Nat} (hs : S 1 = false) : WP 8 G S (f + 1) 1 ls (.ref a :: st) h k n = ((st.map fun v => v.category).sum ≤ 8 ∧ 1 ≤ gD G ∧ WP 8 G S f 4 ls st h k n) := by rw [wp_s dd_8_1 rfl hs]; rfl
theorem dd_8_4 : decode (mB 8) 4 = .ok (.aload_n 0, 1) := by decide +kernel
theorem u_8_4 {G : aG} {S : Nat → Bool} {f : Nat} {st : List Value} {ls : aL} {h : aH} {k n : Nat} (hs : S 4 = false) : WP 8 G S (f + 1) 4 ls st h k n = (oA (lget ls 0) (WP 8 G S f) 5 ls st h k n) := by rw [wp_s dd_8_4 rfl hs]; rfl
theorem dd_8_5 : decode (mB 8) 5 = .ok (.bipush 16, 2) := by decide +kernel
theorem u_8_5 {G : aG} {S : Nat → Bool} {f : Nat} {st : List Value} {ls : aL} {h : aH} {k n : Nat} (hs : S 5 = false) : WP 8 G S (f + 1) 5 ls st h k n = (WP 8 G S f 7 ls (.int (nI 16) :: st) h k n) := by rw [wp_s dd_8_5 rfl hs]; rfl
theorem dd_8_7 : decode (mB 8) 7 = .ok (.newarray .int, 2) := by decide +kernel
theorem u_8_7 {G : aG} {S : Nat → Bool} {f : Nat} {st : List Value} {ls : aL} {h : aH} {k n : Nat} {x : Int32} (hs : S 7 = false) : WP 8 G S (f + 1) 7 ls (.int x :: st) h k n = (¬ x < 0 ∧ x.toNatClampNeg * 4 ≤ 536870912 ∧ oNew G (cI x.toNatClampNeg) x.toNatClampNeg (WP 8 G S f) 9 ls st h k n) := by rw [wp_s dd_8_7 rfl hs]; rfl
theorem dd_8_9 : decode (mB 8) 9 = .ok (.putfield 9, 3) := by decide +kernel
theorem u_8_9 {G : aG} {S : Nat → Bool} {f : Nat} {st : List Value} {ls : aL} {h : aH} {k n : Nat} {a : Nat} {x : Nat} (hs : S 9 = false) : WP 8 G S (f + 1) 9 ls (.ref x :: .ref a :: st) h k n = (oH (fput h a 5 0 (.ref x)) (WP 8 G S f) 12 ls st k n) := by rw [wp_s dd_8_9 rfl hs]; rfl
theorem dd_8_12 : decode (mB 8) 12 = .ok (.aload_n 0, 1) := by decide +kernel
theorem u_8_12 {G : aG} {S : Nat → Bool} {f : Nat} {st : List Value} {ls : aL} {h : aH} {k n : Nat} (hs : S 12 = false) : WP 8 G S (f + 1) 12 ls st h k n = (oA (lget ls 0) (WP 8 G S f) 13 ls st h k n) := by rw [wp_s dd_8_12 rfl hs]; rfl
theorem dd_8_13 : decode (mB 8) 13 = .ok (.bipush 16, 2) := by decide +kernel
theorem u_8_13 {G : aG} {S : Nat → Bool} {f : Nat} {st : List Value} {ls : aL} {h : aH} {k n : Nat} (hs : S 13 = false) : WP 8 G S (f + 1) 13 ls st h k n = (WP 8 G S f 15 ls (.int (nI 16) :: st) h k n) := by rw [wp_s dd_8_13 rfl hs]; rfl
theorem dd_8_15 : decode (mB 8) 15 = .ok (.newarray .int, 2) := by decide +kernel
theorem u_8_15 {G : aG} {S : Nat → Bool} {f : Nat} {st : List Value} {ls : aL} {h : aH} {k n : Nat} {x : Int32} (hs : S 15 = false) : WP 8 G S (f + 1) 15 ls (.int x :: st) h k n = (¬ x < 0 ∧ x.toNatClampNeg * 4 ≤ 536870912 ∧ oNew G (cI x.toNatClampNeg) x.toNatClampNeg (WP 8 G S f) 17 ls st h k n) := by rw [wp_s dd_8_15 rfl hs]; rfl
theorem dd_8_17 : decode (mB 8) 17 = .ok (.putfield 15, 3) := by decide +kernel
theorem u_8_17 {G : aG} {S : Nat → Bool} {f : Nat} {st : List Value} {ls : aL} {h : aH} {k n : Nat} {a : Nat} {x : Nat} (hs : S 17 = false) : WP 8 G S (f + 1) 17 ls (.ref x :: .ref a :: st) h k n = (oH (fput h a 5 1 (.ref x)) (WP 8 G S f) 20 ls st k n) := by rw [wp_s dd_8_17 rfl hs]; rfl
theorem dd_8_20 : decode (mB 8) 20 = .ok (.aload_n 0, 1) := by decide +kernel
theorem u_8_20 {G : aG} {S : Nat → Bool} {f : Nat} {st : List Value} {ls : aL} {h : aH} {k n : Nat} (hs : S 20 = false) : WP 8 G S (f + 1) 20 ls st h k n = (oA (lget ls 0) (WP 8 G S f) 21 ls st h k n) := by rw [wp_s dd_8_20 rfl hs]; rfl
theorem dd_8_21 : decode (mB 8) 21 = .ok (.bipush 16, 2) := by decide +kernel
theorem u_8_21 {G : aG} {S : Nat → Bool} {f : Nat} {st : List Value} {ls : aL} {h : aH} {k n : Nat} (hs : S 21 = false) : WP 8 G S (f + 1) 21 ls st h k n = (WP 8 G S f 23 ls (.int (nI 16) :: st) h k n) := by rw [wp_s dd_8_21 rfl hs]; rfl
theorem dd_8_23 : decode (mB 8) 23 = .ok (.newarray .int, 2) := by decide +kernel
theorem u_8_23 {G : aG} {S : Nat → Bool} {f : Nat} {st : List Value} {ls : aL} {h : aH} {k n : Nat} {x : Int32} (hs : S 23 = false) : WP 8 G S (f + 1) 23 ls (.int x :: st) h k n = (¬ x < 0 ∧ x.toNatClampNeg * 4 ≤ 536870912 ∧ oNew G (cI x.toNatClampNeg) x.toNatClampNeg (WP 8 G S f) 25 ls st h k n) := by rw [wp_s dd_8_23 rfl hs]; rfl
theorem dd_8_25 : decode (mB 8) 25 = .ok (.putfield 18, 3) := by decide +kernel
theorem u_8_25 {G : aG} {S : Nat → Bool} {f : Nat} {st : List Value} {ls : aL} {h : aH} {k n : Nat} {a : Nat} {x : Nat} (hs : S 25 = false) : WP 8 G S (f + 1) 25 ls (.ref x :: .ref a :: st) h k n = (oH (fput h a 5 2 (.ref x)) (WP 8 G S f) 28 ls st k n) := by rw [wp_s dd_8_25 rfl hs]; rfl
theorem dd_8_28 : decode (mB 8) 28 = .ok (.aload_n 0, 1) := by decide +kernel
theorem u_8_28 {G : aG} {S : Nat → Bool} {f : Nat} {st : List Value} {ls : aL} {h : aH} {k n : Nat} (hs : S 28 = false) : WP 8 G S (f + 1) 28 ls st h k n = (oA (lget ls 0) (WP 8 G S f) 29 ls st h k n) := by rw [wp_s dd_8_28 rfl hs]; rfl
theorem dd_8_29 : decode (mB 8) 29 = .ok (.bipush 16, 2) := by decide +kernel
theorem u_8_29 {G : aG} {S : Nat → Bool} {f : Nat} {st : List Value} {ls : aL} {h : aH} {k n : Nat} (hs : S 29 = false) : WP 8 G S (f + 1) 29 ls st h k n = (WP 8 G S f 31 ls (.int (nI 16) :: st) h k n) := by rw [wp_s dd_8_29 rfl hs]; rfl
theorem dd_8_31 : decode (mB 8) 31 = .ok (.newarray .int, 2) := by decide +kernel
theorem u_8_31 {G : aG} {S : Nat → Bool} {f : Nat} {st : List Value} {ls : aL} {h : aH} {k n : Nat} {x : Int32} (hs : S 31 = false) : WP 8 G S (f + 1) 31 ls (.int x :: st) h k n = (¬ x < 0 ∧ x.toNatClampNeg * 4 ≤ 536870912 ∧ oNew G (cI x.toNatClampNeg) x.toNatClampNeg (WP 8 G S f) 33 ls st h k n) := by rw [wp_s dd_8_31 rfl hs]; rfl
theorem dd_8_33 : decode (mB 8) 33 = .ok (.putfield 21, 3) := by decide +kernel
theorem u_8_33 {G : aG} {S : Nat → Bool} {f : Nat} {st : List Value} {ls : aL} {h : aH} {k n : Nat} {a : Nat} {x : Nat} (hs : S 33 = false) : WP 8 G S (f + 1) 33 ls (.ref x :: .ref a :: st) h k n = (oH (fput h a 5 3 (.ref x)) (WP 8 G S f) 36 ls st k n) := by rw [wp_s dd_8_33 rfl hs]; rfl
theorem dd_8_36 : decode (mB 8) 36 = .ok (.aload_n 0, 1) := by decide +kernel
theorem u_8_36 {G : aG} {S : Nat → Bool} {f : Nat} {st : List Value} {ls : aL} {h : aH} {k n : Nat} (hs : S 36 = false) : WP 8 G S (f + 1) 36 ls st h k n = (oA (lget ls 0) (WP 8 G S f) 37 ls st h k n) := by rw [wp_s dd_8_36 rfl hs]; rfl
theorem dd_8_37 : decode (mB 8) 37 = .ok (.bipush 16, 2) := by decide +kernel
theorem u_8_37 {G : aG} {S : Nat → Bool} {f : Nat} {st : List Value} {ls : aL} {h : aH} {k n : Nat} (hs : S 37 = false) : WP 8 G S (f + 1) 37 ls st h k n = (WP 8 G S f 39 ls (.int (nI 16) :: st) h k n) := by rw [wp_s dd_8_37 rfl hs]; rfl
theorem dd_8_39 : decode (mB 8) 39 = .ok (.newarray .int, 2) := by decide +kernel
theorem u_8_39 {G : aG} {S : Nat → Bool} {f : Nat} {st : List Value} {ls : aL} {h : aH} {k n : Nat} {x : Int32} (hs : S 39 = false) : WP 8 G S (f + 1) 39 ls (.int x :: st) h k n = (¬ x < 0 ∧ x.toNatClampNeg * 4 ≤ 536870912 ∧ oNew G (cI x.toNatClampNeg) x.toNatClampNeg (WP 8 G S f) 41 ls st h k n) := by rw [wp_s dd_8_39 rfl hs]; rfl
theorem dd_8_41 : decode (mB 8) 41 = .ok (.putfield 24, 3) := by decide +kernel
theorem u_8_41 {G : aG} {S : Nat → Bool} {f : Nat} {st : List Value} {ls : aL} {h : aH} {k n : Nat} {a : Nat} {x : Nat} (hs : S 41 = false) : WP 8 G S (f + 1) 41 ls (.ref x :: .ref a :: st) h k n = (oH (fput h a 5 4 (.ref x)) (WP 8 G S f) 44 ls st k n) := by rw [wp_s dd_8_41 rfl hs]; rfl
theorem dd_8_44 : decode (mB 8) 44 = .ok (.aload_n 0, 1) := by decide +kernel
theorem u_8_44 {G : aG} {S : Nat → Bool} {f : Nat} {st : List Value} {ls : aL} {h : aH} {k n : Nat} (hs : S 44 = false) : WP 8 G S (f + 1) 44 ls st h k n = (oA (lget ls 0) (WP 8 G S f) 45 ls st h k n) := by rw [wp_s dd_8_44 rfl hs]; rfl
theorem dd_8_45 : decode (mB 8) 45 = .ok (.iconst 4, 1) := by decide +kernel
theorem u_8_45 {G : aG} {S : Nat → Bool} {f : Nat} {st : List Value} {ls : aL} {h : aH} {k n : Nat} (hs : S 45 = false) : WP 8 G S (f + 1) 45 ls st h k n = (WP 8 G S f 46 ls (.int (nI 4) :: st) h k n) := by rw [wp_s dd_8_45 rfl hs]; rfl
theorem dd_8_46 : decode (mB 8) 46 = .ok (.newarray .int, 2) := by decide +kernel
theorem u_8_46 {G : aG} {S : Nat → Bool} {f : Nat} {st : List Value} {ls : aL} {h : aH} {k n : Nat} {x : Int32} (hs : S 46 = false) : WP 8 G S (f + 1) 46 ls (.int x :: st) h k n = (¬ x < 0 ∧ x.toNatClampNeg * 4 ≤ 536870912 ∧ oNew G (cI x.toNatClampNeg) x.toNatClampNeg (WP 8 G S f) 48 ls st h k n) := by rw [wp_s dd_8_46 rfl hs]; rfl
theorem dd_8_48 : decode (mB 8) 48 = .ok (.putfield 27, 3) := by decide +kernel
theorem u_8_48 {G : aG} {S : Nat → Bool} {f : Nat} {st : List Value} {ls : aL} {h : aH} {k n : Nat} {a : Nat} {x : Nat} (hs : S 48 = false) : WP 8 G S (f + 1) 48 ls (.ref x :: .ref a :: st) h k n = (oH (fput h a 5 8 (.ref x)) (WP 8 G S f) 51 ls st k n) := by rw [wp_s dd_8_48 rfl hs]; rfl
theorem dd_8_51 : decode (mB 8) 51 = .ok (.aload_n 0, 1) := by decide +kernel
theorem u_8_51 {G : aG} {S : Nat → Bool} {f : Nat} {st : List Value} {ls : aL} {h : aH} {k n : Nat} (hs : S 51 = false) : WP 8 G S (f + 1) 51 ls st h k n = (oA (lget ls 0) (WP 8 G S f) 52 ls st h k n) := by rw [wp_s dd_8_51 rfl hs]; rfl
theorem dd_8_52 : decode (mB 8) 52 = .ok (.iconst 4, 1) := by decide +kernel
theorem u_8_52 {G : aG} {S : Nat → Bool} {f : Nat} {st : List Value} {ls : aL} {h : aH} {k n : Nat} (hs : S 52 = false) : WP 8 G S (f + 1) 52 ls st h k n = (WP 8 G S f 53 ls (.int (nI 4) :: st) h k n) := by rw [wp_s dd_8_52 rfl hs]; rfl
theorem dd_8_53 : decode (mB 8) 53 = .ok (.newarray .int, 2) := by decide +kernel
theorem u_8_53 {G : aG} {S : Nat → Bool} {f : Nat} {st : List Value} {ls : aL} {h : aH} {k n : Nat} {x : Int32} (hs : S 53 = false) : WP 8 G S (f + 1) 53 ls (.int x :: st) h k n = (¬ x < 0 ∧ x.toNatClampNeg * 4 ≤ 536870912 ∧ oNew G (cI x.toNatClampNeg) x.toNatClampNeg (WP 8 G S f) 55 ls st h k n) := by rw [wp_s dd_8_53 rfl hs]; rfl
theorem dd_8_55 : decode (mB 8) 55 = .ok (.putfield 30, 3) := by decide +kernel
theorem u_8_55 {G : aG} {S : Nat → Bool} {f : Nat} {st : List Value} {ls : aL} {h : aH} {k n : Nat} {a : Nat} {x : Nat} (hs : S 55 = false) : WP 8 G S (f + 1) 55 ls (.ref x :: .ref a :: st) h k n = (oH (fput h a 5 9 (.ref x)) (WP 8 G S f) 58 ls st k n) := by rw [wp_s dd_8_55 rfl hs]; rfl
theorem dd_8_58 : decode (mB 8) 58 = .ok (.aload_n 0, 1) := by decide +kernel
theorem u_8_58 {G : aG} {S : Nat → Bool} {f : Nat} {st : List Value} {ls : aL} {h : aH} {k n : Nat} (hs : S 58 = false) : WP 8 G S (f + 1) 58 ls st h k n = (oA (lget ls 0) (WP 8 G S f) 59 ls st h k n) := by rw [wp_s dd_8_58 rfl hs]; rfl
theorem dd_8_59 : decode (mB 8) 59 = .ok (.iconst 4, 1) := by decide +kernel
theorem u_8_59 {G : aG} {S : Nat → Bool} {f : Nat} {st : List Value} {ls : aL} {h : aH} {k n : Nat} (hs : S 59 = false) : WP 8 G S (f + 1) 59 ls st h k n = (WP 8 G S f 60 ls (.int (nI 4) :: st) h k n) := by rw [wp_s dd_8_59 rfl hs]; rfl
theorem dd_8_60 : decode (mB 8) 60 = .ok (.newarray .int, 2) := by decide +kernel
theorem u_8_60 {G : aG} {S : Nat → Bool} {f : Nat} {st : List Value} {ls : aL} {h : aH} {k n : Nat} {x : Int32} (hs : S 60 = false) : WP 8 G S (f + 1) 60 ls (.int x :: st) h k n = (¬ x < 0 ∧ x.toNatClampNeg * 4 ≤ 536870912 ∧ oNew G (cI x.toNatClampNeg) x.toNatClampNeg (WP 8 G S f) 62 ls st h k n) := by rw [wp_s dd_8_60 rfl hs]; rfl
theorem dd_8_62 : decode (mB 8) 62 = .ok (.putfield 33, 3) := by decide +kernel
theorem u_8_62 {G : aG} {S : Nat → Bool} {f : Nat} {st : List Value} {ls : aL} {h : aH} {k n : Nat} {a : Nat} {x : Nat} (hs : S 62 = false) : WP 8 G S (f + 1) 62 ls (.ref x :: .ref a :: st) h k n = (oH (fput h a 5 10 (.ref x)) (WP 8 G S f) 65 ls st k n) := by rw [wp_s dd_8_62 rfl hs]; rfl
theorem dd_8_65 : decode (mB 8) 65 = .ok (.aload_n 0, 1) := by decide +kernel
theorem u_8_65 {G : aG} {S : Nat → Bool} {f : Nat} {st : List Value} {ls : aL} {h : aH} {k n : Nat} (hs : S 65 = false) : WP 8 G S (f + 1) 65 ls st h k n = (oA (lget ls 0) (WP 8 G S f) 66 ls st h k n) := by rw [wp_s dd_8_65 rfl hs]; rfl
theorem dd_8_66 : decode (mB 8) 66 = .ok (.iconst 4, 1) := by decide +kernel
theorem u_8_66 {G : aG} {S : Nat → Bool} {f : Nat} {st : List Value} {ls : aL} {h : aH} {k n : Nat} (hs : S 66 = false) : WP 8 G S (f + 1) 66 ls st h k n = (WP 8 G S f 67 ls (.int (nI 4) :: st) h k n) := by rw [wp_s dd_8_66 rfl hs]; rfl
theorem dd_8_67 : decode (mB 8) 67 = .ok (.newarray .int, 2) := by decide +kernel
theorem u_8_67 {G : aG} {S : Nat → Bool} {f : Nat} {st : List Value} {ls : aL} {h : aH} {k n : Nat} {x : Int32} (hs : S 67 = false) : WP 8 G S (f + 1) 67 ls (.int x :: st) h k n = (¬ x < 0 ∧ x.toNatClampNeg * 4 ≤ 536870912 ∧ oNew G (cI x.toNatClampNeg) x.toNatClampNeg (WP 8 G S f) 69 ls st h k n) := by rw [wp_s dd_8_67 rfl hs]; rfl
theorem dd_8_69 : decode (mB 8) 69 = .ok (.putfield 36, 3) := by decide +kernel
theorem u_8_69 {G : aG} {S : Nat → Bool} {f : Nat} {st : List Value} {ls : aL} {h : aH} {k n : Nat} {a : Nat} {x : Nat} (hs : S 69 = false) : WP 8 G S (f + 1) 69 ls (.ref x :: .ref a :: st) h k n = (oH (fput h a 5 11 (.ref x)) (WP 8 G S f) 72 ls st k n) := by rw [wp_s dd_8_69 rfl hs]; rfl
theorem dd_8_72 : decode (mB 8) 72 = .ok (.return_, 1) := by decide +kernel
theorem u_8_72 {G : aG} {S : Nat → Bool} {f : Nat} {ls : aL} {h : aH} {k n : Nat} (hs : S 72 = false) : WP 8 G S (f + 1) 72 ls [] h k n = (RET G none h k n) := by rw [wp_s dd_8_72 rfl hs]; rfl
theorem dd_13_0 : decode (mB 13) 0 = .ok (.aload_n 0, 1) := by decide +kernel
theorem u_13_0 {G : aG} {S : Nat → Bool} {f : Nat} {st : List Value} {ls : aL} {h : aH} {k n : Nat} (hs : S 0 = false) : WP 13 G S (f + 1) 0 ls st h k n = (oA (lget ls 0) (WP 13 G S f) 1 ls st h k n) := by rw [wp_s dd_13_0 rfl hs]; rfl
theorem dd_13_1 : decode (mB 13) 1 = .ok (.iconst (-1), 1) := by decide +kernel
theorem u_13_1 {G : aG} {S : Nat → Bool} {f : Nat} {st : List Value} {ls : aL} {h : aH} {k n : Nat} (hs : S 1 = false) : WP 13 G S (f + 1) 1 ls st h k n = (WP 13 G S f 2 ls (.int (-1) :: st) h k n) := by rw [wp_s dd_13_1 rfl hs]; rfl
theorem dd_13_2 : decode (mB 13) 2 = .ok (.putfield 39, 3) := by decide +kernel
theorem u_13_2 {G : aG} {S : Nat → Bool} {f : Nat} {st : List Value} {ls : aL} {h : aH} {k n : Nat} {a : Nat} {x : Int32} (hs : S 2 = false) : WP 13 G S (f + 1) 2 ls (.int x :: .ref a :: st) h k n = (oH (fput h a 5 5 (.int x)) (WP 13 G S f) 5 ls st k n) := by rw [wp_s dd_13_2 rfl hs]; rfl
theorem dd_13_5 : decode (mB 13) 5 = .ok (.aload_n 0, 1) := by decide +kernel
theorem u_13_5 {G : aG} {S : Nat → Bool} {f : Nat} {st : List Value} {ls : aL} {h : aH} {k n : Nat} (hs : S 5 = false) : WP 13 G S (f + 1) 5 ls st h k n = (oA (lget ls 0) (WP 13 G S f) 6 ls st h k n) := by rw [wp_s dd_13_5 rfl hs]; rfl
theorem dd_13_6 : decode (mB 13) 6 = .ok (.iconst 0, 1) := by decide +kernel
theorem u_13_6 {G : aG} {S : Nat → Bool} {f : Nat} {st : List Value} {ls : aL} {h : aH} {k n : Nat} (hs : S 6 = false) : WP 13 G S (f + 1) 6 ls st h k n = (WP 13 G S f 7 ls (.int (nI 0) :: st) h k n) := by rw [wp_s dd_13_6 rfl hs]; rfl
theorem dd_13_7 : decode (mB 13) 7 = .ok (.putfield 43, 3) := by decide +kernel
theorem u_13_7 {G : aG} {S : Nat → Bool} {f : Nat} {st : List Value} {ls : aL} {h : aH} {k n : Nat} {a : Nat} {x : Int32} (hs : S 7 = false) : WP 13 G S (f + 1) 7 ls (.int x :: .ref a :: st) h k n = (oH (fput h a 5 7 (.int x)) (WP 13 G S f) 10 ls st k n) := by rw [wp_s dd_13_7 rfl hs]; rfl
theorem dd_13_10 : decode (mB 13) 10 = .ok (.iconst 0, 1) := by decide +kernel
theorem u_13_10 {G : aG} {S : Nat → Bool} {f : Nat} {st : List Value} {ls : aL} {h : aH} {k n : Nat} (hs : S 10 = false) : WP 13 G S (f + 1) 10 ls st h k n = (WP 13 G S f 11 ls (.int (nI 0) :: st) h k n) := by rw [wp_s dd_13_10 rfl hs]; rfl
theorem dd_13_11 : decode (mB 13) 11 = .ok (.istore_n 3, 1) := by decide +kernel
theorem u_13_11 {G : aG} {S : Nat → Bool} {f : Nat} {st : List Value} {ls : aL} {h : aH} {k n : Nat} {x : Int32} (hs : S 11 = false) : WP 13 G S (f + 1) 11 ls (.int x :: st) h k n = (WP 13 G S f 12 (lput1 ls 3 (.int x)) st h k n) := by rw [wp_s dd_13_11 rfl hs]; rfl
theorem dd_13_12 : decode (mB 13) 12 = .ok (.iload_n 3, 1) := by decide +kernel
theorem u_13_12 {G : aG} {S : Nat → Bool} {f : Nat} {st : List Value} {ls : aL} {h : aH} {k n : Nat} (hs : S 12 = false) : WP 13 G S (f + 1) 12 ls st h k n = (oI (lget ls 3) (WP 13 G S f) 13 ls st h k n) := by rw [wp_s dd_13_12 rfl hs]; rfl
theorem v_13_12 {G : aG} {S : Nat → Bool} {f : Nat} {st : List Value} {ls : aL} {h : aH} {k n : Nat} : WQ 13 G S f 12 ls st h k n = (oI (lget ls 3) (WP 13 G S f) 13 ls st h k n) := by rw [wq_s dd_13_12 rfl]; rfl
theorem dd_13_13 : decode (mB 13) 13 = .ok (.bipush 16, 2) := by decide +kernel
theorem u_13_13 {G : aG} {S : Nat → Bool} {f : Nat} {st : List Value} {ls : aL} {h : aH} {k n : Nat} (hs : S 13 = false) : WP 13 G S (f + 1) 13 ls st h k n = (WP 13 G S f 15 ls (.int (nI 16) :: st) h k n) := by rw [wp_s dd_13_13 rfl hs]; rfl
theorem dd_13_15 : decode (mB 13) 15 = .ok (.if_icmp .ge 46, 3) := by decide +kernel
theorem u_13_15 {G : aG} {S : Nat → Bool} {f : Nat} {st : List Value} {ls : aL} {h : aH} {k n : Nat} {x y : Int32} (hs : S 15 = false) : WP 13 G S (f + 1) 15 ls (.int y :: .int x :: st) h k n = (if y ≤ x then WP 13 G S f 61 ls st h k n else WP 13 G S f 18 ls st h k n) := by rw [wp_s dd_13_15 rfl hs]; exact br_ite (c := y ≤ x)
theorem dd_13_18 : decode (mB 13) 18 = .ok (.lload_n 1, 1) := by decide +kernel
theorem u_13_18 {G : aG} {S : Nat → Bool} {f : Nat} {st : List Value} {ls : aL} {h : aH} {k n : Nat} (hs : S 18 = false) : WP 13 G S (f + 1) 18 ls st h k n = (oJ (lget ls 1) (WP 13 G S f) 19 ls st h k n) := by rw [wp_s dd_13_18 rfl hs]; rfl
theorem dd_13_19 : decode (mB 13) 19 = .ok (.iconst 4, 1) := by decide +kernel
theorem u_13_19 {G : aG} {S : Nat → Bool} {f : Nat} {st : List Value} {ls : aL} {h : aH} {k n : Nat} (hs : S 19 = false) : WP 13 G S (f + 1) 19 ls st h k n = (WP 13 G S f 20 ls (.int (nI 4) :: st) h k n) := by rw [wp_s dd_13_19 rfl hs]; rfl
theorem dd_13_20 : decode (mB 13) 20 = .ok (.iload_n 3, 1) := by decide +kernel
theorem u_13_20 {G : aG} {S : Nat → Bool} {f : Nat} {st : List Value} {ls : aL} {h : aH} {k n : Nat} (hs : S 20 = false) : WP 13 G S (f + 1) 20 ls st h k n = (oI (lget ls 3) (WP 13 G S f) 21 ls st h k n) := by rw [wp_s dd_13_20 rfl hs]; rfl
theorem dd_13_21 : decode (mB 13) 21 = .ok (.imul, 1) := by decide +kernel
theorem u_13_21 {G : aG} {S : Nat → Bool} {f : Nat} {st : List Value} {ls : aL} {h : aH} {k n : Nat} {x y : Int32} (hs : S 21 = false) : WP 13 G S (f + 1) 21 ls (.int y :: .int x :: st) h k n = (WP 13 G S f 22 ls (.int (x * y) :: st) h k n) := by rw [wp_s dd_13_21 rfl hs]; rfl
theorem dd_13_22 : decode (mB 13) 22 = .ok (.lushr, 1) := by decide +kernel
theorem u_13_22 {G : aG} {S : Nat → Bool} {f : Nat} {st : List Value} {ls : aL} {h : aH} {k n : Nat} {x : Int64} {y : Int32} (hs : S 22 = false) : WP 13 G S (f + 1) 22 ls (.int y :: .long x :: st) h k n = (WP 13 G S f 23 ls (.long ((x.toUInt64 >>> (y.toInt64.toUInt64 &&& Int64.toUInt64 63)).toInt64) :: st) h k n) := by rw [wp_s dd_13_22 rfl hs]; rfl
theorem dd_13_23 : decode (mB 13) 23 = .ok (.l2i, 1) := by decide +kernel
theorem u_13_23 {G : aG} {S : Nat → Bool} {f : Nat} {st : List Value} {ls : aL} {h : aH} {k n : Nat} {x : Int64} (hs : S 23 = false) : WP 13 G S (f + 1) 23 ls (.long x :: st) h k n = (WP 13 G S f 24 ls (.int x.toInt32 :: st) h k n) := by rw [wp_s dd_13_23 rfl hs]; rfl
theorem dd_13_24 : decode (mB 13) 24 = .ok (.bipush 15, 2) := by decide +kernel
theorem u_13_24 {G : aG} {S : Nat → Bool} {f : Nat} {st : List Value} {ls : aL} {h : aH} {k n : Nat} (hs : S 24 = false) : WP 13 G S (f + 1) 24 ls st h k n = (WP 13 G S f 26 ls (.int (nI 15) :: st) h k n) := by rw [wp_s dd_13_24 rfl hs]; rfl
theorem dd_13_26 : decode (mB 13) 26 = .ok (.iand, 1) := by decide +kernel
theorem u_13_26 {G : aG} {S : Nat → Bool} {f : Nat} {st : List Value} {ls : aL} {h : aH} {k n : Nat} {x y : Int32} (hs : S 26 = false) : WP 13 G S (f + 1) 26 ls (.int y :: .int x :: st) h k n = (WP 13 G S f 27 ls (.int (x &&& y) :: st) h k n) := by rw [wp_s dd_13_26 rfl hs]; rfl
theorem dd_13_27 : decode (mB 13) 27 = .ok (.istore 4, 2) := by decide +kernel
theorem u_13_27 {G : aG} {S : Nat → Bool} {f : Nat} {st : List Value} {ls : aL} {h : aH} {k n : Nat} {x : Int32} (hs : S 27 = false) : WP 13 G S (f + 1) 27 ls (.int x :: st) h k n = (WP 13 G S f 29 (lput1 ls 4 (.int x)) st h k n) := by rw [wp_s dd_13_27 rfl hs]; rfl
theorem dd_13_29 : decode (mB 13) 29 = .ok (.iload 4, 2) := by decide +kernel
theorem u_13_29 {G : aG} {S : Nat → Bool} {f : Nat} {st : List Value} {ls : aL} {h : aH} {k n : Nat} (hs : S 29 = false) : WP 13 G S (f + 1) 29 ls st h k n = (oI (lget ls 4) (WP 13 G S f) 31 ls st h k n) := by rw [wp_s dd_13_29 rfl hs]; rfl
theorem dd_13_31 : decode (mB 13) 31 = .ok (.ifCond .ne 6, 3) := by decide +kernel
theorem u_13_31 {G : aG} {S : Nat → Bool} {f : Nat} {st : List Value} {ls : aL} {h : aH} {k n : Nat} {x : Int32} (hs : S 31 = false) : WP 13 G S (f + 1) 31 ls (.int x :: st) h k n = (if x = nI 0 then WP 13 G S f 34 ls st h k n else WP 13 G S f 37 ls st h k n) := by rw [wp_s dd_13_31 rfl hs]; exact br_iten (c := x = nI 0)
theorem dd_13_34 : decode (mB 13) 34 = .ok (.goto 27, 3) := by decide +kernel
theorem u_13_34 {G : aG} {S : Nat → Bool} {f : Nat} {st : List Value} {ls : aL} {h : aH} {k n : Nat} (hs : S 34 = false) : WP 13 G S (f + 1) 34 ls st h k n = (WP 13 G S f 61 ls st h k n) := by rw [wp_s dd_13_34 rfl hs]; rfl
theorem dd_13_37 : decode (mB 13) 37 = .ok (.aload_n 0, 1) := by decide +kernel
theorem u_13_37 {G : aG} {S : Nat → Bool} {f : Nat} {st : List Value} {ls : aL} {h : aH} {k n : Nat} (hs : S 37 = false) : WP 13 G S (f + 1) 37 ls st h k n = (oA (lget ls 0) (WP 13 G S f) 38 ls st h k n) := by rw [wp_s dd_13_37 rfl hs]; rfl
theorem dd_13_38 : decode (mB 13) 38 = .ok (.getfield 9, 3) := by decide +kernel
theorem u_13_38 {G : aG} {S : Nat → Bool} {f : Nat} {st : List Value} {ls : aL} {h : aH} {k n : Nat} {a : Nat} (hs : S 38 = false) : WP 13 G S (f + 1) 38 ls (.ref a :: st) h k n = (oV (fget h a 5 0) (WP 13 G S f) 41 ls st h k n) := by rw [wp_s dd_13_38 rfl hs]; rfl
theorem dd_13_41 : decode (mB 13) 41 = .ok (.iload_n 3, 1) := by decide +kernel
theorem u_13_41 {G : aG} {S : Nat → Bool} {f : Nat} {st : List Value} {ls : aL} {h : aH} {k n : Nat} (hs : S 41 = false) : WP 13 G S (f + 1) 41 ls st h k n = (oI (lget ls 3) (WP 13 G S f) 42 ls st h k n) := by rw [wp_s dd_13_41 rfl hs]; rfl
theorem dd_13_42 : decode (mB 13) 42 = .ok (.iload 4, 2) := by decide +kernel
theorem u_13_42 {G : aG} {S : Nat → Bool} {f : Nat} {st : List Value} {ls : aL} {h : aH} {k n : Nat} (hs : S 42 = false) : WP 13 G S (f + 1) 42 ls st h k n = (oI (lget ls 4) (WP 13 G S f) 44 ls st h k n) := by rw [wp_s dd_13_42 rfl hs]; rfl
theorem dd_13_44 : decode (mB 13) 44 = .ok (.iastore, 1) := by decide +kernel
theorem u_13_44 {G : aG} {S : Nat → Bool} {f : Nat} {st : List Value} {ls : aL} {h : aH} {k n : Nat} {i x : Int32} {a : Nat} (hs : S 44 = false) : WP 13 G S (f + 1) 44 ls (.int x :: .int i :: .ref a :: st) h k n = (oIst (iget h a 1) a i x (WP 13 G S f) 45 ls st h k n) := by rw [wp_s dd_13_44 rfl hs]; rfl
theorem dd_13_45 : decode (mB 13) 45 = .ok (.aload_n 0, 1) := by decide +kernel
theorem u_13_45 {G : aG} {S : Nat → Bool} {f : Nat} {st : List Value} {ls : aL} {h : aH} {k n : Nat} (hs : S 45 = false) : WP 13 G S (f + 1) 45 ls st h k n = (oA (lget ls 0) (WP 13 G S f) 46 ls st h k n) := by rw [wp_s dd_13_45 rfl hs]; rfl
theorem dd_13_46 : decode (mB 13) 46 = .ok (.iload_n 3, 1) := by decide +kernel
theorem u_13_46 {G : aG} {S : Nat → Bool} {f : Nat} {st : List Value} {ls : aL} {h : aH} {k n : Nat} (hs : S 46 = false) : WP 13 G S (f + 1) 46 ls st h k n = (oI (lget ls 3) (WP 13 G S f) 47 ls st h k n) := by rw [wp_s dd_13_46 rfl hs]; rfl
theorem dd_13_47 : decode (mB 13) 47 = .ok (.invokevirtual 46, 3) := by decide +kernel
theorem u_13_47 {G : aG} {S : Nat → Bool} {f : Nat} {st : List Value} {ls : aL} {h : aH} {k n : Nat} {v1 : Value} {b : Nat} (hs : S 47 = false) : WP 13 G S (f + 1) 47 ls (v1 :: .ref b :: st) h k n = (rcv (hget h b) 5 ∧ CAL G (WP 13 G S f) 14 [.ref b, v1] 50 ls st h k n) := by rw [wp_s dd_13_47 rfl hs]; rfl
theorem dd_13_50 : decode (mB 13) 50 = .ok (.aload_n 0, 1) := by decide +kernel
theorem u_13_50 {G : aG} {S : Nat → Bool} {f : Nat} {st : List Value} {ls : aL} {h : aH} {k n : Nat} (hs : S 50 = false) : WP 13 G S (f + 1) 50 ls st h k n = (oA (lget ls 0) (WP 13 G S f) 51 ls st h k n) := by rw [wp_s dd_13_50 rfl hs]; rfl
theorem dd_13_51 : decode (mB 13) 51 = .ok (.iload_n 3, 1) := by decide +kernel
theorem u_13_51 {G : aG} {S : Nat → Bool} {f : Nat} {st : List Value} {ls : aL} {h : aH} {k n : Nat} (hs : S 51 = false) : WP 13 G S (f + 1) 51 ls st h k n = (oI (lget ls 3) (WP 13 G S f) 52 ls st h k n) := by rw [wp_s dd_13_51 rfl hs]; rfl
theorem dd_13_52 : decode (mB 13) 52 = .ok (.putfield 39, 3) := by decide +kernel
theorem u_13_52 {G : aG} {S : Nat → Bool} {f : Nat} {st : List Value} {ls : aL} {h : aH} {k n : Nat} {a : Nat} {x : Int32} (hs : S 52 = false) : WP 13 G S (f + 1) 52 ls (.int x :: .ref a :: st) h k n = (oH (fput h a 5 5 (.int x)) (WP 13 G S f) 55 ls st k n) := by rw [wp_s dd_13_52 rfl hs]; rfl
theorem dd_13_55 : decode (mB 13) 55 = .ok (.iinc 3 1, 3) := by decide +kernel
theorem u_13_55 {G : aG} {S : Nat → Bool} {f : Nat} {st : List Value} {ls : aL} {h : aH} {k n : Nat} (hs : S 55 = false) : WP 13 G S (f + 1) 55 ls st h k n = (oInc (lget ls 3) (nI 1) (WP 13 G S f) 3 58 ls st h k n) := by rw [wp_s dd_13_55 rfl hs]; rfl
theorem dd_13_58 : decode (mB 13) 58 = .ok (.goto (-46), 3) := by decide +kernel
theorem u_13_58 {G : aG} {S : Nat → Bool} {f : Nat} {st : List Value} {ls : aL} {h : aH} {k n : Nat} (hs : S 58 = false) : WP 13 G S (f + 1) 58 ls st h k n = (WP 13 G S f 12 ls st h k n) := by rw [wp_s dd_13_58 rfl hs]; rfl
theorem dd_13_61 : decode (mB 13) 61 = .ok (.return_, 1) := by decide +kernel
theorem u_13_61 {G : aG} {S : Nat → Bool} {f : Nat} {ls : aL} {h : aH} {k n : Nat} (hs : S 61 = false) : WP 13 G S (f + 1) 61 ls [] h k n = (RET G none h k n) := by rw [wp_s dd_13_61 rfl hs]; rfl
theorem dd_14_0 : decode (mB 14) 0 = .ok (.aload_n 0, 1) := by decide +kernel
theorem u_14_0 {G : aG} {S : Nat → Bool} {f : Nat} {st : List Value} {ls : aL} {h : aH} {k n : Nat} (hs : S 0 = false) : WP 14 G S (f + 1) 0 ls st h k n = (oA (lget ls 0) (WP 14 G S f) 1 ls st h k n) := by rw [wp_s dd_14_0 rfl hs]; rfl
theorem dd_14_1 : decode (mB 14) 1 = .ok (.getfield 9, 3) := by decide +kernel
theorem u_14_1 {G : aG} {S : Nat → Bool} {f : Nat} {st : List Value} {ls : aL} {h : aH} {k n : Nat} {a : Nat} (hs : S 1 = false) : WP 14 G S (f + 1) 1 ls (.ref a :: st) h k n = (oV (fget h a 5 0) (WP 14 G S f) 4 ls st h k n) := by rw [wp_s dd_14_1 rfl hs]; rfl
theorem dd_14_4 : decode (mB 14) 4 = .ok (.iload_n 1, 1) := by decide +kernel
theorem u_14_4 {G : aG} {S : Nat → Bool} {f : Nat} {st : List Value} {ls : aL} {h : aH} {k n : Nat} (hs : S 4 = false) : WP 14 G S (f + 1) 4 ls st h k n = (oI (lget ls 1) (WP 14 G S f) 5 ls st h k n) := by rw [wp_s dd_14_4 rfl hs]; rfl
theorem dd_14_5 : decode (mB 14) 5 = .ok (.iaload, 1) := by decide +kernel
theorem u_14_5 {G : aG} {S : Nat → Bool} {f : Nat} {st : List Value} {ls : aL} {h : aH} {k n : Nat} {i : Int32} {a : Nat} (hs : S 5 = false) : WP 14 G S (f + 1) 5 ls (.int i :: .ref a :: st) h k n = (oIld (iget h a 1) i (WP 14 G S f) 6 ls st h k n) := by rw [wp_s dd_14_5 rfl hs]; rfl
theorem dd_14_6 : decode (mB 14) 6 = .ok (.istore_n 2, 1) := by decide +kernel
theorem u_14_6 {G : aG} {S : Nat → Bool} {f : Nat} {st : List Value} {ls : aL} {h : aH} {k n : Nat} {x : Int32} (hs : S 6 = false) : WP 14 G S (f + 1) 6 ls (.int x :: st) h k n = (WP 14 G S f 7 (lput1 ls 2 (.int x)) st h k n) := by rw [wp_s dd_14_6 rfl hs]; rfl
theorem dd_14_7 : decode (mB 14) 7 = .ok (.iload_n 1, 1) := by decide +kernel
theorem u_14_7 {G : aG} {S : Nat → Bool} {f : Nat} {st : List Value} {ls : aL} {h : aH} {k n : Nat} (hs : S 7 = false) : WP 14 G S (f + 1) 7 ls st h k n = (oI (lget ls 1) (WP 14 G S f) 8 ls st h k n) := by rw [wp_s dd_14_7 rfl hs]; rfl
theorem dd_14_8 : decode (mB 14) 8 = .ok (.iconst 1, 1) := by decide +kernel
theorem u_14_8 {G : aG} {S : Nat → Bool} {f : Nat} {st : List Value} {ls : aL} {h : aH} {k n : Nat} (hs : S 8 = false) : WP 14 G S (f + 1) 8 ls st h k n = (WP 14 G S f 9 ls (.int (nI 1) :: st) h k n) := by rw [wp_s dd_14_8 rfl hs]; rfl
theorem dd_14_9 : decode (mB 14) 9 = .ok (.isub, 1) := by decide +kernel
theorem u_14_9 {G : aG} {S : Nat → Bool} {f : Nat} {st : List Value} {ls : aL} {h : aH} {k n : Nat} {x y : Int32} (hs : S 9 = false) : WP 14 G S (f + 1) 9 ls (.int y :: .int x :: st) h k n = (WP 14 G S f 10 ls (.int (x - y) :: st) h k n) := by rw [wp_s dd_14_9 rfl hs]; rfl
theorem dd_14_10 : decode (mB 14) 10 = .ok (.istore_n 3, 1) := by decide +kernel
theorem u_14_10 {G : aG} {S : Nat → Bool} {f : Nat} {st : List Value} {ls : aL} {h : aH} {k n : Nat} {x : Int32} (hs : S 10 = false) : WP 14 G S (f + 1) 10 ls (.int x :: st) h k n = (WP 14 G S f 11 (lput1 ls 3 (.int x)) st h k n) := by rw [wp_s dd_14_10 rfl hs]; rfl
theorem dd_14_11 : decode (mB 14) 11 = .ok (.iload_n 3, 1) := by decide +kernel
theorem u_14_11 {G : aG} {S : Nat → Bool} {f : Nat} {st : List Value} {ls : aL} {h : aH} {k n : Nat} (hs : S 11 = false) : WP 14 G S (f + 1) 11 ls st h k n = (oI (lget ls 3) (WP 14 G S f) 12 ls st h k n) := by rw [wp_s dd_14_11 rfl hs]; rfl
theorem dd_14_12 : decode (mB 14) 12 = .ok (.ifCond .lt 14, 3) := by decide +kernel
theorem u_14_12 {G : aG} {S : Nat → Bool} {f : Nat} {st : List Value} {ls : aL} {h : aH} {k n : Nat} {x : Int32} (hs : S 12 = false) : WP 14 G S (f + 1) 12 ls (.int x :: st) h k n = (if x < nI 0 then WP 14 G S f 26 ls st h k n else WP 14 G S f 15 ls st h k n) := by rw [wp_s dd_14_12 rfl hs]; exact br_ite (c := x < nI 0)
theorem dd_14_15 : decode (mB 14) 15 = .ok (.aload_n 0, 1) := by decide +kernel
theorem u_14_15 {G : aG} {S : Nat → Bool} {f : Nat} {st : List Value} {ls : aL} {h : aH} {k n : Nat} (hs : S 15 = false) : WP 14 G S (f + 1) 15 ls st h k n = (oA (lget ls 0) (WP 14 G S f) 16 ls st h k n) := by rw [wp_s dd_14_15 rfl hs]; rfl
theorem dd_14_16 : decode (mB 14) 16 = .ok (.getfield 15, 3) := by decide +kernel
theorem u_14_16 {G : aG} {S : Nat → Bool} {f : Nat} {st : List Value} {ls : aL} {h : aH} {k n : Nat} {a : Nat} (hs : S 16 = false) : WP 14 G S (f + 1) 16 ls (.ref a :: st) h k n = (oV (fget h a 5 1) (WP 14 G S f) 19 ls st h k n) := by rw [wp_s dd_14_16 rfl hs]; rfl
theorem dd_14_19 : decode (mB 14) 19 = .ok (.iload_n 3, 1) := by decide +kernel
theorem u_14_19 {G : aG} {S : Nat → Bool} {f : Nat} {st : List Value} {ls : aL} {h : aH} {k n : Nat} (hs : S 19 = false) : WP 14 G S (f + 1) 19 ls st h k n = (oI (lget ls 3) (WP 14 G S f) 20 ls st h k n) := by rw [wp_s dd_14_19 rfl hs]; rfl
theorem dd_14_20 : decode (mB 14) 20 = .ok (.iaload, 1) := by decide +kernel
theorem u_14_20 {G : aG} {S : Nat → Bool} {f : Nat} {st : List Value} {ls : aL} {h : aH} {k n : Nat} {i : Int32} {a : Nat} (hs : S 20 = false) : WP 14 G S (f + 1) 20 ls (.int i :: .ref a :: st) h k n = (oIld (iget h a 1) i (WP 14 G S f) 21 ls st h k n) := by rw [wp_s dd_14_20 rfl hs]; rfl
theorem dd_14_21 : decode (mB 14) 21 = .ok (.iconst 1, 1) := by decide +kernel
theorem u_14_21 {G : aG} {S : Nat → Bool} {f : Nat} {st : List Value} {ls : aL} {h : aH} {k n : Nat} (hs : S 21 = false) : WP 14 G S (f + 1) 21 ls st h k n = (WP 14 G S f 22 ls (.int (nI 1) :: st) h k n) := by rw [wp_s dd_14_21 rfl hs]; rfl
theorem dd_14_22 : decode (mB 14) 22 = .ok (.isub, 1) := by decide +kernel
theorem u_14_22 {G : aG} {S : Nat → Bool} {f : Nat} {st : List Value} {ls : aL} {h : aH} {k n : Nat} {x y : Int32} (hs : S 22 = false) : WP 14 G S (f + 1) 22 ls (.int y :: .int x :: st) h k n = (WP 14 G S f 23 ls (.int (x - y) :: st) h k n) := by rw [wp_s dd_14_22 rfl hs]; rfl
theorem dd_14_23 : decode (mB 14) 23 = .ok (.goto 4, 3) := by decide +kernel
theorem u_14_23 {G : aG} {S : Nat → Bool} {f : Nat} {st : List Value} {ls : aL} {h : aH} {k n : Nat} (hs : S 23 = false) : WP 14 G S (f + 1) 23 ls st h k n = (WP 14 G S f 27 ls st h k n) := by rw [wp_s dd_14_23 rfl hs]; rfl
theorem dd_14_26 : decode (mB 14) 26 = .ok (.iconst (-1), 1) := by decide +kernel
theorem u_14_26 {G : aG} {S : Nat → Bool} {f : Nat} {st : List Value} {ls : aL} {h : aH} {k n : Nat} (hs : S 26 = false) : WP 14 G S (f + 1) 26 ls st h k n = (WP 14 G S f 27 ls (.int (-1) :: st) h k n) := by rw [wp_s dd_14_26 rfl hs]; rfl
theorem dd_14_27 : decode (mB 14) 27 = .ok (.istore 4, 2) := by decide +kernel
theorem u_14_27 {G : aG} {S : Nat → Bool} {f : Nat} {st : List Value} {ls : aL} {h : aH} {k n : Nat} {x : Int32} (hs : S 27 = false) : WP 14 G S (f + 1) 27 ls (.int x :: st) h k n = (WP 14 G S f 29 (lput1 ls 4 (.int x)) st h k n) := by rw [wp_s dd_14_27 rfl hs]; rfl
theorem dd_14_29 : decode (mB 14) 29 = .ok (.aload_n 0, 1) := by decide +kernel
theorem u_14_29 {G : aG} {S : Nat → Bool} {f : Nat} {st : List Value} {ls : aL} {h : aH} {k n : Nat} (hs : S 29 = false) : WP 14 G S (f + 1) 29 ls st h k n = (oA (lget ls 0) (WP 14 G S f) 30 ls st h k n) := by rw [wp_s dd_14_29 rfl hs]; rfl
theorem dd_14_30 : decode (mB 14) 30 = .ok (.getfield 18, 3) := by decide +kernel
theorem u_14_30 {G : aG} {S : Nat → Bool} {f : Nat} {st : List Value} {ls : aL} {h : aH} {k n : Nat} {a : Nat} (hs : S 30 = false) : WP 14 G S (f + 1) 30 ls (.ref a :: st) h k n = (oV (fget h a 5 2) (WP 14 G S f) 33 ls st h k n) := by rw [wp_s dd_14_30 rfl hs]; rfl
theorem dd_14_33 : decode (mB 14) 33 = .ok (.iload_n 1, 1) := by decide +kernel
theorem u_14_33 {G : aG} {S : Nat → Bool} {f : Nat} {st : List Value} {ls : aL} {h : aH} {k n : Nat} (hs : S 33 = false) : WP 14 G S (f + 1) 33 ls st h k n = (oI (lget ls 1) (WP 14 G S f) 34 ls st h k n) := by rw [wp_s dd_14_33 rfl hs]; rfl
theorem dd_14_34 : decode (mB 14) 34 = .ok (.iload 4, 2) := by decide +kernel
theorem u_14_34 {G : aG} {S : Nat → Bool} {f : Nat} {st : List Value} {ls : aL} {h : aH} {k n : Nat} (hs : S 34 = false) : WP 14 G S (f + 1) 34 ls st h k n = (oI (lget ls 4) (WP 14 G S f) 36 ls st h k n) := by rw [wp_s dd_14_34 rfl hs]; rfl
theorem dd_14_36 : decode (mB 14) 36 = .ok (.iastore, 1) := by decide +kernel
theorem u_14_36 {G : aG} {S : Nat → Bool} {f : Nat} {st : List Value} {ls : aL} {h : aH} {k n : Nat} {i x : Int32} {a : Nat} (hs : S 36 = false) : WP 14 G S (f + 1) 36 ls (.int x :: .int i :: .ref a :: st) h k n = (oIst (iget h a 1) a i x (WP 14 G S f) 37 ls st h k n) := by rw [wp_s dd_14_36 rfl hs]; rfl
theorem dd_14_37 : decode (mB 14) 37 = .ok (.iload_n 2, 1) := by decide +kernel
theorem u_14_37 {G : aG} {S : Nat → Bool} {f : Nat} {st : List Value} {ls : aL} {h : aH} {k n : Nat} (hs : S 37 = false) : WP 14 G S (f + 1) 37 ls st h k n = (oI (lget ls 2) (WP 14 G S f) 38 ls st h k n) := by rw [wp_s dd_14_37 rfl hs]; rfl
theorem dd_14_38 : decode (mB 14) 38 = .ok (.bipush 9, 2) := by decide +kernel
theorem u_14_38 {G : aG} {S : Nat → Bool} {f : Nat} {st : List Value} {ls : aL} {h : aH} {k n : Nat} (hs : S 38 = false) : WP 14 G S (f + 1) 38 ls st h k n = (WP 14 G S f 40 ls (.int (nI 9) :: st) h k n) := by rw [wp_s dd_14_38 rfl hs]; rfl
theorem dd_14_40 : decode (mB 14) 40 = .ok (.if_icmp .le 7, 3) := by decide +kernel
theorem u_14_40 {G : aG} {S : Nat → Bool} {f : Nat} {st : List Value} {ls : aL} {h : aH} {k n : Nat} {x y : Int32} (hs : S 40 = false) : WP 14 G S (f + 1) 40 ls (.int y :: .int x :: st) h k n = (if x ≤ y then WP 14 G S f 47 ls st h k n else WP 14 G S f 43 ls st h k n) := by rw [wp_s dd_14_40 rfl hs]; exact br_ite (c := x ≤ y)
theorem dd_14_43 : decode (mB 14) 43 = .ok (.iload_n 3, 1) := by decide +kernel
theorem u_14_43 {G : aG} {S : Nat → Bool} {f : Nat} {st : List Value} {ls : aL} {h : aH} {k n : Nat} (hs : S 43 = false) : WP 14 G S (f + 1) 43 ls st h k n = (oI (lget ls 3) (WP 14 G S f) 44 ls st h k n) := by rw [wp_s dd_14_43 rfl hs]; rfl
theorem dd_14_44 : decode (mB 14) 44 = .ok (.ifCond .ge 71, 3) := by decide +kernel
theorem u_14_44 {G : aG} {S : Nat → Bool} {f : Nat} {st : List Value} {ls : aL} {h : aH} {k n : Nat} {x : Int32} (hs : S 44 = false) : WP 14 G S (f + 1) 44 ls (.int x :: st) h k n = (if nI 0 ≤ x then WP 14 G S f 115 ls st h k n else WP 14 G S f 47 ls st h k n) := by rw [wp_s dd_14_44 rfl hs]; exact br_ite (c := nI 0 ≤ x)
theorem dd_14_47 : decode (mB 14) 47 = .ok (.aload_n 0, 1) := by decide +kernel
theorem u_14_47 {G : aG} {S : Nat → Bool} {f : Nat} {st : List Value} {ls : aL} {h : aH} {k n : Nat} (hs : S 47 = false) : WP 14 G S (f + 1) 47 ls st h k n = (oA (lget ls 0) (WP 14 G S f) 48 ls st h k n) := by rw [wp_s dd_14_47 rfl hs]; rfl
theorem dd_14_48 : decode (mB 14) 48 = .ok (.getfield 15, 3) := by decide +kernel
theorem u_14_48 {G : aG} {S : Nat → Bool} {f : Nat} {st : List Value} {ls : aL} {h : aH} {k n : Nat} {a : Nat} (hs : S 48 = false) : WP 14 G S (f + 1) 48 ls (.ref a :: st) h k n = (oV (fget h a 5 1) (WP 14 G S f) 51 ls st h k n) := by rw [wp_s dd_14_48 rfl hs]; rfl
theorem dd_14_51 : decode (mB 14) 51 = .ok (.iload_n 1, 1) := by decide +kernel
theorem u_14_51 {G : aG} {S : Nat → Bool} {f : Nat} {st : List Value} {ls : aL} {h : aH} {k n : Nat} (hs : S 51 = false) : WP 14 G S (f + 1) 51 ls st h k n = (oI (lget ls 1) (WP 14 G S f) 52 ls st h k n) := by rw [wp_s dd_14_51 rfl hs]; rfl
theorem dd_14_52 : decode (mB 14) 52 = .ok (.iload_n 1, 1) := by decide +kernel
theorem u_14_52 {G : aG} {S : Nat → Bool} {f : Nat} {st : List Value} {ls : aL} {h : aH} {k n : Nat} (hs : S 52 = false) : WP 14 G S (f + 1) 52 ls st h k n = (oI (lget ls 1) (WP 14 G S f) 53 ls st h k n) := by rw [wp_s dd_14_52 rfl hs]; rfl
theorem dd_14_53 : decode (mB 14) 53 = .ok (.iastore, 1) := by decide +kernel
theorem u_14_53 {G : aG} {S : Nat → Bool} {f : Nat} {st : List Value} {ls : aL} {h : aH} {k n : Nat} {i x : Int32} {a : Nat} (hs : S 53 = false) : WP 14 G S (f + 1) 53 ls (.int x :: .int i :: .ref a :: st) h k n = (oIst (iget h a 1) a i x (WP 14 G S f) 54 ls st h k n) := by rw [wp_s dd_14_53 rfl hs]; rfl
theorem dd_14_54 : decode (mB 14) 54 = .ok (.aload_n 0, 1) := by decide +kernel
theorem u_14_54 {G : aG} {S : Nat → Bool} {f : Nat} {st : List Value} {ls : aL} {h : aH} {k n : Nat} (hs : S 54 = false) : WP 14 G S (f + 1) 54 ls st h k n = (oA (lget ls 0) (WP 14 G S f) 55 ls st h k n) := by rw [wp_s dd_14_54 rfl hs]; rfl
theorem dd_14_55 : decode (mB 14) 55 = .ok (.getfield 21, 3) := by decide +kernel
theorem u_14_55 {G : aG} {S : Nat → Bool} {f : Nat} {st : List Value} {ls : aL} {h : aH} {k n : Nat} {a : Nat} (hs : S 55 = false) : WP 14 G S (f + 1) 55 ls (.ref a :: st) h k n = (oV (fget h a 5 3) (WP 14 G S f) 58 ls st h k n) := by rw [wp_s dd_14_55 rfl hs]; rfl
theorem dd_14_58 : decode (mB 14) 58 = .ok (.iload_n 1, 1) := by decide +kernel
theorem u_14_58 {G : aG} {S : Nat → Bool} {f : Nat} {st : List Value} {ls : aL} {h : aH} {k n : Nat} (hs : S 58 = false) : WP 14 G S (f + 1) 58 ls st h k n = (oI (lget ls 1) (WP 14 G S f) 59 ls st h k n) := by rw [wp_s dd_14_58 rfl hs]; rfl
theorem dd_14_59 : decode (mB 14) 59 = .ok (.iload_n 2, 1) := by decide +kernel
theorem u_14_59 {G : aG} {S : Nat → Bool} {f : Nat} {st : List Value} {ls : aL} {h : aH} {k n : Nat} (hs : S 59 = false) : WP 14 G S (f + 1) 59 ls st h k n = (oI (lget ls 2) (WP 14 G S f) 60 ls st h k n) := by rw [wp_s dd_14_59 rfl hs]; rfl
theorem dd_14_60 : decode (mB 14) 60 = .ok (.bipush 8, 2) := by decide +kernel
theorem u_14_60 {G : aG} {S : Nat → Bool} {f : Nat} {st : List Value} {ls : aL} {h : aH} {k n : Nat} (hs : S 60 = false) : WP 14 G S (f + 1) 60 ls st h k n = (WP 14 G S f 62 ls (.int (nI 8) :: st) h k n) := by rw [wp_s dd_14_60 rfl hs]; rfl
theorem dd_14_62 : decode (mB 14) 62 = .ok (.if_icmp .gt 7, 3) := by decide +kernel
theorem u_14_62 {G : aG} {S : Nat → Bool} {f : Nat} {st : List Value} {ls : aL} {h : aH} {k n : Nat} {x y : Int32} (hs : S 62 = false) : WP 14 G S (f + 1) 62 ls (.int y :: .int x :: st) h k n = (if y < x then WP 14 G S f 69 ls st h k n else WP 14 G S f 65 ls st h k n) := by rw [wp_s dd_14_62 rfl hs]; exact br_ite (c := y < x)
theorem dd_14_65 : decode (mB 14) 65 = .ok (.iconst 2, 1) := by decide +kernel
theorem u_14_65 {G : aG} {S : Nat → Bool} {f : Nat} {st : List Value} {ls : aL} {h : aH} {k n : Nat} (hs : S 65 = false) : WP 14 G S (f + 1) 65 ls st h k n = (WP 14 G S f 66 ls (.int (nI 2) :: st) h k n) := by rw [wp_s dd_14_65 rfl hs]; rfl
theorem dd_14_66 : decode (mB 14) 66 = .ok (.goto 4, 3) := by decide +kernel
theorem u_14_66 {G : aG} {S : Nat → Bool} {f : Nat} {st : List Value} {ls : aL} {h : aH} {k n : Nat} (hs : S 66 = false) : WP 14 G S (f + 1) 66 ls st h k n = (WP 14 G S f 70 ls st h k n) := by rw [wp_s dd_14_66 rfl hs]; rfl
theorem dd_14_69 : decode (mB 14) 69 = .ok (.iconst 1, 1) := by decide +kernel
theorem u_14_69 {G : aG} {S : Nat → Bool} {f : Nat} {st : List Value} {ls : aL} {h : aH} {k n : Nat} (hs : S 69 = false) : WP 14 G S (f + 1) 69 ls st h k n = (WP 14 G S f 70 ls (.int (nI 1) :: st) h k n) := by rw [wp_s dd_14_69 rfl hs]; rfl
theorem dd_14_70 : decode (mB 14) 70 = .ok (.iastore, 1) := by decide +kernel
theorem u_14_70 {G : aG} {S : Nat → Bool} {f : Nat} {st : List Value} {ls : aL} {h : aH} {k n : Nat} {i x : Int32} {a : Nat} (hs : S 70 = false) : WP 14 G S (f + 1) 70 ls (.int x :: .int i :: .ref a :: st) h k n = (oIst (iget h a 1) a i x (WP 14 G S f) 71 ls st h k n) := by rw [wp_s dd_14_70 rfl hs]; rfl
theorem dd_14_71 : decode (mB 14) 71 = .ok (.aload_n 0, 1) := by decide +kernel
theorem u_14_71 {G : aG} {S : Nat → Bool} {f : Nat} {st : List Value} {ls : aL} {h : aH} {k n : Nat} (hs : S 71 = false) : WP 14 G S (f + 1) 71 ls st h k n = (oA (lget ls 0) (WP 14 G S f) 72 ls st h k n) := by rw [wp_s dd_14_71 rfl hs]; rfl
theorem dd_14_72 : decode (mB 14) 72 = .ok (.getfield 24, 3) := by decide +kernel
theorem u_14_72 {G : aG} {S : Nat → Bool} {f : Nat} {st : List Value} {ls : aL} {h : aH} {k n : Nat} {a : Nat} (hs : S 72 = false) : WP 14 G S (f + 1) 72 ls (.ref a :: st) h k n = (oV (fget h a 5 4) (WP 14 G S f) 75 ls st h k n) := by rw [wp_s dd_14_72 rfl hs]; rfl
theorem dd_14_75 : decode (mB 14) 75 = .ok (.iload_n 1, 1) := by decide +kernel
theorem u_14_75 {G : aG} {S : Nat → Bool} {f : Nat} {st : List Value} {ls : aL} {h : aH} {k n : Nat} (hs : S 75 = false) : WP 14 G S (f + 1) 75 ls st h k n = (oI (lget ls 1) (WP 14 G S f) 76 ls st h k n) := by rw [wp_s dd_14_75 rfl hs]; rfl
theorem dd_14_76 : decode (mB 14) 76 = .ok (.iload_n 2, 1) := by decide +kernel
theorem u_14_76 {G : aG} {S : Nat → Bool} {f : Nat} {st : List Value} {ls : aL} {h : aH} {k n : Nat} (hs : S 76 = false) : WP 14 G S (f + 1) 76 ls st h k n = (oI (lget ls 2) (WP 14 G S f) 77 ls st h k n) := by rw [wp_s dd_14_76 rfl hs]; rfl
theorem dd_14_77 : decode (mB 14) 77 = .ok (.bipush 8, 2) := by decide +kernel
theorem u_14_77 {G : aG} {S : Nat → Bool} {f : Nat} {st : List Value} {ls : aL} {h : aH} {k n : Nat} (hs : S 77 = false) : WP 14 G S (f + 1) 77 ls st h k n = (WP 14 G S f 79 ls (.int (nI 8) :: st) h k n) := by rw [wp_s dd_14_77 rfl hs]; rfl
theorem dd_14_79 : decode (mB 14) 79 = .ok (.if_icmp .gt 7, 3) := by decide +kernel
theorem u_14_79 {G : aG} {S : Nat → Bool} {f : Nat} {st : List Value} {ls : aL} {h : aH} {k n : Nat} {x y : Int32} (hs : S 79 = false) : WP 14 G S (f + 1) 79 ls (.int y :: .int x :: st) h k n = (if y < x then WP 14 G S f 86 ls st h k n else WP 14 G S f 82 ls st h k n) := by rw [wp_s dd_14_79 rfl hs]; exact br_ite (c := y < x)
theorem dd_14_82 : decode (mB 14) 82 = .ok (.iconst 1, 1) := by decide +kernel
theorem u_14_82 {G : aG} {S : Nat → Bool} {f : Nat} {st : List Value} {ls : aL} {h : aH} {k n : Nat} (hs : S 82 = false) : WP 14 G S (f + 1) 82 ls st h k n = (WP 14 G S f 83 ls (.int (nI 1) :: st) h k n) := by rw [wp_s dd_14_82 rfl hs]; rfl
theorem dd_14_83 : decode (mB 14) 83 = .ok (.goto 4, 3) := by decide +kernel
theorem u_14_83 {G : aG} {S : Nat → Bool} {f : Nat} {st : List Value} {ls : aL} {h : aH} {k n : Nat} (hs : S 83 = false) : WP 14 G S (f + 1) 83 ls st h k n = (WP 14 G S f 87 ls st h k n) := by rw [wp_s dd_14_83 rfl hs]; rfl
theorem dd_14_86 : decode (mB 14) 86 = .ok (.iconst 0, 1) := by decide +kernel
theorem u_14_86 {G : aG} {S : Nat → Bool} {f : Nat} {st : List Value} {ls : aL} {h : aH} {k n : Nat} (hs : S 86 = false) : WP 14 G S (f + 1) 86 ls st h k n = (WP 14 G S f 87 ls (.int (nI 0) :: st) h k n) := by rw [wp_s dd_14_86 rfl hs]; rfl
theorem dd_14_87 : decode (mB 14) 87 = .ok (.iastore, 1) := by decide +kernel
theorem u_14_87 {G : aG} {S : Nat → Bool} {f : Nat} {st : List Value} {ls : aL} {h : aH} {k n : Nat} {i x : Int32} {a : Nat} (hs : S 87 = false) : WP 14 G S (f + 1) 87 ls (.int x :: .int i :: .ref a :: st) h k n = (oIst (iget h a 1) a i x (WP 14 G S f) 88 ls st h k n) := by rw [wp_s dd_14_87 rfl hs]; rfl
theorem dd_14_88 : decode (mB 14) 88 = .ok (.aload_n 0, 1) := by decide +kernel
theorem u_14_88 {G : aG} {S : Nat → Bool} {f : Nat} {st : List Value} {ls : aL} {h : aH} {k n : Nat} (hs : S 88 = false) : WP 14 G S (f + 1) 88 ls st h k n = (oA (lget ls 0) (WP 14 G S f) 89 ls st h k n) := by rw [wp_s dd_14_88 rfl hs]; rfl
theorem dd_14_89 : decode (mB 14) 89 = .ok (.dup, 1) := by decide +kernel
theorem u_14_89 {G : aG} {S : Nat → Bool} {f : Nat} {st : List Value} {ls : aL} {h : aH} {k n : Nat} {v : Value} (hs : S 89 = false) : WP 14 G S (f + 1) 89 ls (v :: st) h k n = (cond (cat1 v) (WP 14 G S f 90 ls (v :: v :: st) h k n) False) := by rw [wp_s dd_14_89 rfl hs]; rfl
theorem dd_14_90 : decode (mB 14) 90 = .ok (.getfield 43, 3) := by decide +kernel
theorem u_14_90 {G : aG} {S : Nat → Bool} {f : Nat} {st : List Value} {ls : aL} {h : aH} {k n : Nat} {a : Nat} (hs : S 90 = false) : WP 14 G S (f + 1) 90 ls (.ref a :: st) h k n = (oV (fget h a 5 7) (WP 14 G S f) 93 ls st h k n) := by rw [wp_s dd_14_90 rfl hs]; rfl
theorem dd_14_93 : decode (mB 14) 93 = .ok (.iload_n 2, 1) := by decide +kernel
theorem u_14_93 {G : aG} {S : Nat → Bool} {f : Nat} {st : List Value} {ls : aL} {h : aH} {k n : Nat} (hs : S 93 = false) : WP 14 G S (f + 1) 93 ls st h k n = (oI (lget ls 2) (WP 14 G S f) 94 ls st h k n) := by rw [wp_s dd_14_93 rfl hs]; rfl
theorem dd_14_94 : decode (mB 14) 94 = .ok (.bipush 8, 2) := by decide +kernel
theorem u_14_94 {G : aG} {S : Nat → Bool} {f : Nat} {st : List Value} {ls : aL} {h : aH} {k n : Nat} (hs : S 94 = false) : WP 14 G S (f + 1) 94 ls st h k n = (WP 14 G S f 96 ls (.int (nI 8) :: st) h k n) := by rw [wp_s dd_14_94 rfl hs]; rfl
theorem dd_14_96 : decode (mB 14) 96 = .ok (.if_icmp .gt 11, 3) := by decide +kernel
theorem u_14_96 {G : aG} {S : Nat → Bool} {f : Nat} {st : List Value} {ls : aL} {h : aH} {k n : Nat} {x y : Int32} (hs : S 96 = false) : WP 14 G S (f + 1) 96 ls (.int y :: .int x :: st) h k n = (if y < x then WP 14 G S f 107 ls st h k n else WP 14 G S f 99 ls st h k n) := by rw [wp_s dd_14_96 rfl hs]; exact br_ite (c := y < x)
theorem dd_14_99 : decode (mB 14) 99 = .ok (.iconst 1, 1) := by decide +kernel
theorem u_14_99 {G : aG} {S : Nat → Bool} {f : Nat} {st : List Value} {ls : aL} {h : aH} {k n : Nat} (hs : S 99 = false) : WP 14 G S (f + 1) 99 ls st h k n = (WP 14 G S f 100 ls (.int (nI 1) :: st) h k n) := by rw [wp_s dd_14_99 rfl hs]; rfl
theorem dd_14_100 : decode (mB 14) 100 = .ok (.iload_n 2, 1) := by decide +kernel
theorem u_14_100 {G : aG} {S : Nat → Bool} {f : Nat} {st : List Value} {ls : aL} {h : aH} {k n : Nat} (hs : S 100 = false) : WP 14 G S (f + 1) 100 ls st h k n = (oI (lget ls 2) (WP 14 G S f) 101 ls st h k n) := by rw [wp_s dd_14_100 rfl hs]; rfl
theorem dd_14_101 : decode (mB 14) 101 = .ok (.iconst 1, 1) := by decide +kernel
theorem u_14_101 {G : aG} {S : Nat → Bool} {f : Nat} {st : List Value} {ls : aL} {h : aH} {k n : Nat} (hs : S 101 = false) : WP 14 G S (f + 1) 101 ls st h k n = (WP 14 G S f 102 ls (.int (nI 1) :: st) h k n) := by rw [wp_s dd_14_101 rfl hs]; rfl
theorem dd_14_102 : decode (mB 14) 102 = .ok (.isub, 1) := by decide +kernel
theorem u_14_102 {G : aG} {S : Nat → Bool} {f : Nat} {st : List Value} {ls : aL} {h : aH} {k n : Nat} {x y : Int32} (hs : S 102 = false) : WP 14 G S (f + 1) 102 ls (.int y :: .int x :: st) h k n = (WP 14 G S f 103 ls (.int (x - y) :: st) h k n) := by rw [wp_s dd_14_102 rfl hs]; rfl
theorem dd_14_103 : decode (mB 14) 103 = .ok (.ishl, 1) := by decide +kernel
theorem u_14_103 {G : aG} {S : Nat → Bool} {f : Nat} {st : List Value} {ls : aL} {h : aH} {k n : Nat} {x y : Int32} (hs : S 103 = false) : WP 14 G S (f + 1) 103 ls (.int y :: .int x :: st) h k n = (WP 14 G S f 104 ls (.int (x <<< (y &&& 31)) :: st) h k n) := by rw [wp_s dd_14_103 rfl hs]; rfl
theorem dd_14_104 : decode (mB 14) 104 = .ok (.goto 4, 3) := by decide +kernel
theorem u_14_104 {G : aG} {S : Nat → Bool} {f : Nat} {st : List Value} {ls : aL} {h : aH} {k n : Nat} (hs : S 104 = false) : WP 14 G S (f + 1) 104 ls st h k n = (WP 14 G S f 108 ls st h k n) := by rw [wp_s dd_14_104 rfl hs]; rfl
theorem dd_14_107 : decode (mB 14) 107 = .ok (.iconst 0, 1) := by decide +kernel
theorem u_14_107 {G : aG} {S : Nat → Bool} {f : Nat} {st : List Value} {ls : aL} {h : aH} {k n : Nat} (hs : S 107 = false) : WP 14 G S (f + 1) 107 ls st h k n = (WP 14 G S f 108 ls (.int (nI 0) :: st) h k n) := by rw [wp_s dd_14_107 rfl hs]; rfl
theorem dd_14_108 : decode (mB 14) 108 = .ok (.ior, 1) := by decide +kernel
theorem u_14_108 {G : aG} {S : Nat → Bool} {f : Nat} {st : List Value} {ls : aL} {h : aH} {k n : Nat} {x y : Int32} (hs : S 108 = false) : WP 14 G S (f + 1) 108 ls (.int y :: .int x :: st) h k n = (WP 14 G S f 109 ls (.int (x ||| y) :: st) h k n) := by rw [wp_s dd_14_108 rfl hs]; rfl
theorem dd_14_109 : decode (mB 14) 109 = .ok (.putfield 43, 3) := by decide +kernel
theorem u_14_109 {G : aG} {S : Nat → Bool} {f : Nat} {st : List Value} {ls : aL} {h : aH} {k n : Nat} {a : Nat} {x : Int32} (hs : S 109 = false) : WP 14 G S (f + 1) 109 ls (.int x :: .ref a :: st) h k n = (oH (fput h a 5 7 (.int x)) (WP 14 G S f) 112 ls st k n) := by rw [wp_s dd_14_109 rfl hs]; rfl
theorem dd_14_112 : decode (mB 14) 112 = .ok (.goto 166, 3) := by decide +kernel
theorem u_14_112 {G : aG} {S : Nat → Bool} {f : Nat} {st : List Value} {ls : aL} {h : aH} {k n : Nat} (hs : S 112 = false) : WP 14 G S (f + 1) 112 ls st h k n = (WP 14 G S f 278 ls st h k n) := by rw [wp_s dd_14_112 rfl hs]; rfl
theorem dd_14_115 : decode (mB 14) 115 = .ok (.iload_n 2, 1) := by decide +kernel
theorem u_14_115 {G : aG} {S : Nat → Bool} {f : Nat} {st : List Value} {ls : aL} {h : aH} {k n : Nat} (hs : S 115 = false) : WP 14 G S (f + 1) 115 ls st h k n = (oI (lget ls 2) (WP 14 G S f) 116 ls st h k n) := by rw [wp_s dd_14_115 rfl hs]; rfl
theorem dd_14_116 : decode (mB 14) 116 = .ok (.bipush 13, 2) := by decide +kernel
theorem u_14_116 {G : aG} {S : Nat → Bool} {f : Nat} {st : List Value} {ls : aL} {h : aH} {k n : Nat} (hs : S 116 = false) : WP 14 G S (f + 1) 116 ls st h k n = (WP 14 G S f 118 ls (.int (nI 13) :: st) h k n) := by rw [wp_s dd_14_116 rfl hs]; rfl
theorem dd_14_118 : decode (mB 14) 118 = .ok (.if_icmp .ge 8, 3) := by decide +kernel
theorem u_14_118 {G : aG} {S : Nat → Bool} {f : Nat} {st : List Value} {ls : aL} {h : aH} {k n : Nat} {x y : Int32} (hs : S 118 = false) : WP 14 G S (f + 1) 118 ls (.int y :: .int x :: st) h k n = (if y ≤ x then WP 14 G S f 126 ls st h k n else WP 14 G S f 121 ls st h k n) := by rw [wp_s dd_14_118 rfl hs]; exact br_ite (c := y ≤ x)
theorem dd_14_121 : decode (mB 14) 121 = .ok (.iload 4, 2) := by decide +kernel
theorem u_14_121 {G : aG} {S : Nat → Bool} {f : Nat} {st : List Value} {ls : aL} {h : aH} {k n : Nat} (hs : S 121 = false) : WP 14 G S (f + 1) 121 ls st h k n = (oI (lget ls 4) (WP 14 G S f) 123 ls st h k n) := by rw [wp_s dd_14_121 rfl hs]; rfl
theorem dd_14_123 : decode (mB 14) 123 = .ok (.ifCond .ge 52, 3) := by decide +kernel
theorem u_14_123 {G : aG} {S : Nat → Bool} {f : Nat} {st : List Value} {ls : aL} {h : aH} {k n : Nat} {x : Int32} (hs : S 123 = false) : WP 14 G S (f + 1) 123 ls (.int x :: st) h k n = (if nI 0 ≤ x then WP 14 G S f 175 ls st h k n else WP 14 G S f 126 ls st h k n) := by rw [wp_s dd_14_123 rfl hs]; exact br_ite (c := nI 0 ≤ x)
theorem dd_14_126 : decode (mB 14) 126 = .ok (.aload_n 0, 1) := by decide +kernel
theorem u_14_126 {G : aG} {S : Nat → Bool} {f : Nat} {st : List Value} {ls : aL} {h : aH} {k n : Nat} (hs : S 126 = false) : WP 14 G S (f + 1) 126 ls st h k n = (oA (lget ls 0) (WP 14 G S f) 127 ls st h k n) := by rw [wp_s dd_14_126 rfl hs]; rfl
theorem dd_14_127 : decode (mB 14) 127 = .ok (.getfield 15, 3) := by decide +kernel
theorem u_14_127 {G : aG} {S : Nat → Bool} {f : Nat} {st : List Value} {ls : aL} {h : aH} {k n : Nat} {a : Nat} (hs : S 127 = false) : WP 14 G S (f + 1) 127 ls (.ref a :: st) h k n = (oV (fget h a 5 1) (WP 14 G S f) 130 ls st h k n) := by rw [wp_s dd_14_127 rfl hs]; rfl
theorem dd_14_130 : decode (mB 14) 130 = .ok (.iload_n 1, 1) := by decide +kernel
theorem u_14_130 {G : aG} {S : Nat → Bool} {f : Nat} {st : List Value} {ls : aL} {h : aH} {k n : Nat} (hs : S 130 = false) : WP 14 G S (f + 1) 130 ls st h k n = (oI (lget ls 1) (WP 14 G S f) 131 ls st h k n) := by rw [wp_s dd_14_130 rfl hs]; rfl
theorem dd_14_131 : decode (mB 14) 131 = .ok (.aload_n 0, 1) := by decide +kernel
theorem u_14_131 {G : aG} {S : Nat → Bool} {f : Nat} {st : List Value} {ls : aL} {h : aH} {k n : Nat} (hs : S 131 = false) : WP 14 G S (f + 1) 131 ls st h k n = (oA (lget ls 0) (WP 14 G S f) 132 ls st h k n) := by rw [wp_s dd_14_131 rfl hs]; rfl
theorem dd_14_132 : decode (mB 14) 132 = .ok (.getfield 15, 3) := by decide +kernel
theorem u_14_132 {G : aG} {S : Nat → Bool} {f : Nat} {st : List Value} {ls : aL} {h : aH} {k n : Nat} {a : Nat} (hs : S 132 = false) : WP 14 G S (f + 1) 132 ls (.ref a :: st) h k n = (oV (fget h a 5 1) (WP 14 G S f) 135 ls st h k n) := by rw [wp_s dd_14_132 rfl hs]; rfl
theorem dd_14_135 : decode (mB 14) 135 = .ok (.iload_n 3, 1) := by decide +kernel
theorem u_14_135 {G : aG} {S : Nat → Bool} {f : Nat} {st : List Value} {ls : aL} {h : aH} {k n : Nat} (hs : S 135 = false) : WP 14 G S (f + 1) 135 ls st h k n = (oI (lget ls 3) (WP 14 G S f) 136 ls st h k n) := by rw [wp_s dd_14_135 rfl hs]; rfl
theorem dd_14_136 : decode (mB 14) 136 = .ok (.iaload, 1) := by decide +kernel
theorem u_14_136 {G : aG} {S : Nat → Bool} {f : Nat} {st : List Value} {ls : aL} {h : aH} {k n : Nat} {i : Int32} {a : Nat} (hs : S 136 = false) : WP 14 G S (f + 1) 136 ls (.int i :: .ref a :: st) h k n = (oIld (iget h a 1) i (WP 14 G S f) 137 ls st h k n) := by rw [wp_s dd_14_136 rfl hs]; rfl
theorem dd_14_137 : decode (mB 14) 137 = .ok (.iastore, 1) := by decide +kernel
theorem u_14_137 {G : aG} {S : Nat → Bool} {f : Nat} {st : List Value} {ls : aL} {h : aH} {k n : Nat} {i x : Int32} {a : Nat} (hs : S 137 = false) : WP 14 G S (f + 1) 137 ls (.int x :: .int i :: .ref a :: st) h k n = (oIst (iget h a 1) a i x (WP 14 G S f) 138 ls st h k n) := by rw [wp_s dd_14_137 rfl hs]; rfl
theorem dd_14_138 : decode (mB 14) 138 = .ok (.aload_n 0, 1) := by decide +kernel
theorem u_14_138 {G : aG} {S : Nat → Bool} {f : Nat} {st : List Value} {ls : aL} {h : aH} {k n : Nat} (hs : S 138 = false) : WP 14 G S (f + 1) 138 ls st h k n = (oA (lget ls 0) (WP 14 G S f) 139 ls st h k n) := by rw [wp_s dd_14_138 rfl hs]; rfl
theorem dd_14_139 : decode (mB 14) 139 = .ok (.getfield 21, 3) := by decide +kernel
theorem u_14_139 {G : aG} {S : Nat → Bool} {f : Nat} {st : List Value} {ls : aL} {h : aH} {k n : Nat} {a : Nat} (hs : S 139 = false) : WP 14 G S (f + 1) 139 ls (.ref a :: st) h k n = (oV (fget h a 5 3) (WP 14 G S f) 142 ls st h k n) := by rw [wp_s dd_14_139 rfl hs]; rfl
theorem dd_14_142 : decode (mB 14) 142 = .ok (.iload_n 1, 1) := by decide +kernel
theorem u_14_142 {G : aG} {S : Nat → Bool} {f : Nat} {st : List Value} {ls : aL} {h : aH} {k n : Nat} (hs : S 142 = false) : WP 14 G S (f + 1) 142 ls st h k n = (oI (lget ls 1) (WP 14 G S f) 143 ls st h k n) := by rw [wp_s dd_14_142 rfl hs]; rfl
theorem dd_14_143 : decode (mB 14) 143 = .ok (.aload_n 0, 1) := by decide +kernel
theorem u_14_143 {G : aG} {S : Nat → Bool} {f : Nat} {st : List Value} {ls : aL} {h : aH} {k n : Nat} (hs : S 143 = false) : WP 14 G S (f + 1) 143 ls st h k n = (oA (lget ls 0) (WP 14 G S f) 144 ls st h k n) := by rw [wp_s dd_14_143 rfl hs]; rfl
theorem dd_14_144 : decode (mB 14) 144 = .ok (.getfield 21, 3) := by decide +kernel
theorem u_14_144 {G : aG} {S : Nat → Bool} {f : Nat} {st : List Value} {ls : aL} {h : aH} {k n : Nat} {a : Nat} (hs : S 144 = false) : WP 14 G S (f + 1) 144 ls (.ref a :: st) h k n = (oV (fget h a 5 3) (WP 14 G S f) 147 ls st h k n) := by rw [wp_s dd_14_144 rfl hs]; rfl
theorem dd_14_147 : decode (mB 14) 147 = .ok (.iload_n 3, 1) := by decide +kernel
theorem u_14_147 {G : aG} {S : Nat → Bool} {f : Nat} {st : List Value} {ls : aL} {h : aH} {k n : Nat} (hs : S 147 = false) : WP 14 G S (f + 1) 147 ls st h k n = (oI (lget ls 3) (WP 14 G S f) 148 ls st h k n) := by rw [wp_s dd_14_147 rfl hs]; rfl
theorem dd_14_148 : decode (mB 14) 148 = .ok (.iaload, 1) := by decide +kernel
theorem u_14_148 {G : aG} {S : Nat → Bool} {f : Nat} {st : List Value} {ls : aL} {h : aH} {k n : Nat} {i : Int32} {a : Nat} (hs : S 148 = false) : WP 14 G S (f + 1) 148 ls (.int i :: .ref a :: st) h k n = (oIld (iget h a 1) i (WP 14 G S f) 149 ls st h k n) := by rw [wp_s dd_14_148 rfl hs]; rfl
theorem dd_14_149 : decode (mB 14) 149 = .ok (.iastore, 1) := by decide +kernel
theorem u_14_149 {G : aG} {S : Nat → Bool} {f : Nat} {st : List Value} {ls : aL} {h : aH} {k n : Nat} {i x : Int32} {a : Nat} (hs : S 149 = false) : WP 14 G S (f + 1) 149 ls (.int x :: .int i :: .ref a :: st) h k n = (oIst (iget h a 1) a i x (WP 14 G S f) 150 ls st h k n) := by rw [wp_s dd_14_149 rfl hs]; rfl
theorem dd_14_150 : decode (mB 14) 150 = .ok (.aload_n 0, 1) := by decide +kernel
theorem u_14_150 {G : aG} {S : Nat → Bool} {f : Nat} {st : List Value} {ls : aL} {h : aH} {k n : Nat} (hs : S 150 = false) : WP 14 G S (f + 1) 150 ls st h k n = (oA (lget ls 0) (WP 14 G S f) 151 ls st h k n) := by rw [wp_s dd_14_150 rfl hs]; rfl
theorem dd_14_151 : decode (mB 14) 151 = .ok (.getfield 24, 3) := by decide +kernel
theorem u_14_151 {G : aG} {S : Nat → Bool} {f : Nat} {st : List Value} {ls : aL} {h : aH} {k n : Nat} {a : Nat} (hs : S 151 = false) : WP 14 G S (f + 1) 151 ls (.ref a :: st) h k n = (oV (fget h a 5 4) (WP 14 G S f) 154 ls st h k n) := by rw [wp_s dd_14_151 rfl hs]; rfl
theorem dd_14_154 : decode (mB 14) 154 = .ok (.iload_n 1, 1) := by decide +kernel
theorem u_14_154 {G : aG} {S : Nat → Bool} {f : Nat} {st : List Value} {ls : aL} {h : aH} {k n : Nat} (hs : S 154 = false) : WP 14 G S (f + 1) 154 ls st h k n = (oI (lget ls 1) (WP 14 G S f) 155 ls st h k n) := by rw [wp_s dd_14_154 rfl hs]; rfl
theorem dd_14_155 : decode (mB 14) 155 = .ok (.iload_n 2, 1) := by decide +kernel
theorem u_14_155 {G : aG} {S : Nat → Bool} {f : Nat} {st : List Value} {ls : aL} {h : aH} {k n : Nat} (hs : S 155 = false) : WP 14 G S (f + 1) 155 ls st h k n = (oI (lget ls 2) (WP 14 G S f) 156 ls st h k n) := by rw [wp_s dd_14_155 rfl hs]; rfl
theorem dd_14_156 : decode (mB 14) 156 = .ok (.bipush 15, 2) := by decide +kernel
theorem u_14_156 {G : aG} {S : Nat → Bool} {f : Nat} {st : List Value} {ls : aL} {h : aH} {k n : Nat} (hs : S 156 = false) : WP 14 G S (f + 1) 156 ls st h k n = (WP 14 G S f 158 ls (.int (nI 15) :: st) h k n) := by rw [wp_s dd_14_156 rfl hs]; rfl
theorem dd_14_158 : decode (mB 14) 158 = .ok (.if_icmp .ne 12, 3) := by decide +kernel
theorem u_14_158 {G : aG} {S : Nat → Bool} {f : Nat} {st : List Value} {ls : aL} {h : aH} {k n : Nat} {x y : Int32} (hs : S 158 = false) : WP 14 G S (f + 1) 158 ls (.int y :: .int x :: st) h k n = (if x = y then WP 14 G S f 161 ls st h k n else WP 14 G S f 170 ls st h k n) := by rw [wp_s dd_14_158 rfl hs]; exact br_iten (c := x = y)
theorem dd_14_161 : decode (mB 14) 161 = .ok (.aload_n 0, 1) := by decide +kernel
theorem u_14_161 {G : aG} {S : Nat → Bool} {f : Nat} {st : List Value} {ls : aL} {h : aH} {k n : Nat} (hs : S 161 = false) : WP 14 G S (f + 1) 161 ls st h k n = (oA (lget ls 0) (WP 14 G S f) 162 ls st h k n) := by rw [wp_s dd_14_161 rfl hs]; rfl
theorem dd_14_162 : decode (mB 14) 162 = .ok (.getfield 24, 3) := by decide +kernel
theorem u_14_162 {G : aG} {S : Nat → Bool} {f : Nat} {st : List Value} {ls : aL} {h : aH} {k n : Nat} {a : Nat} (hs : S 162 = false) : WP 14 G S (f + 1) 162 ls (.ref a :: st) h k n = (oV (fget h a 5 4) (WP 14 G S f) 165 ls st h k n) := by rw [wp_s dd_14_162 rfl hs]; rfl
theorem dd_14_165 : decode (mB 14) 165 = .ok (.iload_n 3, 1) := by decide +kernel
theorem u_14_165 {G : aG} {S : Nat → Bool} {f : Nat} {st : List Value} {ls : aL} {h : aH} {k n : Nat} (hs : S 165 = false) : WP 14 G S (f + 1) 165 ls st h k n = (oI (lget ls 3) (WP 14 G S f) 166 ls st h k n) := by rw [wp_s dd_14_165 rfl hs]; rfl
theorem dd_14_166 : decode (mB 14) 166 = .ok (.iaload, 1) := by decide +kernel
theorem u_14_166 {G : aG} {S : Nat → Bool} {f : Nat} {st : List Value} {ls : aL} {h : aH} {k n : Nat} {i : Int32} {a : Nat} (hs : S 166 = false) : WP 14 G S (f + 1) 166 ls (.int i :: .ref a :: st) h k n = (oIld (iget h a 1) i (WP 14 G S f) 167 ls st h k n) := by rw [wp_s dd_14_166 rfl hs]; rfl
theorem dd_14_167 : decode (mB 14) 167 = .ok (.goto 4, 3) := by decide +kernel
theorem u_14_167 {G : aG} {S : Nat → Bool} {f : Nat} {st : List Value} {ls : aL} {h : aH} {k n : Nat} (hs : S 167 = false) : WP 14 G S (f + 1) 167 ls st h k n = (WP 14 G S f 171 ls st h k n) := by rw [wp_s dd_14_167 rfl hs]; rfl
theorem dd_14_170 : decode (mB 14) 170 = .ok (.iconst 0, 1) := by decide +kernel
theorem u_14_170 {G : aG} {S : Nat → Bool} {f : Nat} {st : List Value} {ls : aL} {h : aH} {k n : Nat} (hs : S 170 = false) : WP 14 G S (f + 1) 170 ls st h k n = (WP 14 G S f 171 ls (.int (nI 0) :: st) h k n) := by rw [wp_s dd_14_170 rfl hs]; rfl
theorem dd_14_171 : decode (mB 14) 171 = .ok (.iastore, 1) := by decide +kernel
theorem u_14_171 {G : aG} {S : Nat → Bool} {f : Nat} {st : List Value} {ls : aL} {h : aH} {k n : Nat} {i x : Int32} {a : Nat} (hs : S 171 = false) : WP 14 G S (f + 1) 171 ls (.int x :: .int i :: .ref a :: st) h k n = (oIst (iget h a 1) a i x (WP 14 G S f) 172 ls st h k n) := by rw [wp_s dd_14_171 rfl hs]; rfl
theorem dd_14_172 : decode (mB 14) 172 = .ok (.goto 106, 3) := by decide +kernel
theorem u_14_172 {G : aG} {S : Nat → Bool} {f : Nat} {st : List Value} {ls : aL} {h : aH} {k n : Nat} (hs : S 172 = false) : WP 14 G S (f + 1) 172 ls st h k n = (WP 14 G S f 278 ls st h k n) := by rw [wp_s dd_14_172 rfl hs]; rfl
theorem dd_14_175 : decode (mB 14) 175 = .ok (.aload_n 0, 1) := by decide +kernel
theorem u_14_175 {G : aG} {S : Nat → Bool} {f : Nat} {st : List Value} {ls : aL} {h : aH} {k n : Nat} (hs : S 175 = false) : WP 14 G S (f + 1) 175 ls st h k n = (oA (lget ls 0) (WP 14 G S f) 176 ls st h k n) := by rw [wp_s dd_14_175 rfl hs]; rfl
theorem dd_14_176 : decode (mB 14) 176 = .ok (.getfield 15, 3) := by decide +kernel
theorem u_14_176 {G : aG} {S : Nat → Bool} {f : Nat} {st : List Value} {ls : aL} {h : aH} {k n : Nat} {a : Nat} (hs : S 176 = false) : WP 14 G S (f + 1) 176 ls (.ref a :: st) h k n = (oV (fget h a 5 1) (WP 14 G S f) 179 ls st h k n) := by rw [wp_s dd_14_176 rfl hs]; rfl
theorem dd_14_179 : decode (mB 14) 179 = .ok (.iload_n 1, 1) := by decide +kernel
theorem u_14_179 {G : aG} {S : Nat → Bool} {f : Nat} {st : List Value} {ls : aL} {h : aH} {k n : Nat} (hs : S 179 = false) : WP 14 G S (f + 1) 179 ls st h k n = (oI (lget ls 1) (WP 14 G S f) 180 ls st h k n) := by rw [wp_s dd_14_179 rfl hs]; rfl
theorem dd_14_180 : decode (mB 14) 180 = .ok (.aload_n 0, 1) := by decide +kernel
theorem u_14_180 {G : aG} {S : Nat → Bool} {f : Nat} {st : List Value} {ls : aL} {h : aH} {k n : Nat} (hs : S 180 = false) : WP 14 G S (f + 1) 180 ls st h k n = (oA (lget ls 0) (WP 14 G S f) 181 ls st h k n) := by rw [wp_s dd_14_180 rfl hs]; rfl
theorem dd_14_181 : decode (mB 14) 181 = .ok (.getfield 15, 3) := by decide +kernel
theorem u_14_181 {G : aG} {S : Nat → Bool} {f : Nat} {st : List Value} {ls : aL} {h : aH} {k n : Nat} {a : Nat} (hs : S 181 = false) : WP 14 G S (f + 1) 181 ls (.ref a :: st) h k n = (oV (fget h a 5 1) (WP 14 G S f) 184 ls st h k n) := by rw [wp_s dd_14_181 rfl hs]; rfl
theorem dd_14_184 : decode (mB 14) 184 = .ok (.iload 4, 2) := by decide +kernel
theorem u_14_184 {G : aG} {S : Nat → Bool} {f : Nat} {st : List Value} {ls : aL} {h : aH} {k n : Nat} (hs : S 184 = false) : WP 14 G S (f + 1) 184 ls st h k n = (oI (lget ls 4) (WP 14 G S f) 186 ls st h k n) := by rw [wp_s dd_14_184 rfl hs]; rfl
theorem dd_14_186 : decode (mB 14) 186 = .ok (.iaload, 1) := by decide +kernel
theorem u_14_186 {G : aG} {S : Nat → Bool} {f : Nat} {st : List Value} {ls : aL} {h : aH} {k n : Nat} {i : Int32} {a : Nat} (hs : S 186 = false) : WP 14 G S (f + 1) 186 ls (.int i :: .ref a :: st) h k n = (oIld (iget h a 1) i (WP 14 G S f) 187 ls st h k n) := by rw [wp_s dd_14_186 rfl hs]; rfl
theorem dd_14_187 : decode (mB 14) 187 = .ok (.iastore, 1) := by decide +kernel
theorem u_14_187 {G : aG} {S : Nat → Bool} {f : Nat} {st : List Value} {ls : aL} {h : aH} {k n : Nat} {i x : Int32} {a : Nat} (hs : S 187 = false) : WP 14 G S (f + 1) 187 ls (.int x :: .int i :: .ref a :: st) h k n = (oIst (iget h a 1) a i x (WP 14 G S f) 188 ls st h k n) := by rw [wp_s dd_14_187 rfl hs]; rfl
theorem dd_14_188 : decode (mB 14) 188 = .ok (.aload_n 0, 1) := by decide +kernel
theorem u_14_188 {G : aG} {S : Nat → Bool} {f : Nat} {st : List Value} {ls : aL} {h : aH} {k n : Nat} (hs : S 188 = false) : WP 14 G S (f + 1) 188 ls st h k n = (oA (lget ls 0) (WP 14 G S f) 189 ls st h k n) := by rw [wp_s dd_14_188 rfl hs]; rfl
theorem dd_14_189 : decode (mB 14) 189 = .ok (.getfield 21, 3) := by decide +kernel
theorem u_14_189 {G : aG} {S : Nat → Bool} {f : Nat} {st : List Value} {ls : aL} {h : aH} {k n : Nat} {a : Nat} (hs : S 189 = false) : WP 14 G S (f + 1) 189 ls (.ref a :: st) h k n = (oV (fget h a 5 3) (WP 14 G S f) 192 ls st h k n) := by rw [wp_s dd_14_189 rfl hs]; rfl
theorem dd_14_192 : decode (mB 14) 192 = .ok (.iload_n 1, 1) := by decide +kernel
theorem u_14_192 {G : aG} {S : Nat → Bool} {f : Nat} {st : List Value} {ls : aL} {h : aH} {k n : Nat} (hs : S 192 = false) : WP 14 G S (f + 1) 192 ls st h k n = (oI (lget ls 1) (WP 14 G S f) 193 ls st h k n) := by rw [wp_s dd_14_192 rfl hs]; rfl
theorem dd_14_193 : decode (mB 14) 193 = .ok (.iload_n 2, 1) := by decide +kernel
theorem u_14_193 {G : aG} {S : Nat → Bool} {f : Nat} {st : List Value} {ls : aL} {h : aH} {k n : Nat} (hs : S 193 = false) : WP 14 G S (f + 1) 193 ls st h k n = (oI (lget ls 2) (WP 14 G S f) 194 ls st h k n) := by rw [wp_s dd_14_193 rfl hs]; rfl
theorem dd_14_194 : decode (mB 14) 194 = .ok (.bipush 11, 2) := by decide +kernel
theorem u_14_194 {G : aG} {S : Nat → Bool} {f : Nat} {st : List Value} {ls : aL} {h : aH} {k n : Nat} (hs : S 194 = false) : WP 14 G S (f + 1) 194 ls st h k n = (WP 14 G S f 196 ls (.int (nI 11) :: st) h k n) := by rw [wp_s dd_14_194 rfl hs]; rfl
theorem dd_14_196 : decode (mB 14) 196 = .ok (.if_icmp .ne 20, 3) := by decide +kernel
theorem u_14_196 {G : aG} {S : Nat → Bool} {f : Nat} {st : List Value} {ls : aL} {h : aH} {k n : Nat} {x y : Int32} (hs : S 196 = false) : WP 14 G S (f + 1) 196 ls (.int y :: .int x :: st) h k n = (if x = y then WP 14 G S f 199 ls st h k n else WP 14 G S f 216 ls st h k n) := by rw [wp_s dd_14_196 rfl hs]; exact br_iten (c := x = y)
theorem dd_14_199 : decode (mB 14) 199 = .ok (.aload_n 0, 1) := by decide +kernel
theorem u_14_199 {G : aG} {S : Nat → Bool} {f : Nat} {st : List Value} {ls : aL} {h : aH} {k n : Nat} (hs : S 199 = false) : WP 14 G S (f + 1) 199 ls st h k n = (oA (lget ls 0) (WP 14 G S f) 200 ls st h k n) := by rw [wp_s dd_14_199 rfl hs]; rfl
theorem dd_14_200 : decode (mB 14) 200 = .ok (.getfield 21, 3) := by decide +kernel
theorem u_14_200 {G : aG} {S : Nat → Bool} {f : Nat} {st : List Value} {ls : aL} {h : aH} {k n : Nat} {a : Nat} (hs : S 200 = false) : WP 14 G S (f + 1) 200 ls (.ref a :: st) h k n = (oV (fget h a 5 3) (WP 14 G S f) 203 ls st h k n) := by rw [wp_s dd_14_200 rfl hs]; rfl
theorem dd_14_203 : decode (mB 14) 203 = .ok (.iload 4, 2) := by decide +kernel
theorem u_14_203 {G : aG} {S : Nat → Bool} {f : Nat} {st : List Value} {ls : aL} {h : aH} {k n : Nat} (hs : S 203 = false) : WP 14 G S (f + 1) 203 ls st h k n = (oI (lget ls 4) (WP 14 G S f) 205 ls st h k n) := by rw [wp_s dd_14_203 rfl hs]; rfl
theorem dd_14_205 : decode (mB 14) 205 = .ok (.iaload, 1) := by decide +kernel
theorem u_14_205 {G : aG} {S : Nat → Bool} {f : Nat} {st : List Value} {ls : aL} {h : aH} {k n : Nat} {i : Int32} {a : Nat} (hs : S 205 = false) : WP 14 G S (f + 1) 205 ls (.int i :: .ref a :: st) h k n = (oIld (iget h a 1) i (WP 14 G S f) 206 ls st h k n) := by rw [wp_s dd_14_205 rfl hs]; rfl
theorem dd_14_206 : decode (mB 14) 206 = .ok (.aload_n 0, 1) := by decide +kernel
theorem u_14_206 {G : aG} {S : Nat → Bool} {f : Nat} {st : List Value} {ls : aL} {h : aH} {k n : Nat} (hs : S 206 = false) : WP 14 G S (f + 1) 206 ls st h k n = (oA (lget ls 0) (WP 14 G S f) 207 ls st h k n) := by rw [wp_s dd_14_206 rfl hs]; rfl
theorem dd_14_207 : decode (mB 14) 207 = .ok (.getfield 21, 3) := by decide +kernel
theorem u_14_207 {G : aG} {S : Nat → Bool} {f : Nat} {st : List Value} {ls : aL} {h : aH} {k n : Nat} {a : Nat} (hs : S 207 = false) : WP 14 G S (f + 1) 207 ls (.ref a :: st) h k n = (oV (fget h a 5 3) (WP 14 G S f) 210 ls st h k n) := by rw [wp_s dd_14_207 rfl hs]; rfl
theorem dd_14_210 : decode (mB 14) 210 = .ok (.iload_n 3, 1) := by decide +kernel
theorem u_14_210 {G : aG} {S : Nat → Bool} {f : Nat} {st : List Value} {ls : aL} {h : aH} {k n : Nat} (hs : S 210 = false) : WP 14 G S (f + 1) 210 ls st h k n = (oI (lget ls 3) (WP 14 G S f) 211 ls st h k n) := by rw [wp_s dd_14_210 rfl hs]; rfl
theorem dd_14_211 : decode (mB 14) 211 = .ok (.iaload, 1) := by decide +kernel
theorem u_14_211 {G : aG} {S : Nat → Bool} {f : Nat} {st : List Value} {ls : aL} {h : aH} {k n : Nat} {i : Int32} {a : Nat} (hs : S 211 = false) : WP 14 G S (f + 1) 211 ls (.int i :: .ref a :: st) h k n = (oIld (iget h a 1) i (WP 14 G S f) 212 ls st h k n) := by rw [wp_s dd_14_211 rfl hs]; rfl
theorem dd_14_212 : decode (mB 14) 212 = .ok (.imul, 1) := by decide +kernel
theorem u_14_212 {G : aG} {S : Nat → Bool} {f : Nat} {st : List Value} {ls : aL} {h : aH} {k n : Nat} {x y : Int32} (hs : S 212 = false) : WP 14 G S (f + 1) 212 ls (.int y :: .int x :: st) h k n = (WP 14 G S f 213 ls (.int (x * y) :: st) h k n) := by rw [wp_s dd_14_212 rfl hs]; rfl
theorem dd_14_213 : decode (mB 14) 213 = .ok (.goto 19, 3) := by decide +kernel
theorem u_14_213 {G : aG} {S : Nat → Bool} {f : Nat} {st : List Value} {ls : aL} {h : aH} {k n : Nat} (hs : S 213 = false) : WP 14 G S (f + 1) 213 ls st h k n = (WP 14 G S f 232 ls st h k n) := by rw [wp_s dd_14_213 rfl hs]; rfl
theorem dd_14_216 : decode (mB 14) 216 = .ok (.aload_n 0, 1) := by decide +kernel
theorem u_14_216 {G : aG} {S : Nat → Bool} {f : Nat} {st : List Value} {ls : aL} {h : aH} {k n : Nat} (hs : S 216 = false) : WP 14 G S (f + 1) 216 ls st h k n = (oA (lget ls 0) (WP 14 G S f) 217 ls st h k n) := by rw [wp_s dd_14_216 rfl hs]; rfl
theorem dd_14_217 : decode (mB 14) 217 = .ok (.getfield 21, 3) := by decide +kernel
theorem u_14_217 {G : aG} {S : Nat → Bool} {f : Nat} {st : List Value} {ls : aL} {h : aH} {k n : Nat} {a : Nat} (hs : S 217 = false) : WP 14 G S (f + 1) 217 ls (.ref a :: st) h k n = (oV (fget h a 5 3) (WP 14 G S f) 220 ls st h k n) := by rw [wp_s dd_14_217 rfl hs]; rfl
theorem dd_14_220 : decode (mB 14) 220 = .ok (.iload 4, 2) := by decide +kernel
theorem u_14_220 {G : aG} {S : Nat → Bool} {f : Nat} {st : List Value} {ls : aL} {h : aH} {k n : Nat} (hs : S 220 = false) : WP 14 G S (f + 1) 220 ls st h k n = (oI (lget ls 4) (WP 14 G S f) 222 ls st h k n) := by rw [wp_s dd_14_220 rfl hs]; rfl
theorem dd_14_222 : decode (mB 14) 222 = .ok (.iaload, 1) := by decide +kernel
theorem u_14_222 {G : aG} {S : Nat → Bool} {f : Nat} {st : List Value} {ls : aL} {h : aH} {k n : Nat} {i : Int32} {a : Nat} (hs : S 222 = false) : WP 14 G S (f + 1) 222 ls (.int i :: .ref a :: st) h k n = (oIld (iget h a 1) i (WP 14 G S f) 223 ls st h k n) := by rw [wp_s dd_14_222 rfl hs]; rfl
theorem dd_14_223 : decode (mB 14) 223 = .ok (.aload_n 0, 1) := by decide +kernel
theorem u_14_223 {G : aG} {S : Nat → Bool} {f : Nat} {st : List Value} {ls : aL} {h : aH} {k n : Nat} (hs : S 223 = false) : WP 14 G S (f + 1) 223 ls st h k n = (oA (lget ls 0) (WP 14 G S f) 224 ls st h k n) := by rw [wp_s dd_14_223 rfl hs]; rfl
theorem dd_14_224 : decode (mB 14) 224 = .ok (.getfield 21, 3) := by decide +kernel
theorem u_14_224 {G : aG} {S : Nat → Bool} {f : Nat} {st : List Value} {ls : aL} {h : aH} {k n : Nat} {a : Nat} (hs : S 224 = false) : WP 14 G S (f + 1) 224 ls (.ref a :: st) h k n = (oV (fget h a 5 3) (WP 14 G S f) 227 ls st h k n) := by rw [wp_s dd_14_224 rfl hs]; rfl
theorem dd_14_227 : decode (mB 14) 227 = .ok (.iload_n 3, 1) := by decide +kernel
theorem u_14_227 {G : aG} {S : Nat → Bool} {f : Nat} {st : List Value} {ls : aL} {h : aH} {k n : Nat} (hs : S 227 = false) : WP 14 G S (f + 1) 227 ls st h k n = (oI (lget ls 3) (WP 14 G S f) 228 ls st h k n) := by rw [wp_s dd_14_227 rfl hs]; rfl
theorem dd_14_228 : decode (mB 14) 228 = .ok (.iaload, 1) := by decide +kernel
theorem u_14_228 {G : aG} {S : Nat → Bool} {f : Nat} {st : List Value} {ls : aL} {h : aH} {k n : Nat} {i : Int32} {a : Nat} (hs : S 228 = false) : WP 14 G S (f + 1) 228 ls (.int i :: .ref a :: st) h k n = (oIld (iget h a 1) i (WP 14 G S f) 229 ls st h k n) := by rw [wp_s dd_14_228 rfl hs]; rfl
theorem dd_14_229 : decode (mB 14) 229 = .ok (.iadd, 1) := by decide +kernel
theorem u_14_229 {G : aG} {S : Nat → Bool} {f : Nat} {st : List Value} {ls : aL} {h : aH} {k n : Nat} {x y : Int32} (hs : S 229 = false) : WP 14 G S (f + 1) 229 ls (.int y :: .int x :: st) h k n = (WP 14 G S f 230 ls (.int (x + y) :: st) h k n) := by rw [wp_s dd_14_229 rfl hs]; rfl
theorem dd_14_230 : decode (mB 14) 230 = .ok (.iconst 1, 1) := by decide +kernel
theorem u_14_230 {G : aG} {S : Nat → Bool} {f : Nat} {st : List Value} {ls : aL} {h : aH} {k n : Nat} (hs : S 230 = false) : WP 14 G S (f + 1) 230 ls st h k n = (WP 14 G S f 231 ls (.int (nI 1) :: st) h k n) := by rw [wp_s dd_14_230 rfl hs]; rfl
theorem dd_14_231 : decode (mB 14) 231 = .ok (.isub, 1) := by decide +kernel
theorem u_14_231 {G : aG} {S : Nat → Bool} {f : Nat} {st : List Value} {ls : aL} {h : aH} {k n : Nat} {x y : Int32} (hs : S 231 = false) : WP 14 G S (f + 1) 231 ls (.int y :: .int x :: st) h k n = (WP 14 G S f 232 ls (.int (x - y) :: st) h k n) := by rw [wp_s dd_14_231 rfl hs]; rfl
theorem dd_14_232 : decode (mB 14) 232 = .ok (.iastore, 1) := by decide +kernel
theorem u_14_232 {G : aG} {S : Nat → Bool} {f : Nat} {st : List Value} {ls : aL} {h : aH} {k n : Nat} {i x : Int32} {a : Nat} (hs : S 232 = false) : WP 14 G S (f + 1) 232 ls (.int x :: .int i :: .ref a :: st) h k n = (oIst (iget h a 1) a i x (WP 14 G S f) 233 ls st h k n) := by rw [wp_s dd_14_232 rfl hs]; rfl
theorem dd_14_233 : decode (mB 14) 233 = .ok (.aload_n 0, 1) := by decide +kernel
theorem u_14_233 {G : aG} {S : Nat → Bool} {f : Nat} {st : List Value} {ls : aL} {h : aH} {k n : Nat} (hs : S 233 = false) : WP 14 G S (f + 1) 233 ls st h k n = (oA (lget ls 0) (WP 14 G S f) 234 ls st h k n) := by rw [wp_s dd_14_233 rfl hs]; rfl
theorem dd_14_234 : decode (mB 14) 234 = .ok (.getfield 24, 3) := by decide +kernel
theorem u_14_234 {G : aG} {S : Nat → Bool} {f : Nat} {st : List Value} {ls : aL} {h : aH} {k n : Nat} {a : Nat} (hs : S 234 = false) : WP 14 G S (f + 1) 234 ls (.ref a :: st) h k n = (oV (fget h a 5 4) (WP 14 G S f) 237 ls st h k n) := by rw [wp_s dd_14_234 rfl hs]; rfl
theorem dd_14_237 : decode (mB 14) 237 = .ok (.iload_n 1, 1) := by decide +kernel
theorem u_14_237 {G : aG} {S : Nat → Bool} {f : Nat} {st : List Value} {ls : aL} {h : aH} {k n : Nat} (hs : S 237 = false) : WP 14 G S (f + 1) 237 ls st h k n = (oI (lget ls 1) (WP 14 G S f) 238 ls st h k n) := by rw [wp_s dd_14_237 rfl hs]; rfl
theorem dd_14_238 : decode (mB 14) 238 = .ok (.iload_n 2, 1) := by decide +kernel
theorem u_14_238 {G : aG} {S : Nat → Bool} {f : Nat} {st : List Value} {ls : aL} {h : aH} {k n : Nat} (hs : S 238 = false) : WP 14 G S (f + 1) 238 ls st h k n = (oI (lget ls 2) (WP 14 G S f) 239 ls st h k n) := by rw [wp_s dd_14_238 rfl hs]; rfl
theorem dd_14_239 : decode (mB 14) 239 = .ok (.bipush 10, 2) := by decide +kernel
theorem u_14_239 {G : aG} {S : Nat → Bool} {f : Nat} {st : List Value} {ls : aL} {h : aH} {k n : Nat} (hs : S 239 = false) : WP 14 G S (f + 1) 239 ls st h k n = (WP 14 G S f 241 ls (.int (nI 10) :: st) h k n) := by rw [wp_s dd_14_239 rfl hs]; rfl
theorem dd_14_241 : decode (mB 14) 241 = .ok (.if_icmp .ne 22, 3) := by decide +kernel
theorem u_14_241 {G : aG} {S : Nat → Bool} {f : Nat} {st : List Value} {ls : aL} {h : aH} {k n : Nat} {x y : Int32} (hs : S 241 = false) : WP 14 G S (f + 1) 241 ls (.int y :: .int x :: st) h k n = (if x = y then WP 14 G S f 244 ls st h k n else WP 14 G S f 263 ls st h k n) := by rw [wp_s dd_14_241 rfl hs]; exact br_iten (c := x = y)
theorem dd_14_244 : decode (mB 14) 244 = .ok (.aload_n 0, 1) := by decide +kernel
theorem u_14_244 {G : aG} {S : Nat → Bool} {f : Nat} {st : List Value} {ls : aL} {h : aH} {k n : Nat} (hs : S 244 = false) : WP 14 G S (f + 1) 244 ls st h k n = (oA (lget ls 0) (WP 14 G S f) 245 ls st h k n) := by rw [wp_s dd_14_244 rfl hs]; rfl
theorem dd_14_245 : decode (mB 14) 245 = .ok (.getfield 24, 3) := by decide +kernel
theorem u_14_245 {G : aG} {S : Nat → Bool} {f : Nat} {st : List Value} {ls : aL} {h : aH} {k n : Nat} {a : Nat} (hs : S 245 = false) : WP 14 G S (f + 1) 245 ls (.ref a :: st) h k n = (oV (fget h a 5 4) (WP 14 G S f) 248 ls st h k n) := by rw [wp_s dd_14_245 rfl hs]; rfl
theorem dd_14_248 : decode (mB 14) 248 = .ok (.iload 4, 2) := by decide +kernel
theorem u_14_248 {G : aG} {S : Nat → Bool} {f : Nat} {st : List Value} {ls : aL} {h : aH} {k n : Nat} (hs : S 248 = false) : WP 14 G S (f + 1) 248 ls st h k n = (oI (lget ls 4) (WP 14 G S f) 250 ls st h k n) := by rw [wp_s dd_14_248 rfl hs]; rfl
theorem dd_14_250 : decode (mB 14) 250 = .ok (.iaload, 1) := by decide +kernel
theorem u_14_250 {G : aG} {S : Nat → Bool} {f : Nat} {st : List Value} {ls : aL} {h : aH} {k n : Nat} {i : Int32} {a : Nat} (hs : S 250 = false) : WP 14 G S (f + 1) 250 ls (.int i :: .ref a :: st) h k n = (oIld (iget h a 1) i (WP 14 G S f) 251 ls st h k n) := by rw [wp_s dd_14_250 rfl hs]; rfl
theorem dd_14_251 : decode (mB 14) 251 = .ok (.aload_n 0, 1) := by decide +kernel
theorem u_14_251 {G : aG} {S : Nat → Bool} {f : Nat} {st : List Value} {ls : aL} {h : aH} {k n : Nat} (hs : S 251 = false) : WP 14 G S (f + 1) 251 ls st h k n = (oA (lget ls 0) (WP 14 G S f) 252 ls st h k n) := by rw [wp_s dd_14_251 rfl hs]; rfl
theorem dd_14_252 : decode (mB 14) 252 = .ok (.getfield 24, 3) := by decide +kernel
theorem u_14_252 {G : aG} {S : Nat → Bool} {f : Nat} {st : List Value} {ls : aL} {h : aH} {k n : Nat} {a : Nat} (hs : S 252 = false) : WP 14 G S (f + 1) 252 ls (.ref a :: st) h k n = (oV (fget h a 5 4) (WP 14 G S f) 255 ls st h k n) := by rw [wp_s dd_14_252 rfl hs]; rfl
theorem dd_14_255 : decode (mB 14) 255 = .ok (.iload_n 3, 1) := by decide +kernel
theorem u_14_255 {G : aG} {S : Nat → Bool} {f : Nat} {st : List Value} {ls : aL} {h : aH} {k n : Nat} (hs : S 255 = false) : WP 14 G S (f + 1) 255 ls st h k n = (oI (lget ls 3) (WP 14 G S f) 256 ls st h k n) := by rw [wp_s dd_14_255 rfl hs]; rfl
theorem dd_14_256 : decode (mB 14) 256 = .ok (.iaload, 1) := by decide +kernel
theorem u_14_256 {G : aG} {S : Nat → Bool} {f : Nat} {st : List Value} {ls : aL} {h : aH} {k n : Nat} {i : Int32} {a : Nat} (hs : S 256 = false) : WP 14 G S (f + 1) 256 ls (.int i :: .ref a :: st) h k n = (oIld (iget h a 1) i (WP 14 G S f) 257 ls st h k n) := by rw [wp_s dd_14_256 rfl hs]; rfl
theorem dd_14_257 : decode (mB 14) 257 = .ok (.invokestatic 50, 3) := by decide +kernel
theorem u_14_257 {G : aG} {S : Nat → Bool} {f : Nat} {st : List Value} {ls : aL} {h : aH} {k n : Nat} {v1 v2 : Value} (hs : S 257 = false) : WP 14 G S (f + 1) 257 ls (v2 :: v1 :: st) h k n = (CAL G (WP 14 G S f) 15 [v1, v2] 260 ls st h k n) := by rw [wp_s dd_14_257 rfl hs]; rfl
theorem dd_14_260 : decode (mB 14) 260 = .ok (.goto 17, 3) := by decide +kernel
theorem u_14_260 {G : aG} {S : Nat → Bool} {f : Nat} {st : List Value} {ls : aL} {h : aH} {k n : Nat} (hs : S 260 = false) : WP 14 G S (f + 1) 260 ls st h k n = (WP 14 G S f 277 ls st h k n) := by rw [wp_s dd_14_260 rfl hs]; rfl
theorem dd_14_263 : decode (mB 14) 263 = .ok (.aload_n 0, 1) := by decide +kernel
theorem u_14_263 {G : aG} {S : Nat → Bool} {f : Nat} {st : List Value} {ls : aL} {h : aH} {k n : Nat} (hs : S 263 = false) : WP 14 G S (f + 1) 263 ls st h k n = (oA (lget ls 0) (WP 14 G S f) 264 ls st h k n) := by rw [wp_s dd_14_263 rfl hs]; rfl
theorem dd_14_264 : decode (mB 14) 264 = .ok (.getfield 24, 3) := by decide +kernel
theorem u_14_264 {G : aG} {S : Nat → Bool} {f : Nat} {st : List Value} {ls : aL} {h : aH} {k n : Nat} {a : Nat} (hs : S 264 = false) : WP 14 G S (f + 1) 264 ls (.ref a :: st) h k n = (oV (fget h a 5 4) (WP 14 G S f) 267 ls st h k n) := by rw [wp_s dd_14_264 rfl hs]; rfl
theorem dd_14_267 : decode (mB 14) 267 = .ok (.iload 4, 2) := by decide +kernel
theorem u_14_267 {G : aG} {S : Nat → Bool} {f : Nat} {st : List Value} {ls : aL} {h : aH} {k n : Nat} (hs : S 267 = false) : WP 14 G S (f + 1) 267 ls st h k n = (oI (lget ls 4) (WP 14 G S f) 269 ls st h k n) := by rw [wp_s dd_14_267 rfl hs]; rfl
theorem dd_14_269 : decode (mB 14) 269 = .ok (.iaload, 1) := by decide +kernel
theorem u_14_269 {G : aG} {S : Nat → Bool} {f : Nat} {st : List Value} {ls : aL} {h : aH} {k n : Nat} {i : Int32} {a : Nat} (hs : S 269 = false) : WP 14 G S (f + 1) 269 ls (.int i :: .ref a :: st) h k n = (oIld (iget h a 1) i (WP 14 G S f) 270 ls st h k n) := by rw [wp_s dd_14_269 rfl hs]; rfl
theorem dd_14_270 : decode (mB 14) 270 = .ok (.aload_n 0, 1) := by decide +kernel
theorem u_14_270 {G : aG} {S : Nat → Bool} {f : Nat} {st : List Value} {ls : aL} {h : aH} {k n : Nat} (hs : S 270 = false) : WP 14 G S (f + 1) 270 ls st h k n = (oA (lget ls 0) (WP 14 G S f) 271 ls st h k n) := by rw [wp_s dd_14_270 rfl hs]; rfl
theorem dd_14_271 : decode (mB 14) 271 = .ok (.getfield 24, 3) := by decide +kernel
theorem u_14_271 {G : aG} {S : Nat → Bool} {f : Nat} {st : List Value} {ls : aL} {h : aH} {k n : Nat} {a : Nat} (hs : S 271 = false) : WP 14 G S (f + 1) 271 ls (.ref a :: st) h k n = (oV (fget h a 5 4) (WP 14 G S f) 274 ls st h k n) := by rw [wp_s dd_14_271 rfl hs]; rfl
theorem dd_14_274 : decode (mB 14) 274 = .ok (.iload_n 3, 1) := by decide +kernel
theorem u_14_274 {G : aG} {S : Nat → Bool} {f : Nat} {st : List Value} {ls : aL} {h : aH} {k n : Nat} (hs : S 274 = false) : WP 14 G S (f + 1) 274 ls st h k n = (oI (lget ls 3) (WP 14 G S f) 275 ls st h k n) := by rw [wp_s dd_14_274 rfl hs]; rfl
theorem dd_14_275 : decode (mB 14) 275 = .ok (.iaload, 1) := by decide +kernel
theorem u_14_275 {G : aG} {S : Nat → Bool} {f : Nat} {st : List Value} {ls : aL} {h : aH} {k n : Nat} {i : Int32} {a : Nat} (hs : S 275 = false) : WP 14 G S (f + 1) 275 ls (.int i :: .ref a :: st) h k n = (oIld (iget h a 1) i (WP 14 G S f) 276 ls st h k n) := by rw [wp_s dd_14_275 rfl hs]; rfl
theorem dd_14_276 : decode (mB 14) 276 = .ok (.iadd, 1) := by decide +kernel
theorem u_14_276 {G : aG} {S : Nat → Bool} {f : Nat} {st : List Value} {ls : aL} {h : aH} {k n : Nat} {x y : Int32} (hs : S 276 = false) : WP 14 G S (f + 1) 276 ls (.int y :: .int x :: st) h k n = (WP 14 G S f 277 ls (.int (x + y) :: st) h k n) := by rw [wp_s dd_14_276 rfl hs]; rfl
theorem dd_14_277 : decode (mB 14) 277 = .ok (.iastore, 1) := by decide +kernel
theorem u_14_277 {G : aG} {S : Nat → Bool} {f : Nat} {st : List Value} {ls : aL} {h : aH} {k n : Nat} {i x : Int32} {a : Nat} (hs : S 277 = false) : WP 14 G S (f + 1) 277 ls (.int x :: .int i :: .ref a :: st) h k n = (oIst (iget h a 1) a i x (WP 14 G S f) 278 ls st h k n) := by rw [wp_s dd_14_277 rfl hs]; rfl
theorem dd_14_278 : decode (mB 14) 278 = .ok (.return_, 1) := by decide +kernel
theorem u_14_278 {G : aG} {S : Nat → Bool} {f : Nat} {ls : aL} {h : aH} {k n : Nat} (hs : S 278 = false) : WP 14 G S (f + 1) 278 ls [] h k n = (RET G none h k n) := by rw [wp_s dd_14_278 rfl hs]; rfl
theorem dd_16_0 : decode (mB 16) 0 = .ok (.aload_n 0, 1) := by decide +kernel
theorem u_16_0 {G : aG} {S : Nat → Bool} {f : Nat} {st : List Value} {ls : aL} {h : aH} {k n : Nat} (hs : S 0 = false) : WP 16 G S (f + 1) 0 ls st h k n = (oA (lget ls 0) (WP 16 G S f) 1 ls st h k n) := by rw [wp_s dd_16_0 rfl hs]; rfl
theorem dd_16_1 : decode (mB 16) 1 = .ok (.aload_n 0, 1) := by decide +kernel
theorem u_16_1 {G : aG} {S : Nat → Bool} {f : Nat} {st : List Value} {ls : aL} {h : aH} {k n : Nat} (hs : S 1 = false) : WP 16 G S (f + 1) 1 ls st h k n = (oA (lget ls 0) (WP 16 G S f) 2 ls st h k n) := by rw [wp_s dd_16_1 rfl hs]; rfl
theorem dd_16_2 : decode (mB 16) 2 = .ok (.getfield 39, 3) := by decide +kernel
theorem u_16_2 {G : aG} {S : Nat → Bool} {f : Nat} {st : List Value} {ls : aL} {h : aH} {k n : Nat} {a : Nat} (hs : S 2 = false) : WP 16 G S (f + 1) 2 ls (.ref a :: st) h k n = (oV (fget h a 5 5) (WP 16 G S f) 5 ls st h k n) := by rw [wp_s dd_16_2 rfl hs]; rfl
theorem dd_16_5 : decode (mB 16) 5 = .ok (.ifCond .lt 21, 3) := by decide +kernel
theorem u_16_5 {G : aG} {S : Nat → Bool} {f : Nat} {st : List Value} {ls : aL} {h : aH} {k n : Nat} {x : Int32} (hs : S 5 = false) : WP 16 G S (f + 1) 5 ls (.int x :: st) h k n = (if x < nI 0 then WP 16 G S f 26 ls st h k n else WP 16 G S f 8 ls st h k n) := by rw [wp_s dd_16_5 rfl hs]; exact br_ite (c := x < nI 0)
theorem dd_16_8 : decode (mB 16) 8 = .ok (.aload_n 0, 1) := by decide +kernel
theorem u_16_8 {G : aG} {S : Nat → Bool} {f : Nat} {st : List Value} {ls : aL} {h : aH} {k n : Nat} (hs : S 8 = false) : WP 16 G S (f + 1) 8 ls st h k n = (oA (lget ls 0) (WP 16 G S f) 9 ls st h k n) := by rw [wp_s dd_16_8 rfl hs]; rfl
theorem dd_16_9 : decode (mB 16) 9 = .ok (.getfield 21, 3) := by decide +kernel
theorem u_16_9 {G : aG} {S : Nat → Bool} {f : Nat} {st : List Value} {ls : aL} {h : aH} {k n : Nat} {a : Nat} (hs : S 9 = false) : WP 16 G S (f + 1) 9 ls (.ref a :: st) h k n = (oV (fget h a 5 3) (WP 16 G S f) 12 ls st h k n) := by rw [wp_s dd_16_9 rfl hs]; rfl
theorem dd_16_12 : decode (mB 16) 12 = .ok (.aload_n 0, 1) := by decide +kernel
theorem u_16_12 {G : aG} {S : Nat → Bool} {f : Nat} {st : List Value} {ls : aL} {h : aH} {k n : Nat} (hs : S 12 = false) : WP 16 G S (f + 1) 12 ls st h k n = (oA (lget ls 0) (WP 16 G S f) 13 ls st h k n) := by rw [wp_s dd_16_12 rfl hs]; rfl
theorem dd_16_13 : decode (mB 16) 13 = .ok (.getfield 39, 3) := by decide +kernel
theorem u_16_13 {G : aG} {S : Nat → Bool} {f : Nat} {st : List Value} {ls : aL} {h : aH} {k n : Nat} {a : Nat} (hs : S 13 = false) : WP 16 G S (f + 1) 13 ls (.ref a :: st) h k n = (oV (fget h a 5 5) (WP 16 G S f) 16 ls st h k n) := by rw [wp_s dd_16_13 rfl hs]; rfl
theorem dd_16_16 : decode (mB 16) 16 = .ok (.iaload, 1) := by decide +kernel
theorem u_16_16 {G : aG} {S : Nat → Bool} {f : Nat} {st : List Value} {ls : aL} {h : aH} {k n : Nat} {i : Int32} {a : Nat} (hs : S 16 = false) : WP 16 G S (f + 1) 16 ls (.int i :: .ref a :: st) h k n = (oIld (iget h a 1) i (WP 16 G S f) 17 ls st h k n) := by rw [wp_s dd_16_16 rfl hs]; rfl
theorem dd_16_17 : decode (mB 16) 17 = .ok (.sipush 256, 3) := by decide +kernel
theorem u_16_17 {G : aG} {S : Nat → Bool} {f : Nat} {st : List Value} {ls : aL} {h : aH} {k n : Nat} (hs : S 17 = false) : WP 16 G S (f + 1) 17 ls st h k n = (WP 16 G S f 20 ls (.int (nI 256) :: st) h k n) := by rw [wp_s dd_16_17 rfl hs]; rfl
theorem dd_16_20 : decode (mB 16) 20 = .ok (.invokestatic 50, 3) := by decide +kernel
theorem u_16_20 {G : aG} {S : Nat → Bool} {f : Nat} {st : List Value} {ls : aL} {h : aH} {k n : Nat} {v1 v2 : Value} (hs : S 20 = false) : WP 16 G S (f + 1) 20 ls (v2 :: v1 :: st) h k n = (CAL G (WP 16 G S f) 15 [v1, v2] 23 ls st h k n) := by rw [wp_s dd_16_20 rfl hs]; rfl
theorem dd_16_23 : decode (mB 16) 23 = .ok (.goto 4, 3) := by decide +kernel
theorem u_16_23 {G : aG} {S : Nat → Bool} {f : Nat} {st : List Value} {ls : aL} {h : aH} {k n : Nat} (hs : S 23 = false) : WP 16 G S (f + 1) 23 ls st h k n = (WP 16 G S f 27 ls st h k n) := by rw [wp_s dd_16_23 rfl hs]; rfl
theorem dd_16_26 : decode (mB 16) 26 = .ok (.iconst 0, 1) := by decide +kernel
theorem u_16_26 {G : aG} {S : Nat → Bool} {f : Nat} {st : List Value} {ls : aL} {h : aH} {k n : Nat} (hs : S 26 = false) : WP 16 G S (f + 1) 26 ls st h k n = (WP 16 G S f 27 ls (.int (nI 0) :: st) h k n) := by rw [wp_s dd_16_26 rfl hs]; rfl
theorem dd_16_27 : decode (mB 16) 27 = .ok (.putfield 56, 3) := by decide +kernel
theorem u_16_27 {G : aG} {S : Nat → Bool} {f : Nat} {st : List Value} {ls : aL} {h : aH} {k n : Nat} {a : Nat} {x : Int32} (hs : S 27 = false) : WP 16 G S (f + 1) 27 ls (.int x :: .ref a :: st) h k n = (oH (fput h a 5 6 (.int x)) (WP 16 G S f) 30 ls st k n) := by rw [wp_s dd_16_27 rfl hs]; rfl
theorem dd_16_30 : decode (mB 16) 30 = .ok (.aload_n 0, 1) := by decide +kernel
theorem u_16_30 {G : aG} {S : Nat → Bool} {f : Nat} {st : List Value} {ls : aL} {h : aH} {k n : Nat} (hs : S 30 = false) : WP 16 G S (f + 1) 30 ls st h k n = (oA (lget ls 0) (WP 16 G S f) 31 ls st h k n) := by rw [wp_s dd_16_30 rfl hs]; rfl
theorem dd_16_31 : decode (mB 16) 31 = .ok (.getfield 27, 3) := by decide +kernel
theorem u_16_31 {G : aG} {S : Nat → Bool} {f : Nat} {st : List Value} {ls : aL} {h : aH} {k n : Nat} {a : Nat} (hs : S 31 = false) : WP 16 G S (f + 1) 31 ls (.ref a :: st) h k n = (oV (fget h a 5 8) (WP 16 G S f) 34 ls st h k n) := by rw [wp_s dd_16_31 rfl hs]; rfl
theorem dd_16_34 : decode (mB 16) 34 = .ok (.arraylength, 1) := by decide +kernel
theorem u_16_34 {G : aG} {S : Nat → Bool} {f : Nat} {st : List Value} {ls : aL} {h : aH} {k n : Nat} {a : Nat} (hs : S 34 = false) : WP 16 G S (f + 1) 34 ls (.ref a :: st) h k n = (oLen (alen h a) (WP 16 G S f) 35 ls st h k n) := by rw [wp_s dd_16_34 rfl hs]; rfl
theorem dd_16_35 : decode (mB 16) 35 = .ok (.aload_n 0, 1) := by decide +kernel
theorem u_16_35 {G : aG} {S : Nat → Bool} {f : Nat} {st : List Value} {ls : aL} {h : aH} {k n : Nat} (hs : S 35 = false) : WP 16 G S (f + 1) 35 ls st h k n = (oA (lget ls 0) (WP 16 G S f) 36 ls st h k n) := by rw [wp_s dd_16_35 rfl hs]; rfl
theorem dd_16_36 : decode (mB 16) 36 = .ok (.getfield 56, 3) := by decide +kernel
theorem u_16_36 {G : aG} {S : Nat → Bool} {f : Nat} {st : List Value} {ls : aL} {h : aH} {k n : Nat} {a : Nat} (hs : S 36 = false) : WP 16 G S (f + 1) 36 ls (.ref a :: st) h k n = (oV (fget h a 5 6) (WP 16 G S f) 39 ls st h k n) := by rw [wp_s dd_16_36 rfl hs]; rfl
theorem dd_16_39 : decode (mB 16) 39 = .ok (.if_icmp .ge 33, 3) := by decide +kernel
theorem u_16_39 {G : aG} {S : Nat → Bool} {f : Nat} {st : List Value} {ls : aL} {h : aH} {k n : Nat} {x y : Int32} (hs : S 39 = false) : WP 16 G S (f + 1) 39 ls (.int y :: .int x :: st) h k n = (if y ≤ x then WP 16 G S f 72 ls st h k n else WP 16 G S f 42 ls st h k n) := by rw [wp_s dd_16_39 rfl hs]; exact br_ite (c := y ≤ x)
theorem dd_16_42 : decode (mB 16) 42 = .ok (.aload_n 0, 1) := by decide +kernel
theorem u_16_42 {G : aG} {S : Nat → Bool} {f : Nat} {st : List Value} {ls : aL} {h : aH} {k n : Nat} (hs : S 42 = false) : WP 16 G S (f + 1) 42 ls st h k n = (oA (lget ls 0) (WP 16 G S f) 43 ls st h k n) := by rw [wp_s dd_16_42 rfl hs]; rfl
theorem dd_16_43 : decode (mB 16) 43 = .ok (.aload_n 0, 1) := by decide +kernel
theorem u_16_43 {G : aG} {S : Nat → Bool} {f : Nat} {st : List Value} {ls : aL} {h : aH} {k n : Nat} (hs : S 43 = false) : WP 16 G S (f + 1) 43 ls st h k n = (oA (lget ls 0) (WP 16 G S f) 44 ls st h k n) := by rw [wp_s dd_16_43 rfl hs]; rfl
theorem dd_16_44 : decode (mB 16) 44 = .ok (.getfield 56, 3) := by decide +kernel
theorem u_16_44 {G : aG} {S : Nat → Bool} {f : Nat} {st : List Value} {ls : aL} {h : aH} {k n : Nat} {a : Nat} (hs : S 44 = false) : WP 16 G S (f + 1) 44 ls (.ref a :: st) h k n = (oV (fget h a 5 6) (WP 16 G S f) 47 ls st h k n) := by rw [wp_s dd_16_44 rfl hs]; rfl
theorem dd_16_47 : decode (mB 16) 47 = .ok (.newarray .int, 2) := by decide +kernel
theorem u_16_47 {G : aG} {S : Nat → Bool} {f : Nat} {st : List Value} {ls : aL} {h : aH} {k n : Nat} {x : Int32} (hs : S 47 = false) : WP 16 G S (f + 1) 47 ls (.int x :: st) h k n = (¬ x < 0 ∧ x.toNatClampNeg * 4 ≤ 536870912 ∧ oNew G (cI x.toNatClampNeg) x.toNatClampNeg (WP 16 G S f) 49 ls st h k n) := by rw [wp_s dd_16_47 rfl hs]; rfl
theorem dd_16_49 : decode (mB 16) 49 = .ok (.putfield 27, 3) := by decide +kernel
theorem u_16_49 {G : aG} {S : Nat → Bool} {f : Nat} {st : List Value} {ls : aL} {h : aH} {k n : Nat} {a : Nat} {x : Nat} (hs : S 49 = false) : WP 16 G S (f + 1) 49 ls (.ref x :: .ref a :: st) h k n = (oH (fput h a 5 8 (.ref x)) (WP 16 G S f) 52 ls st k n) := by rw [wp_s dd_16_49 rfl hs]; rfl
theorem dd_16_52 : decode (mB 16) 52 = .ok (.aload_n 0, 1) := by decide +kernel
theorem u_16_52 {G : aG} {S : Nat → Bool} {f : Nat} {st : List Value} {ls : aL} {h : aH} {k n : Nat} (hs : S 52 = false) : WP 16 G S (f + 1) 52 ls st h k n = (oA (lget ls 0) (WP 16 G S f) 53 ls st h k n) := by rw [wp_s dd_16_52 rfl hs]; rfl
theorem dd_16_53 : decode (mB 16) 53 = .ok (.aload_n 0, 1) := by decide +kernel
theorem u_16_53 {G : aG} {S : Nat → Bool} {f : Nat} {st : List Value} {ls : aL} {h : aH} {k n : Nat} (hs : S 53 = false) : WP 16 G S (f + 1) 53 ls st h k n = (oA (lget ls 0) (WP 16 G S f) 54 ls st h k n) := by rw [wp_s dd_16_53 rfl hs]; rfl
theorem dd_16_54 : decode (mB 16) 54 = .ok (.getfield 56, 3) := by decide +kernel
theorem u_16_54 {G : aG} {S : Nat → Bool} {f : Nat} {st : List Value} {ls : aL} {h : aH} {k n : Nat} {a : Nat} (hs : S 54 = false) : WP 16 G S (f + 1) 54 ls (.ref a :: st) h k n = (oV (fget h a 5 6) (WP 16 G S f) 57 ls st h k n) := by rw [wp_s dd_16_54 rfl hs]; rfl
theorem dd_16_57 : decode (mB 16) 57 = .ok (.newarray .int, 2) := by decide +kernel
theorem u_16_57 {G : aG} {S : Nat → Bool} {f : Nat} {st : List Value} {ls : aL} {h : aH} {k n : Nat} {x : Int32} (hs : S 57 = false) : WP 16 G S (f + 1) 57 ls (.int x :: st) h k n = (¬ x < 0 ∧ x.toNatClampNeg * 4 ≤ 536870912 ∧ oNew G (cI x.toNatClampNeg) x.toNatClampNeg (WP 16 G S f) 59 ls st h k n) := by rw [wp_s dd_16_57 rfl hs]; rfl
theorem dd_16_59 : decode (mB 16) 59 = .ok (.putfield 33, 3) := by decide +kernel
theorem u_16_59 {G : aG} {S : Nat → Bool} {f : Nat} {st : List Value} {ls : aL} {h : aH} {k n : Nat} {a : Nat} {x : Nat} (hs : S 59 = false) : WP 16 G S (f + 1) 59 ls (.ref x :: .ref a :: st) h k n = (oH (fput h a 5 10 (.ref x)) (WP 16 G S f) 62 ls st k n) := by rw [wp_s dd_16_59 rfl hs]; rfl
theorem dd_16_62 : decode (mB 16) 62 = .ok (.aload_n 0, 1) := by decide +kernel
theorem u_16_62 {G : aG} {S : Nat → Bool} {f : Nat} {st : List Value} {ls : aL} {h : aH} {k n : Nat} (hs : S 62 = false) : WP 16 G S (f + 1) 62 ls st h k n = (oA (lget ls 0) (WP 16 G S f) 63 ls st h k n) := by rw [wp_s dd_16_62 rfl hs]; rfl
theorem dd_16_63 : decode (mB 16) 63 = .ok (.aload_n 0, 1) := by decide +kernel
theorem u_16_63 {G : aG} {S : Nat → Bool} {f : Nat} {st : List Value} {ls : aL} {h : aH} {k n : Nat} (hs : S 63 = false) : WP 16 G S (f + 1) 63 ls st h k n = (oA (lget ls 0) (WP 16 G S f) 64 ls st h k n) := by rw [wp_s dd_16_63 rfl hs]; rfl
theorem dd_16_64 : decode (mB 16) 64 = .ok (.getfield 56, 3) := by decide +kernel
theorem u_16_64 {G : aG} {S : Nat → Bool} {f : Nat} {st : List Value} {ls : aL} {h : aH} {k n : Nat} {a : Nat} (hs : S 64 = false) : WP 16 G S (f + 1) 64 ls (.ref a :: st) h k n = (oV (fget h a 5 6) (WP 16 G S f) 67 ls st h k n) := by rw [wp_s dd_16_64 rfl hs]; rfl
theorem dd_16_67 : decode (mB 16) 67 = .ok (.newarray .int, 2) := by decide +kernel
theorem u_16_67 {G : aG} {S : Nat → Bool} {f : Nat} {st : List Value} {ls : aL} {h : aH} {k n : Nat} {x : Int32} (hs : S 67 = false) : WP 16 G S (f + 1) 67 ls (.int x :: st) h k n = (¬ x < 0 ∧ x.toNatClampNeg * 4 ≤ 536870912 ∧ oNew G (cI x.toNatClampNeg) x.toNatClampNeg (WP 16 G S f) 69 ls st h k n) := by rw [wp_s dd_16_67 rfl hs]; rfl
theorem dd_16_69 : decode (mB 16) 69 = .ok (.putfield 36, 3) := by decide +kernel
theorem u_16_69 {G : aG} {S : Nat → Bool} {f : Nat} {st : List Value} {ls : aL} {h : aH} {k n : Nat} {a : Nat} {x : Nat} (hs : S 69 = false) : WP 16 G S (f + 1) 69 ls (.ref x :: .ref a :: st) h k n = (oH (fput h a 5 11 (.ref x)) (WP 16 G S f) 72 ls st k n) := by rw [wp_s dd_16_69 rfl hs]; rfl
theorem dd_16_72 : decode (mB 16) 72 = .ok (.iconst 0, 1) := by decide +kernel
theorem u_16_72 {G : aG} {S : Nat → Bool} {f : Nat} {st : List Value} {ls : aL} {h : aH} {k n : Nat} (hs : S 72 = false) : WP 16 G S (f + 1) 72 ls st h k n = (WP 16 G S f 73 ls (.int (nI 0) :: st) h k n) := by rw [wp_s dd_16_72 rfl hs]; rfl
theorem dd_16_73 : decode (mB 16) 73 = .ok (.istore_n 1, 1) := by decide +kernel
theorem u_16_73 {G : aG} {S : Nat → Bool} {f : Nat} {st : List Value} {ls : aL} {h : aH} {k n : Nat} {x : Int32} (hs : S 73 = false) : WP 16 G S (f + 1) 73 ls (.int x :: st) h k n = (WP 16 G S f 74 (lput1 ls 1 (.int x)) st h k n) := by rw [wp_s dd_16_73 rfl hs]; rfl
theorem dd_16_74 : decode (mB 16) 74 = .ok (.iload_n 1, 1) := by decide +kernel
theorem u_16_74 {G : aG} {S : Nat → Bool} {f : Nat} {st : List Value} {ls : aL} {h : aH} {k n : Nat} (hs : S 74 = false) : WP 16 G S (f + 1) 74 ls st h k n = (oI (lget ls 1) (WP 16 G S f) 75 ls st h k n) := by rw [wp_s dd_16_74 rfl hs]; rfl
theorem v_16_74 {G : aG} {S : Nat → Bool} {f : Nat} {st : List Value} {ls : aL} {h : aH} {k n : Nat} : WQ 16 G S f 74 ls st h k n = (oI (lget ls 1) (WP 16 G S f) 75 ls st h k n) := by rw [wq_s dd_16_74 rfl]; rfl
theorem dd_16_75 : decode (mB 16) 75 = .ok (.aload_n 0, 1) := by decide +kernel
theorem u_16_75 {G : aG} {S : Nat → Bool} {f : Nat} {st : List Value} {ls : aL} {h : aH} {k n : Nat} (hs : S 75 = false) : WP 16 G S (f + 1) 75 ls st h k n = (oA (lget ls 0) (WP 16 G S f) 76 ls st h k n) := by rw [wp_s dd_16_75 rfl hs]; rfl
theorem dd_16_76 : decode (mB 16) 76 = .ok (.getfield 56, 3) := by decide +kernel
theorem u_16_76 {G : aG} {S : Nat → Bool} {f : Nat} {st : List Value} {ls : aL} {h : aH} {k n : Nat} {a : Nat} (hs : S 76 = false) : WP 16 G S (f + 1) 76 ls (.ref a :: st) h k n = (oV (fget h a 5 6) (WP 16 G S f) 79 ls st h k n) := by rw [wp_s dd_16_76 rfl hs]; rfl
theorem dd_16_79 : decode (mB 16) 79 = .ok (.if_icmp .ge 34, 3) := by decide +kernel
theorem u_16_79 {G : aG} {S : Nat → Bool} {f : Nat} {st : List Value} {ls : aL} {h : aH} {k n : Nat} {x y : Int32} (hs : S 79 = false) : WP 16 G S (f + 1) 79 ls (.int y :: .int x :: st) h k n = (if y ≤ x then WP 16 G S f 113 ls st h k n else WP 16 G S f 82 ls st h k n) := by rw [wp_s dd_16_79 rfl hs]; exact br_ite (c := y ≤ x)
theorem dd_16_82 : decode (mB 16) 82 = .ok (.aload_n 0, 1) := by decide +kernel
theorem u_16_82 {G : aG} {S : Nat → Bool} {f : Nat} {st : List Value} {ls : aL} {h : aH} {k n : Nat} (hs : S 82 = false) : WP 16 G S (f + 1) 82 ls st h k n = (oA (lget ls 0) (WP 16 G S f) 83 ls st h k n) := by rw [wp_s dd_16_82 rfl hs]; rfl
theorem dd_16_83 : decode (mB 16) 83 = .ok (.getfield 27, 3) := by decide +kernel
theorem u_16_83 {G : aG} {S : Nat → Bool} {f : Nat} {st : List Value} {ls : aL} {h : aH} {k n : Nat} {a : Nat} (hs : S 83 = false) : WP 16 G S (f + 1) 83 ls (.ref a :: st) h k n = (oV (fget h a 5 8) (WP 16 G S f) 86 ls st h k n) := by rw [wp_s dd_16_83 rfl hs]; rfl
theorem dd_16_86 : decode (mB 16) 86 = .ok (.iload_n 1, 1) := by decide +kernel
theorem u_16_86 {G : aG} {S : Nat → Bool} {f : Nat} {st : List Value} {ls : aL} {h : aH} {k n : Nat} (hs : S 86 = false) : WP 16 G S (f + 1) 86 ls st h k n = (oI (lget ls 1) (WP 16 G S f) 87 ls st h k n) := by rw [wp_s dd_16_86 rfl hs]; rfl
theorem dd_16_87 : decode (mB 16) 87 = .ok (.aload_n 0, 1) := by decide +kernel
theorem u_16_87 {G : aG} {S : Nat → Bool} {f : Nat} {st : List Value} {ls : aL} {h : aH} {k n : Nat} (hs : S 87 = false) : WP 16 G S (f + 1) 87 ls st h k n = (oA (lget ls 0) (WP 16 G S f) 88 ls st h k n) := by rw [wp_s dd_16_87 rfl hs]; rfl
theorem dd_16_88 : decode (mB 16) 88 = .ok (.aload_n 0, 1) := by decide +kernel
theorem u_16_88 {G : aG} {S : Nat → Bool} {f : Nat} {st : List Value} {ls : aL} {h : aH} {k n : Nat} (hs : S 88 = false) : WP 16 G S (f + 1) 88 ls st h k n = (oA (lget ls 0) (WP 16 G S f) 89 ls st h k n) := by rw [wp_s dd_16_88 rfl hs]; rfl
theorem dd_16_89 : decode (mB 16) 89 = .ok (.getfield 39, 3) := by decide +kernel
theorem u_16_89 {G : aG} {S : Nat → Bool} {f : Nat} {st : List Value} {ls : aL} {h : aH} {k n : Nat} {a : Nat} (hs : S 89 = false) : WP 16 G S (f + 1) 89 ls (.ref a :: st) h k n = (oV (fget h a 5 5) (WP 16 G S f) 92 ls st h k n) := by rw [wp_s dd_16_89 rfl hs]; rfl
theorem dd_16_92 : decode (mB 16) 92 = .ok (.iload_n 1, 1) := by decide +kernel
theorem u_16_92 {G : aG} {S : Nat → Bool} {f : Nat} {st : List Value} {ls : aL} {h : aH} {k n : Nat} (hs : S 92 = false) : WP 16 G S (f + 1) 92 ls st h k n = (oI (lget ls 1) (WP 16 G S f) 93 ls st h k n) := by rw [wp_s dd_16_92 rfl hs]; rfl
theorem dd_16_93 : decode (mB 16) 93 = .ok (.invokevirtual 59, 3) := by decide +kernel
theorem u_16_93 {G : aG} {S : Nat → Bool} {f : Nat} {st : List Value} {ls : aL} {h : aH} {k n : Nat} {v1 v2 : Value} {b : Nat} (hs : S 93 = false) : WP 16 G S (f + 1) 93 ls (v2 :: v1 :: .ref b :: st) h k n = (rcv (hget h b) 5 ∧ CAL G (WP 16 G S f) 17 [.ref b, v1, v2] 96 ls st h k n) := by rw [wp_s dd_16_93 rfl hs]; rfl
theorem dd_16_96 : decode (mB 16) 96 = .ok (.ifCond .eq 9, 3) := by decide +kernel
theorem u_16_96 {G : aG} {S : Nat → Bool} {f : Nat} {st : List Value} {ls : aL} {h : aH} {k n : Nat} {x : Int32} (hs : S 96 = false) : WP 16 G S (f + 1) 96 ls (.int x :: st) h k n = (if x = nI 0 then WP 16 G S f 105 ls st h k n else WP 16 G S f 99 ls st h k n) := by rw [wp_s dd_16_96 rfl hs]; exact br_ite (c := x = nI 0)
theorem dd_16_99 : decode (mB 16) 99 = .ok (.sipush 256, 3) := by decide +kernel
theorem u_16_99 {G : aG} {S : Nat → Bool} {f : Nat} {st : List Value} {ls : aL} {h : aH} {k n : Nat} (hs : S 99 = false) : WP 16 G S (f + 1) 99 ls st h k n = (WP 16 G S f 102 ls (.int (nI 256) :: st) h k n) := by rw [wp_s dd_16_99 rfl hs]; rfl
theorem dd_16_102 : decode (mB 16) 102 = .ok (.goto 4, 3) := by decide +kernel
theorem u_16_102 {G : aG} {S : Nat → Bool} {f : Nat} {st : List Value} {ls : aL} {h : aH} {k n : Nat} (hs : S 102 = false) : WP 16 G S (f + 1) 102 ls st h k n = (WP 16 G S f 106 ls st h k n) := by rw [wp_s dd_16_102 rfl hs]; rfl
theorem dd_16_105 : decode (mB 16) 105 = .ok (.iconst 0, 1) := by decide +kernel
theorem u_16_105 {G : aG} {S : Nat → Bool} {f : Nat} {st : List Value} {ls : aL} {h : aH} {k n : Nat} (hs : S 105 = false) : WP 16 G S (f + 1) 105 ls st h k n = (WP 16 G S f 106 ls (.int (nI 0) :: st) h k n) := by rw [wp_s dd_16_105 rfl hs]; rfl
theorem dd_16_106 : decode (mB 16) 106 = .ok (.iastore, 1) := by decide +kernel
theorem u_16_106 {G : aG} {S : Nat → Bool} {f : Nat} {st : List Value} {ls : aL} {h : aH} {k n : Nat} {i x : Int32} {a : Nat} (hs : S 106 = false) : WP 16 G S (f + 1) 106 ls (.int x :: .int i :: .ref a :: st) h k n = (oIst (iget h a 1) a i x (WP 16 G S f) 107 ls st h k n) := by rw [wp_s dd_16_106 rfl hs]; rfl
theorem dd_16_107 : decode (mB 16) 107 = .ok (.iinc 1 1, 3) := by decide +kernel
theorem u_16_107 {G : aG} {S : Nat → Bool} {f : Nat} {st : List Value} {ls : aL} {h : aH} {k n : Nat} (hs : S 107 = false) : WP 16 G S (f + 1) 107 ls st h k n = (oInc (lget ls 1) (nI 1) (WP 16 G S f) 1 110 ls st h k n) := by rw [wp_s dd_16_107 rfl hs]; rfl
theorem dd_16_110 : decode (mB 16) 110 = .ok (.goto (-36), 3) := by decide +kernel
theorem u_16_110 {G : aG} {S : Nat → Bool} {f : Nat} {st : List Value} {ls : aL} {h : aH} {k n : Nat} (hs : S 110 = false) : WP 16 G S (f + 1) 110 ls st h k n = (WP 16 G S f 74 ls st h k n) := by rw [wp_s dd_16_110 rfl hs]; rfl
theorem dd_16_113 : decode (mB 16) 113 = .ok (.return_, 1) := by decide +kernel
theorem u_16_113 {G : aG} {S : Nat → Bool} {f : Nat} {ls : aL} {h : aH} {k n : Nat} (hs : S 113 = false) : WP 16 G S (f + 1) 113 ls [] h k n = (RET G none h k n) := by rw [wp_s dd_16_113 rfl hs]; rfl
theorem dd_17_0 : decode (mB 17) 0 = .ok (.iload_n 1, 1) := by decide +kernel
theorem u_17_0 {G : aG} {S : Nat → Bool} {f : Nat} {st : List Value} {ls : aL} {h : aH} {k n : Nat} (hs : S 0 = false) : WP 17 G S (f + 1) 0 ls st h k n = (oI (lget ls 1) (WP 17 G S f) 1 ls st h k n) := by rw [wp_s dd_17_0 rfl hs]; rfl
theorem dd_17_1 : decode (mB 17) 1 = .ok (.ifCond .ge 5, 3) := by decide +kernel
theorem u_17_1 {G : aG} {S : Nat → Bool} {f : Nat} {st : List Value} {ls : aL} {h : aH} {k n : Nat} {x : Int32} (hs : S 1 = false) : WP 17 G S (f + 1) 1 ls (.int x :: st) h k n = (if nI 0 ≤ x then WP 17 G S f 6 ls st h k n else WP 17 G S f 4 ls st h k n) := by rw [wp_s dd_17_1 rfl hs]; exact br_ite (c := nI 0 ≤ x)
theorem dd_17_4 : decode (mB 17) 4 = .ok (.iconst 0, 1) := by decide +kernel
theorem u_17_4 {G : aG} {S : Nat → Bool} {f : Nat} {st : List Value} {ls : aL} {h : aH} {k n : Nat} (hs : S 4 = false) : WP 17 G S (f + 1) 4 ls st h k n = (WP 17 G S f 5 ls (.int (nI 0) :: st) h k n) := by rw [wp_s dd_17_4 rfl hs]; rfl
theorem dd_17_5 : decode (mB 17) 5 = .ok (.ireturn, 1) := by decide +kernel
theorem u_17_5 {G : aG} {S : Nat → Bool} {f : Nat} {ls : aL} {h : aH} {k n : Nat} {x : Int32} (hs : S 5 = false) : WP 17 G S (f + 1) 5 ls [.int x] h k n = (cond (x == nI 0 || x == nI 1) (RET G (some (.int x)) h k n) False) := by rw [wp_s dd_17_5 rfl hs]; rfl
theorem dd_17_6 : decode (mB 17) 6 = .ok (.aload_n 0, 1) := by decide +kernel
theorem u_17_6 {G : aG} {S : Nat → Bool} {f : Nat} {st : List Value} {ls : aL} {h : aH} {k n : Nat} (hs : S 6 = false) : WP 17 G S (f + 1) 6 ls st h k n = (oA (lget ls 0) (WP 17 G S f) 7 ls st h k n) := by rw [wp_s dd_17_6 rfl hs]; rfl
theorem dd_17_7 : decode (mB 17) 7 = .ok (.getfield 9, 3) := by decide +kernel
theorem u_17_7 {G : aG} {S : Nat → Bool} {f : Nat} {st : List Value} {ls : aL} {h : aH} {k n : Nat} {a : Nat} (hs : S 7 = false) : WP 17 G S (f + 1) 7 ls (.ref a :: st) h k n = (oV (fget h a 5 0) (WP 17 G S f) 10 ls st h k n) := by rw [wp_s dd_17_7 rfl hs]; rfl
theorem dd_17_10 : decode (mB 17) 10 = .ok (.iload_n 1, 1) := by decide +kernel
theorem u_17_10 {G : aG} {S : Nat → Bool} {f : Nat} {st : List Value} {ls : aL} {h : aH} {k n : Nat} (hs : S 10 = false) : WP 17 G S (f + 1) 10 ls st h k n = (oI (lget ls 1) (WP 17 G S f) 11 ls st h k n) := by rw [wp_s dd_17_10 rfl hs]; rfl
theorem dd_17_11 : decode (mB 17) 11 = .ok (.iaload, 1) := by decide +kernel
theorem u_17_11 {G : aG} {S : Nat → Bool} {f : Nat} {st : List Value} {ls : aL} {h : aH} {k n : Nat} {i : Int32} {a : Nat} (hs : S 11 = false) : WP 17 G S (f + 1) 11 ls (.int i :: .ref a :: st) h k n = (oIld (iget h a 1) i (WP 17 G S f) 12 ls st h k n) := by rw [wp_s dd_17_11 rfl hs]; rfl
theorem dd_17_12 : decode (mB 17) 12 = .ok (.istore_n 3, 1) := by decide +kernel
theorem u_17_12 {G : aG} {S : Nat → Bool} {f : Nat} {st : List Value} {ls : aL} {h : aH} {k n : Nat} {x : Int32} (hs : S 12 = false) : WP 17 G S (f + 1) 12 ls (.int x :: st) h k n = (WP 17 G S f 13 (lput1 ls 3 (.int x)) st h k n) := by rw [wp_s dd_17_12 rfl hs]; rfl
theorem dd_17_13 : decode (mB 17) 13 = .ok (.iload_n 1, 1) := by decide +kernel
theorem u_17_13 {G : aG} {S : Nat → Bool} {f : Nat} {st : List Value} {ls : aL} {h : aH} {k n : Nat} (hs : S 13 = false) : WP 17 G S (f + 1) 13 ls st h k n = (oI (lget ls 1) (WP 17 G S f) 14 ls st h k n) := by rw [wp_s dd_17_13 rfl hs]; rfl
theorem dd_17_14 : decode (mB 17) 14 = .ok (.iconst 1, 1) := by decide +kernel
theorem u_17_14 {G : aG} {S : Nat → Bool} {f : Nat} {st : List Value} {ls : aL} {h : aH} {k n : Nat} (hs : S 14 = false) : WP 17 G S (f + 1) 14 ls st h k n = (WP 17 G S f 15 ls (.int (nI 1) :: st) h k n) := by rw [wp_s dd_17_14 rfl hs]; rfl
theorem dd_17_15 : decode (mB 17) 15 = .ok (.isub, 1) := by decide +kernel
theorem u_17_15 {G : aG} {S : Nat → Bool} {f : Nat} {st : List Value} {ls : aL} {h : aH} {k n : Nat} {x y : Int32} (hs : S 15 = false) : WP 17 G S (f + 1) 15 ls (.int y :: .int x :: st) h k n = (WP 17 G S f 16 ls (.int (x - y) :: st) h k n) := by rw [wp_s dd_17_15 rfl hs]; rfl
theorem dd_17_16 : decode (mB 17) 16 = .ok (.istore 4, 2) := by decide +kernel
theorem u_17_16 {G : aG} {S : Nat → Bool} {f : Nat} {st : List Value} {ls : aL} {h : aH} {k n : Nat} {x : Int32} (hs : S 16 = false) : WP 17 G S (f + 1) 16 ls (.int x :: st) h k n = (WP 17 G S f 18 (lput1 ls 4 (.int x)) st h k n) := by rw [wp_s dd_17_16 rfl hs]; rfl
theorem dd_17_18 : decode (mB 17) 18 = .ok (.aload_n 0, 1) := by decide +kernel
theorem u_17_18 {G : aG} {S : Nat → Bool} {f : Nat} {st : List Value} {ls : aL} {h : aH} {k n : Nat} (hs : S 18 = false) : WP 17 G S (f + 1) 18 ls st h k n = (oA (lget ls 0) (WP 17 G S f) 19 ls st h k n) := by rw [wp_s dd_17_18 rfl hs]; rfl
theorem dd_17_19 : decode (mB 17) 19 = .ok (.getfield 18, 3) := by decide +kernel
theorem u_17_19 {G : aG} {S : Nat → Bool} {f : Nat} {st : List Value} {ls : aL} {h : aH} {k n : Nat} {a : Nat} (hs : S 19 = false) : WP 17 G S (f + 1) 19 ls (.ref a :: st) h k n = (oV (fget h a 5 2) (WP 17 G S f) 22 ls st h k n) := by rw [wp_s dd_17_19 rfl hs]; rfl
theorem dd_17_22 : decode (mB 17) 22 = .ok (.iload_n 1, 1) := by decide +kernel
theorem u_17_22 {G : aG} {S : Nat → Bool} {f : Nat} {st : List Value} {ls : aL} {h : aH} {k n : Nat} (hs : S 22 = false) : WP 17 G S (f + 1) 22 ls st h k n = (oI (lget ls 1) (WP 17 G S f) 23 ls st h k n) := by rw [wp_s dd_17_22 rfl hs]; rfl
theorem dd_17_23 : decode (mB 17) 23 = .ok (.iaload, 1) := by decide +kernel
theorem u_17_23 {G : aG} {S : Nat → Bool} {f : Nat} {st : List Value} {ls : aL} {h : aH} {k n : Nat} {i : Int32} {a : Nat} (hs : S 23 = false) : WP 17 G S (f + 1) 23 ls (.int i :: .ref a :: st) h k n = (oIld (iget h a 1) i (WP 17 G S f) 24 ls st h k n) := by rw [wp_s dd_17_23 rfl hs]; rfl
theorem dd_17_24 : decode (mB 17) 24 = .ok (.istore 5, 2) := by decide +kernel
theorem u_17_24 {G : aG} {S : Nat → Bool} {f : Nat} {st : List Value} {ls : aL} {h : aH} {k n : Nat} {x : Int32} (hs : S 24 = false) : WP 17 G S (f + 1) 24 ls (.int x :: st) h k n = (WP 17 G S f 26 (lput1 ls 5 (.int x)) st h k n) := by rw [wp_s dd_17_24 rfl hs]; rfl
theorem dd_17_26 : decode (mB 17) 26 = .ok (.iload_n 3, 1) := by decide +kernel
theorem u_17_26 {G : aG} {S : Nat → Bool} {f : Nat} {st : List Value} {ls : aL} {h : aH} {k n : Nat} (hs : S 26 = false) : WP 17 G S (f + 1) 26 ls st h k n = (oI (lget ls 3) (WP 17 G S f) 27 ls st h k n) := by rw [wp_s dd_17_26 rfl hs]; rfl
theorem dd_17_27 : decode (mB 17) 27 = .ok (.bipush 9, 2) := by decide +kernel
theorem u_17_27 {G : aG} {S : Nat → Bool} {f : Nat} {st : List Value} {ls : aL} {h : aH} {k n : Nat} (hs : S 27 = false) : WP 17 G S (f + 1) 27 ls st h k n = (WP 17 G S f 29 ls (.int (nI 9) :: st) h k n) := by rw [wp_s dd_17_27 rfl hs]; rfl
theorem dd_17_29 : decode (mB 17) 29 = .ok (.if_icmp .gt 20, 3) := by decide +kernel
theorem u_17_29 {G : aG} {S : Nat → Bool} {f : Nat} {st : List Value} {ls : aL} {h : aH} {k n : Nat} {x y : Int32} (hs : S 29 = false) : WP 17 G S (f + 1) 29 ls (.int y :: .int x :: st) h k n = (if y < x then WP 17 G S f 49 ls st h k n else WP 17 G S f 32 ls st h k n) := by rw [wp_s dd_17_29 rfl hs]; exact br_ite (c := y < x)
theorem dd_17_32 : decode (mB 17) 32 = .ok (.iload_n 3, 1) := by decide +kernel
theorem u_17_32 {G : aG} {S : Nat → Bool} {f : Nat} {st : List Value} {ls : aL} {h : aH} {k n : Nat} (hs : S 32 = false) : WP 17 G S (f + 1) 32 ls st h k n = (oI (lget ls 3) (WP 17 G S f) 33 ls st h k n) := by rw [wp_s dd_17_32 rfl hs]; rfl
theorem dd_17_33 : decode (mB 17) 33 = .ok (.bipush 9, 2) := by decide +kernel
theorem u_17_33 {G : aG} {S : Nat → Bool} {f : Nat} {st : List Value} {ls : aL} {h : aH} {k n : Nat} (hs : S 33 = false) : WP 17 G S (f + 1) 33 ls st h k n = (WP 17 G S f 35 ls (.int (nI 9) :: st) h k n) := by rw [wp_s dd_17_33 rfl hs]; rfl
theorem dd_17_35 : decode (mB 17) 35 = .ok (.if_icmp .eq 8, 3) := by decide +kernel
theorem u_17_35 {G : aG} {S : Nat → Bool} {f : Nat} {st : List Value} {ls : aL} {h : aH} {k n : Nat} {x y : Int32} (hs : S 35 = false) : WP 17 G S (f + 1) 35 ls (.int y :: .int x :: st) h k n = (if x = y then WP 17 G S f 43 ls st h k n else WP 17 G S f 38 ls st h k n) := by rw [wp_s dd_17_35 rfl hs]; exact br_ite (c := x = y)
theorem dd_17_38 : decode (mB 17) 38 = .ok (.iload_n 2, 1) := by decide +kernel
theorem u_17_38 {G : aG} {S : Nat → Bool} {f : Nat} {st : List Value} {ls : aL} {h : aH} {k n : Nat} (hs : S 38 = false) : WP 17 G S (f + 1) 38 ls st h k n = (oI (lget ls 2) (WP 17 G S f) 39 ls st h k n) := by rw [wp_s dd_17_38 rfl hs]; rfl
theorem dd_17_39 : decode (mB 17) 39 = .ok (.iconst 1, 1) := by decide +kernel
theorem u_17_39 {G : aG} {S : Nat → Bool} {f : Nat} {st : List Value} {ls : aL} {h : aH} {k n : Nat} (hs : S 39 = false) : WP 17 G S (f + 1) 39 ls st h k n = (WP 17 G S f 40 ls (.int (nI 1) :: st) h k n) := by rw [wp_s dd_17_39 rfl hs]; rfl
theorem dd_17_40 : decode (mB 17) 40 = .ok (.if_icmp .ne 7, 3) := by decide +kernel
theorem u_17_40 {G : aG} {S : Nat → Bool} {f : Nat} {st : List Value} {ls : aL} {h : aH} {k n : Nat} {x y : Int32} (hs : S 40 = false) : WP 17 G S (f + 1) 40 ls (.int y :: .int x :: st) h k n = (if x = y then WP 17 G S f 43 ls st h k n else WP 17 G S f 47 ls st h k n) := by rw [wp_s dd_17_40 rfl hs]; exact br_iten (c := x = y)
theorem dd_17_43 : decode (mB 17) 43 = .ok (.iconst 1, 1) := by decide +kernel
theorem u_17_43 {G : aG} {S : Nat → Bool} {f : Nat} {st : List Value} {ls : aL} {h : aH} {k n : Nat} (hs : S 43 = false) : WP 17 G S (f + 1) 43 ls st h k n = (WP 17 G S f 44 ls (.int (nI 1) :: st) h k n) := by rw [wp_s dd_17_43 rfl hs]; rfl
theorem dd_17_44 : decode (mB 17) 44 = .ok (.goto 4, 3) := by decide +kernel
theorem u_17_44 {G : aG} {S : Nat → Bool} {f : Nat} {st : List Value} {ls : aL} {h : aH} {k n : Nat} (hs : S 44 = false) : WP 17 G S (f + 1) 44 ls st h k n = (WP 17 G S f 48 ls st h k n) := by rw [wp_s dd_17_44 rfl hs]; rfl
theorem dd_17_47 : decode (mB 17) 47 = .ok (.iconst 0, 1) := by decide +kernel
theorem u_17_47 {G : aG} {S : Nat → Bool} {f : Nat} {st : List Value} {ls : aL} {h : aH} {k n : Nat} (hs : S 47 = false) : WP 17 G S (f + 1) 47 ls st h k n = (WP 17 G S f 48 ls (.int (nI 0) :: st) h k n) := by rw [wp_s dd_17_47 rfl hs]; rfl
theorem dd_17_48 : decode (mB 17) 48 = .ok (.ireturn, 1) := by decide +kernel
theorem u_17_48 {G : aG} {S : Nat → Bool} {f : Nat} {ls : aL} {h : aH} {k n : Nat} {x : Int32} (hs : S 48 = false) : WP 17 G S (f + 1) 48 ls [.int x] h k n = (cond (x == nI 0 || x == nI 1) (RET G (some (.int x)) h k n) False) := by rw [wp_s dd_17_48 rfl hs]; rfl
theorem dd_17_49 : decode (mB 17) 49 = .ok (.iload_n 3, 1) := by decide +kernel
theorem u_17_49 {G : aG} {S : Nat → Bool} {f : Nat} {st : List Value} {ls : aL} {h : aH} {k n : Nat} (hs : S 49 = false) : WP 17 G S (f + 1) 49 ls st h k n = (oI (lget ls 3) (WP 17 G S f) 50 ls st h k n) := by rw [wp_s dd_17_49 rfl hs]; rfl
theorem dd_17_50 : decode (mB 17) 50 = .ok (.bipush 13, 2) := by decide +kernel
theorem u_17_50 {G : aG} {S : Nat → Bool} {f : Nat} {st : List Value} {ls : aL} {h : aH} {k n : Nat} (hs : S 50 = false) : WP 17 G S (f + 1) 50 ls st h k n = (WP 17 G S f 52 ls (.int (nI 13) :: st) h k n) := by rw [wp_s dd_17_50 rfl hs]; rfl
theorem dd_17_52 : decode (mB 17) 52 = .ok (.if_icmp .lt 29, 3) := by decide +kernel
theorem u_17_52 {G : aG} {S : Nat → Bool} {f : Nat} {st : List Value} {ls : aL} {h : aH} {k n : Nat} {x y : Int32} (hs : S 52 = false) : WP 17 G S (f + 1) 52 ls (.int y :: .int x :: st) h k n = (if x < y then WP 17 G S f 81 ls st h k n else WP 17 G S f 55 ls st h k n) := by rw [wp_s dd_17_52 rfl hs]; exact br_ite (c := x < y)
theorem dd_17_55 : decode (mB 17) 55 = .ok (.iload_n 2, 1) := by decide +kernel
theorem u_17_55 {G : aG} {S : Nat → Bool} {f : Nat} {st : List Value} {ls : aL} {h : aH} {k n : Nat} (hs : S 55 = false) : WP 17 G S (f + 1) 55 ls st h k n = (oI (lget ls 2) (WP 17 G S f) 56 ls st h k n) := by rw [wp_s dd_17_55 rfl hs]; rfl
theorem dd_17_56 : decode (mB 17) 56 = .ok (.ifCond .ne 9, 3) := by decide +kernel
theorem u_17_56 {G : aG} {S : Nat → Bool} {f : Nat} {st : List Value} {ls : aL} {h : aH} {k n : Nat} {x : Int32} (hs : S 56 = false) : WP 17 G S (f + 1) 56 ls (.int x :: st) h k n = (if x = nI 0 then WP 17 G S f 59 ls st h k n else WP 17 G S f 65 ls st h k n) := by rw [wp_s dd_17_56 rfl hs]; exact br_iten (c := x = nI 0)
theorem dd_17_59 : decode (mB 17) 59 = .ok (.iload_n 3, 1) := by decide +kernel
theorem u_17_59 {G : aG} {S : Nat → Bool} {f : Nat} {st : List Value} {ls : aL} {h : aH} {k n : Nat} (hs : S 59 = false) : WP 17 G S (f + 1) 59 ls st h k n = (oI (lget ls 3) (WP 17 G S f) 60 ls st h k n) := by rw [wp_s dd_17_59 rfl hs]; rfl
theorem dd_17_60 : decode (mB 17) 60 = .ok (.bipush 15, 2) := by decide +kernel
theorem u_17_60 {G : aG} {S : Nat → Bool} {f : Nat} {st : List Value} {ls : aL} {h : aH} {k n : Nat} (hs : S 60 = false) : WP 17 G S (f + 1) 60 ls st h k n = (WP 17 G S f 62 ls (.int (nI 15) :: st) h k n) := by rw [wp_s dd_17_60 rfl hs]; rfl
theorem dd_17_62 : decode (mB 17) 62 = .ok (.if_icmp .ne 13, 3) := by decide +kernel
theorem u_17_62 {G : aG} {S : Nat → Bool} {f : Nat} {st : List Value} {ls : aL} {h : aH} {k n : Nat} {x y : Int32} (hs : S 62 = false) : WP 17 G S (f + 1) 62 ls (.int y :: .int x :: st) h k n = (if x = y then WP 17 G S f 65 ls st h k n else WP 17 G S f 75 ls st h k n) := by rw [wp_s dd_17_62 rfl hs]; exact br_iten (c := x = y)
theorem dd_17_65 : decode (mB 17) 65 = .ok (.aload_n 0, 1) := by decide +kernel
theorem u_17_65 {G : aG} {S : Nat → Bool} {f : Nat} {st : List Value} {ls : aL} {h : aH} {k n : Nat} (hs : S 65 = false) : WP 17 G S (f + 1) 65 ls st h k n = (oA (lget ls 0) (WP 17 G S f) 66 ls st h k n) := by rw [wp_s dd_17_65 rfl hs]; rfl
theorem dd_17_66 : decode (mB 17) 66 = .ok (.iload 4, 2) := by decide +kernel
theorem u_17_66 {G : aG} {S : Nat → Bool} {f : Nat} {st : List Value} {ls : aL} {h : aH} {k n : Nat} (hs : S 66 = false) : WP 17 G S (f + 1) 66 ls st h k n = (oI (lget ls 4) (WP 17 G S f) 68 ls st h k n) := by rw [wp_s dd_17_66 rfl hs]; rfl
theorem dd_17_68 : decode (mB 17) 68 = .ok (.iload_n 2, 1) := by decide +kernel
theorem u_17_68 {G : aG} {S : Nat → Bool} {f : Nat} {st : List Value} {ls : aL} {h : aH} {k n : Nat} (hs : S 68 = false) : WP 17 G S (f + 1) 68 ls st h k n = (oI (lget ls 2) (WP 17 G S f) 69 ls st h k n) := by rw [wp_s dd_17_68 rfl hs]; rfl
theorem dd_17_69 : decode (mB 17) 69 = .ok (.invokevirtual 59, 3) := by decide +kernel
theorem u_17_69 {G : aG} {S : Nat → Bool} {f : Nat} {st : List Value} {ls : aL} {h : aH} {k n : Nat} {v1 v2 : Value} {b : Nat} (hs : S 69 = false) : WP 17 G S (f + 1) 69 ls (v2 :: v1 :: .ref b :: st) h k n = (rcv (hget h b) 5 ∧ CAL G (WP 17 G S f) 17 [.ref b, v1, v2] 72 ls st h k n) := by rw [wp_s dd_17_69 rfl hs]; rfl
theorem dd_17_72 : decode (mB 17) 72 = .ok (.ifCond .eq 7, 3) := by decide +kernel
theorem u_17_72 {G : aG} {S : Nat → Bool} {f : Nat} {st : List Value} {ls : aL} {h : aH} {k n : Nat} {x : Int32} (hs : S 72 = false) : WP 17 G S (f + 1) 72 ls (.int x :: st) h k n = (if x = nI 0 then WP 17 G S f 79 ls st h k n else WP 17 G S f 75 ls st h k n) := by rw [wp_s dd_17_72 rfl hs]; exact br_ite (c := x = nI 0)
theorem dd_17_75 : decode (mB 17) 75 = .ok (.iconst 1, 1) := by decide +kernel
theorem u_17_75 {G : aG} {S : Nat → Bool} {f : Nat} {st : List Value} {ls : aL} {h : aH} {k n : Nat} (hs : S 75 = false) : WP 17 G S (f + 1) 75 ls st h k n = (WP 17 G S f 76 ls (.int (nI 1) :: st) h k n) := by rw [wp_s dd_17_75 rfl hs]; rfl
theorem dd_17_76 : decode (mB 17) 76 = .ok (.goto 4, 3) := by decide +kernel
theorem u_17_76 {G : aG} {S : Nat → Bool} {f : Nat} {st : List Value} {ls : aL} {h : aH} {k n : Nat} (hs : S 76 = false) : WP 17 G S (f + 1) 76 ls st h k n = (WP 17 G S f 80 ls st h k n) := by rw [wp_s dd_17_76 rfl hs]; rfl
theorem dd_17_79 : decode (mB 17) 79 = .ok (.iconst 0, 1) := by decide +kernel
theorem u_17_79 {G : aG} {S : Nat → Bool} {f : Nat} {st : List Value} {ls : aL} {h : aH} {k n : Nat} (hs : S 79 = false) : WP 17 G S (f + 1) 79 ls st h k n = (WP 17 G S f 80 ls (.int (nI 0) :: st) h k n) := by rw [wp_s dd_17_79 rfl hs]; rfl
theorem dd_17_80 : decode (mB 17) 80 = .ok (.ireturn, 1) := by decide +kernel
theorem u_17_80 {G : aG} {S : Nat → Bool} {f : Nat} {ls : aL} {h : aH} {k n : Nat} {x : Int32} (hs : S 80 = false) : WP 17 G S (f + 1) 80 ls [.int x] h k n = (cond (x == nI 0 || x == nI 1) (RET G (some (.int x)) h k n) False) := by rw [wp_s dd_17_80 rfl hs]; rfl
theorem dd_17_81 : decode (mB 17) 81 = .ok (.iload 5, 2) := by decide +kernel
theorem u_17_81 {G : aG} {S : Nat → Bool} {f : Nat} {st : List Value} {ls : aL} {h : aH} {k n : Nat} (hs : S 81 = false) : WP 17 G S (f + 1) 81 ls st h k n = (oI (lget ls 5) (WP 17 G S f) 83 ls st h k n) := by rw [wp_s dd_17_81 rfl hs]; rfl
theorem dd_17_83 : decode (mB 17) 83 = .ok (.ifCond .lt 13, 3) := by decide +kernel
theorem u_17_83 {G : aG} {S : Nat → Bool} {f : Nat} {st : List Value} {ls : aL} {h : aH} {k n : Nat} {x : Int32} (hs : S 83 = false) : WP 17 G S (f + 1) 83 ls (.int x :: st) h k n = (if x < nI 0 then WP 17 G S f 96 ls st h k n else WP 17 G S f 86 ls st h k n) := by rw [wp_s dd_17_83 rfl hs]; exact br_ite (c := x < nI 0)
theorem dd_17_86 : decode (mB 17) 86 = .ok (.aload_n 0, 1) := by decide +kernel
theorem u_17_86 {G : aG} {S : Nat → Bool} {f : Nat} {st : List Value} {ls : aL} {h : aH} {k n : Nat} (hs : S 86 = false) : WP 17 G S (f + 1) 86 ls st h k n = (oA (lget ls 0) (WP 17 G S f) 87 ls st h k n) := by rw [wp_s dd_17_86 rfl hs]; rfl
theorem dd_17_87 : decode (mB 17) 87 = .ok (.getfield 21, 3) := by decide +kernel
theorem u_17_87 {G : aG} {S : Nat → Bool} {f : Nat} {st : List Value} {ls : aL} {h : aH} {k n : Nat} {a : Nat} (hs : S 87 = false) : WP 17 G S (f + 1) 87 ls (.ref a :: st) h k n = (oV (fget h a 5 3) (WP 17 G S f) 90 ls st h k n) := by rw [wp_s dd_17_87 rfl hs]; rfl
theorem dd_17_90 : decode (mB 17) 90 = .ok (.iload 4, 2) := by decide +kernel
theorem u_17_90 {G : aG} {S : Nat → Bool} {f : Nat} {st : List Value} {ls : aL} {h : aH} {k n : Nat} (hs : S 90 = false) : WP 17 G S (f + 1) 90 ls st h k n = (oI (lget ls 4) (WP 17 G S f) 92 ls st h k n) := by rw [wp_s dd_17_90 rfl hs]; rfl
theorem dd_17_92 : decode (mB 17) 92 = .ok (.iaload, 1) := by decide +kernel
theorem u_17_92 {G : aG} {S : Nat → Bool} {f : Nat} {st : List Value} {ls : aL} {h : aH} {k n : Nat} {i : Int32} {a : Nat} (hs : S 92 = false) : WP 17 G S (f + 1) 92 ls (.int i :: .ref a :: st) h k n = (oIld (iget h a 1) i (WP 17 G S f) 93 ls st h k n) := by rw [wp_s dd_17_92 rfl hs]; rfl
theorem dd_17_93 : decode (mB 17) 93 = .ok (.ifCond .gt 5, 3) := by decide +kernel
theorem u_17_93 {G : aG} {S : Nat → Bool} {f : Nat} {st : List Value} {ls : aL} {h : aH} {k n : Nat} {x : Int32} (hs : S 93 = false) : WP 17 G S (f + 1) 93 ls (.int x :: st) h k n = (if nI 0 < x then WP 17 G S f 98 ls st h k n else WP 17 G S f 96 ls st h k n) := by rw [wp_s dd_17_93 rfl hs]; exact br_ite (c := nI 0 < x)
theorem dd_17_96 : decode (mB 17) 96 = .ok (.iconst 0, 1) := by decide +kernel
theorem u_17_96 {G : aG} {S : Nat → Bool} {f : Nat} {st : List Value} {ls : aL} {h : aH} {k n : Nat} (hs : S 96 = false) : WP 17 G S (f + 1) 96 ls st h k n = (WP 17 G S f 97 ls (.int (nI 0) :: st) h k n) := by rw [wp_s dd_17_96 rfl hs]; rfl
theorem dd_17_97 : decode (mB 17) 97 = .ok (.ireturn, 1) := by decide +kernel
theorem u_17_97 {G : aG} {S : Nat → Bool} {f : Nat} {ls : aL} {h : aH} {k n : Nat} {x : Int32} (hs : S 97 = false) : WP 17 G S (f + 1) 97 ls [.int x] h k n = (cond (x == nI 0 || x == nI 1) (RET G (some (.int x)) h k n) False) := by rw [wp_s dd_17_97 rfl hs]; rfl
theorem dd_17_98 : decode (mB 17) 98 = .ok (.iload_n 3, 1) := by decide +kernel
theorem u_17_98 {G : aG} {S : Nat → Bool} {f : Nat} {st : List Value} {ls : aL} {h : aH} {k n : Nat} (hs : S 98 = false) : WP 17 G S (f + 1) 98 ls st h k n = (oI (lget ls 3) (WP 17 G S f) 99 ls st h k n) := by rw [wp_s dd_17_98 rfl hs]; rfl
theorem dd_17_99 : decode (mB 17) 99 = .ok (.bipush 11, 2) := by decide +kernel
theorem u_17_99 {G : aG} {S : Nat → Bool} {f : Nat} {st : List Value} {ls : aL} {h : aH} {k n : Nat} (hs : S 99 = false) : WP 17 G S (f + 1) 99 ls st h k n = (WP 17 G S f 101 ls (.int (nI 11) :: st) h k n) := by rw [wp_s dd_17_99 rfl hs]; rfl
theorem dd_17_101 : decode (mB 17) 101 = .ok (.if_icmp .ne 45, 3) := by decide +kernel
theorem u_17_101 {G : aG} {S : Nat → Bool} {f : Nat} {st : List Value} {ls : aL} {h : aH} {k n : Nat} {x y : Int32} (hs : S 101 = false) : WP 17 G S (f + 1) 101 ls (.int y :: .int x :: st) h k n = (if x = y then WP 17 G S f 104 ls st h k n else WP 17 G S f 146 ls st h k n) := by rw [wp_s dd_17_101 rfl hs]; exact br_iten (c := x = y)
theorem dd_17_104 : decode (mB 17) 104 = .ok (.aload_n 0, 1) := by decide +kernel
theorem u_17_104 {G : aG} {S : Nat → Bool} {f : Nat} {st : List Value} {ls : aL} {h : aH} {k n : Nat} (hs : S 104 = false) : WP 17 G S (f + 1) 104 ls st h k n = (oA (lget ls 0) (WP 17 G S f) 105 ls st h k n) := by rw [wp_s dd_17_104 rfl hs]; rfl
theorem dd_17_105 : decode (mB 17) 105 = .ok (.iload 5, 2) := by decide +kernel
theorem u_17_105 {G : aG} {S : Nat → Bool} {f : Nat} {st : List Value} {ls : aL} {h : aH} {k n : Nat} (hs : S 105 = false) : WP 17 G S (f + 1) 105 ls st h k n = (oI (lget ls 5) (WP 17 G S f) 107 ls st h k n) := by rw [wp_s dd_17_105 rfl hs]; rfl
theorem dd_17_107 : decode (mB 17) 107 = .ok (.iload_n 2, 1) := by decide +kernel
theorem u_17_107 {G : aG} {S : Nat → Bool} {f : Nat} {st : List Value} {ls : aL} {h : aH} {k n : Nat} (hs : S 107 = false) : WP 17 G S (f + 1) 107 ls st h k n = (oI (lget ls 2) (WP 17 G S f) 108 ls st h k n) := by rw [wp_s dd_17_107 rfl hs]; rfl
theorem dd_17_108 : decode (mB 17) 108 = .ok (.aload_n 0, 1) := by decide +kernel
theorem u_17_108 {G : aG} {S : Nat → Bool} {f : Nat} {st : List Value} {ls : aL} {h : aH} {k n : Nat} (hs : S 108 = false) : WP 17 G S (f + 1) 108 ls st h k n = (oA (lget ls 0) (WP 17 G S f) 109 ls st h k n) := by rw [wp_s dd_17_108 rfl hs]; rfl
theorem dd_17_109 : decode (mB 17) 109 = .ok (.getfield 21, 3) := by decide +kernel
theorem u_17_109 {G : aG} {S : Nat → Bool} {f : Nat} {st : List Value} {ls : aL} {h : aH} {k n : Nat} {a : Nat} (hs : S 109 = false) : WP 17 G S (f + 1) 109 ls (.ref a :: st) h k n = (oV (fget h a 5 3) (WP 17 G S f) 112 ls st h k n) := by rw [wp_s dd_17_109 rfl hs]; rfl
theorem dd_17_112 : decode (mB 17) 112 = .ok (.iload 4, 2) := by decide +kernel
theorem u_17_112 {G : aG} {S : Nat → Bool} {f : Nat} {st : List Value} {ls : aL} {h : aH} {k n : Nat} (hs : S 112 = false) : WP 17 G S (f + 1) 112 ls st h k n = (oI (lget ls 4) (WP 17 G S f) 114 ls st h k n) := by rw [wp_s dd_17_112 rfl hs]; rfl
theorem dd_17_114 : decode (mB 17) 114 = .ok (.iaload, 1) := by decide +kernel
theorem u_17_114 {G : aG} {S : Nat → Bool} {f : Nat} {st : List Value} {ls : aL} {h : aH} {k n : Nat} {i : Int32} {a : Nat} (hs : S 114 = false) : WP 17 G S (f + 1) 114 ls (.int i :: .ref a :: st) h k n = (oIld (iget h a 1) i (WP 17 G S f) 115 ls st h k n) := by rw [wp_s dd_17_114 rfl hs]; rfl
theorem dd_17_115 : decode (mB 17) 115 = .ok (.idiv, 1) := by decide +kernel
theorem u_17_115 {G : aG} {S : Nat → Bool} {f : Nat} {st : List Value} {ls : aL} {h : aH} {k n : Nat} {x y : Int32} (hs : S 115 = false) : WP 17 G S (f + 1) 115 ls (.int y :: .int x :: st) h k n = (¬ y = 0 ∧ WP 17 G S f 116 ls (.int (x / y) :: st) h k n) := by rw [wp_s dd_17_115 rfl hs]; rfl
theorem dd_17_116 : decode (mB 17) 116 = .ok (.invokevirtual 59, 3) := by decide +kernel
theorem u_17_116 {G : aG} {S : Nat → Bool} {f : Nat} {st : List Value} {ls : aL} {h : aH} {k n : Nat} {v1 v2 : Value} {b : Nat} (hs : S 116 = false) : WP 17 G S (f + 1) 116 ls (v2 :: v1 :: .ref b :: st) h k n = (rcv (hget h b) 5 ∧ CAL G (WP 17 G S f) 17 [.ref b, v1, v2] 119 ls st h k n) := by rw [wp_s dd_17_116 rfl hs]; rfl
theorem dd_17_119 : decode (mB 17) 119 = .ok (.ifCond .eq 25, 3) := by decide +kernel
theorem u_17_119 {G : aG} {S : Nat → Bool} {f : Nat} {st : List Value} {ls : aL} {h : aH} {k n : Nat} {x : Int32} (hs : S 119 = false) : WP 17 G S (f + 1) 119 ls (.int x :: st) h k n = (if x = nI 0 then WP 17 G S f 144 ls st h k n else WP 17 G S f 122 ls st h k n) := by rw [wp_s dd_17_119 rfl hs]; exact br_ite (c := x = nI 0)
theorem dd_17_122 : decode (mB 17) 122 = .ok (.aload_n 0, 1) := by decide +kernel
theorem u_17_122 {G : aG} {S : Nat → Bool} {f : Nat} {st : List Value} {ls : aL} {h : aH} {k n : Nat} (hs : S 122 = false) : WP 17 G S (f + 1) 122 ls st h k n = (oA (lget ls 0) (WP 17 G S f) 123 ls st h k n) := by rw [wp_s dd_17_122 rfl hs]; rfl
theorem dd_17_123 : decode (mB 17) 123 = .ok (.iload 4, 2) := by decide +kernel
theorem u_17_123 {G : aG} {S : Nat → Bool} {f : Nat} {st : List Value} {ls : aL} {h : aH} {k n : Nat} (hs : S 123 = false) : WP 17 G S (f + 1) 123 ls st h k n = (oI (lget ls 4) (WP 17 G S f) 125 ls st h k n) := by rw [wp_s dd_17_123 rfl hs]; rfl
theorem dd_17_125 : decode (mB 17) 125 = .ok (.iload_n 2, 1) := by decide +kernel
theorem u_17_125 {G : aG} {S : Nat → Bool} {f : Nat} {st : List Value} {ls : aL} {h : aH} {k n : Nat} (hs : S 125 = false) : WP 17 G S (f + 1) 125 ls st h k n = (oI (lget ls 2) (WP 17 G S f) 126 ls st h k n) := by rw [wp_s dd_17_125 rfl hs]; rfl
theorem dd_17_126 : decode (mB 17) 126 = .ok (.aload_n 0, 1) := by decide +kernel
theorem u_17_126 {G : aG} {S : Nat → Bool} {f : Nat} {st : List Value} {ls : aL} {h : aH} {k n : Nat} (hs : S 126 = false) : WP 17 G S (f + 1) 126 ls st h k n = (oA (lget ls 0) (WP 17 G S f) 127 ls st h k n) := by rw [wp_s dd_17_126 rfl hs]; rfl
theorem dd_17_127 : decode (mB 17) 127 = .ok (.getfield 21, 3) := by decide +kernel
theorem u_17_127 {G : aG} {S : Nat → Bool} {f : Nat} {st : List Value} {ls : aL} {h : aH} {k n : Nat} {a : Nat} (hs : S 127 = false) : WP 17 G S (f + 1) 127 ls (.ref a :: st) h k n = (oV (fget h a 5 3) (WP 17 G S f) 130 ls st h k n) := by rw [wp_s dd_17_127 rfl hs]; rfl
theorem dd_17_130 : decode (mB 17) 130 = .ok (.iload 4, 2) := by decide +kernel
theorem u_17_130 {G : aG} {S : Nat → Bool} {f : Nat} {st : List Value} {ls : aL} {h : aH} {k n : Nat} (hs : S 130 = false) : WP 17 G S (f + 1) 130 ls st h k n = (oI (lget ls 4) (WP 17 G S f) 132 ls st h k n) := by rw [wp_s dd_17_130 rfl hs]; rfl
theorem dd_17_132 : decode (mB 17) 132 = .ok (.iaload, 1) := by decide +kernel
theorem u_17_132 {G : aG} {S : Nat → Bool} {f : Nat} {st : List Value} {ls : aL} {h : aH} {k n : Nat} {i : Int32} {a : Nat} (hs : S 132 = false) : WP 17 G S (f + 1) 132 ls (.int i :: .ref a :: st) h k n = (oIld (iget h a 1) i (WP 17 G S f) 133 ls st h k n) := by rw [wp_s dd_17_132 rfl hs]; rfl
theorem dd_17_133 : decode (mB 17) 133 = .ok (.irem, 1) := by decide +kernel
theorem u_17_133 {G : aG} {S : Nat → Bool} {f : Nat} {st : List Value} {ls : aL} {h : aH} {k n : Nat} {x y : Int32} (hs : S 133 = false) : WP 17 G S (f + 1) 133 ls (.int y :: .int x :: st) h k n = (¬ y = 0 ∧ WP 17 G S f 134 ls (.int (x - x / y * y) :: st) h k n) := by rw [wp_s dd_17_133 rfl hs]; rfl
theorem dd_17_134 : decode (mB 17) 134 = .ok (.invokevirtual 59, 3) := by decide +kernel
theorem u_17_134 {G : aG} {S : Nat → Bool} {f : Nat} {st : List Value} {ls : aL} {h : aH} {k n : Nat} {v1 v2 : Value} {b : Nat} (hs : S 134 = false) : WP 17 G S (f + 1) 134 ls (v2 :: v1 :: .ref b :: st) h k n = (rcv (hget h b) 5 ∧ CAL G (WP 17 G S f) 17 [.ref b, v1, v2] 137 ls st h k n) := by rw [wp_s dd_17_134 rfl hs]; rfl
theorem dd_17_137 : decode (mB 17) 137 = .ok (.ifCond .eq 7, 3) := by decide +kernel
theorem u_17_137 {G : aG} {S : Nat → Bool} {f : Nat} {st : List Value} {ls : aL} {h : aH} {k n : Nat} {x : Int32} (hs : S 137 = false) : WP 17 G S (f + 1) 137 ls (.int x :: st) h k n = (if x = nI 0 then WP 17 G S f 144 ls st h k n else WP 17 G S f 140 ls st h k n) := by rw [wp_s dd_17_137 rfl hs]; exact br_ite (c := x = nI 0)
theorem dd_17_140 : decode (mB 17) 140 = .ok (.iconst 1, 1) := by decide +kernel
theorem u_17_140 {G : aG} {S : Nat → Bool} {f : Nat} {st : List Value} {ls : aL} {h : aH} {k n : Nat} (hs : S 140 = false) : WP 17 G S (f + 1) 140 ls st h k n = (WP 17 G S f 141 ls (.int (nI 1) :: st) h k n) := by rw [wp_s dd_17_140 rfl hs]; rfl
theorem dd_17_141 : decode (mB 17) 141 = .ok (.goto 4, 3) := by decide +kernel
theorem u_17_141 {G : aG} {S : Nat → Bool} {f : Nat} {st : List Value} {ls : aL} {h : aH} {k n : Nat} (hs : S 141 = false) : WP 17 G S (f + 1) 141 ls st h k n = (WP 17 G S f 145 ls st h k n) := by rw [wp_s dd_17_141 rfl hs]; rfl
theorem dd_17_144 : decode (mB 17) 144 = .ok (.iconst 0, 1) := by decide +kernel
theorem u_17_144 {G : aG} {S : Nat → Bool} {f : Nat} {st : List Value} {ls : aL} {h : aH} {k n : Nat} (hs : S 144 = false) : WP 17 G S (f + 1) 144 ls st h k n = (WP 17 G S f 145 ls (.int (nI 0) :: st) h k n) := by rw [wp_s dd_17_144 rfl hs]; rfl
theorem dd_17_145 : decode (mB 17) 145 = .ok (.ireturn, 1) := by decide +kernel
theorem u_17_145 {G : aG} {S : Nat → Bool} {f : Nat} {ls : aL} {h : aH} {k n : Nat} {x : Int32} (hs : S 145 = false) : WP 17 G S (f + 1) 145 ls [.int x] h k n = (cond (x == nI 0 || x == nI 1) (RET G (some (.int x)) h k n) False) := by rw [wp_s dd_17_145 rfl hs]; rfl
theorem dd_17_146 : decode (mB 17) 146 = .ok (.iload_n 2, 1) := by decide +kernel
theorem u_17_146 {G : aG} {S : Nat → Bool} {f : Nat} {st : List Value} {ls : aL} {h : aH} {k n : Nat} (hs : S 146 = false) : WP 17 G S (f + 1) 146 ls st h k n = (oI (lget ls 2) (WP 17 G S f) 147 ls st h k n) := by rw [wp_s dd_17_146 rfl hs]; rfl
theorem dd_17_147 : decode (mB 17) 147 = .ok (.aload_n 0, 1) := by decide +kernel
theorem u_17_147 {G : aG} {S : Nat → Bool} {f : Nat} {st : List Value} {ls : aL} {h : aH} {k n : Nat} (hs : S 147 = false) : WP 17 G S (f + 1) 147 ls st h k n = (oA (lget ls 0) (WP 17 G S f) 148 ls st h k n) := by rw [wp_s dd_17_147 rfl hs]; rfl
theorem dd_17_148 : decode (mB 17) 148 = .ok (.getfield 21, 3) := by decide +kernel
theorem u_17_148 {G : aG} {S : Nat → Bool} {f : Nat} {st : List Value} {ls : aL} {h : aH} {k n : Nat} {a : Nat} (hs : S 148 = false) : WP 17 G S (f + 1) 148 ls (.ref a :: st) h k n = (oV (fget h a 5 3) (WP 17 G S f) 151 ls st h k n) := by rw [wp_s dd_17_148 rfl hs]; rfl
theorem dd_17_151 : decode (mB 17) 151 = .ok (.iload 5, 2) := by decide +kernel
theorem u_17_151 {G : aG} {S : Nat → Bool} {f : Nat} {st : List Value} {ls : aL} {h : aH} {k n : Nat} (hs : S 151 = false) : WP 17 G S (f + 1) 151 ls st h k n = (oI (lget ls 5) (WP 17 G S f) 153 ls st h k n) := by rw [wp_s dd_17_151 rfl hs]; rfl
theorem dd_17_153 : decode (mB 17) 153 = .ok (.iaload, 1) := by decide +kernel
theorem u_17_153 {G : aG} {S : Nat → Bool} {f : Nat} {st : List Value} {ls : aL} {h : aH} {k n : Nat} {i : Int32} {a : Nat} (hs : S 153 = false) : WP 17 G S (f + 1) 153 ls (.int i :: .ref a :: st) h k n = (oIld (iget h a 1) i (WP 17 G S f) 154 ls st h k n) := by rw [wp_s dd_17_153 rfl hs]; rfl
theorem dd_17_154 : decode (mB 17) 154 = .ok (.if_icmp .lt 21, 3) := by decide +kernel
theorem u_17_154 {G : aG} {S : Nat → Bool} {f : Nat} {st : List Value} {ls : aL} {h : aH} {k n : Nat} {x y : Int32} (hs : S 154 = false) : WP 17 G S (f + 1) 154 ls (.int y :: .int x :: st) h k n = (if x < y then WP 17 G S f 175 ls st h k n else WP 17 G S f 157 ls st h k n) := by rw [wp_s dd_17_154 rfl hs]; exact br_ite (c := x < y)
theorem dd_17_157 : decode (mB 17) 157 = .ok (.aload_n 0, 1) := by decide +kernel
theorem u_17_157 {G : aG} {S : Nat → Bool} {f : Nat} {st : List Value} {ls : aL} {h : aH} {k n : Nat} (hs : S 157 = false) : WP 17 G S (f + 1) 157 ls st h k n = (oA (lget ls 0) (WP 17 G S f) 158 ls st h k n) := by rw [wp_s dd_17_157 rfl hs]; rfl
theorem dd_17_158 : decode (mB 17) 158 = .ok (.iload 4, 2) := by decide +kernel
theorem u_17_158 {G : aG} {S : Nat → Bool} {f : Nat} {st : List Value} {ls : aL} {h : aH} {k n : Nat} (hs : S 158 = false) : WP 17 G S (f + 1) 158 ls st h k n = (oI (lget ls 4) (WP 17 G S f) 160 ls st h k n) := by rw [wp_s dd_17_158 rfl hs]; rfl
theorem dd_17_160 : decode (mB 17) 160 = .ok (.iload_n 2, 1) := by decide +kernel
theorem u_17_160 {G : aG} {S : Nat → Bool} {f : Nat} {st : List Value} {ls : aL} {h : aH} {k n : Nat} (hs : S 160 = false) : WP 17 G S (f + 1) 160 ls st h k n = (oI (lget ls 2) (WP 17 G S f) 161 ls st h k n) := by rw [wp_s dd_17_160 rfl hs]; rfl
theorem dd_17_161 : decode (mB 17) 161 = .ok (.aload_n 0, 1) := by decide +kernel
theorem u_17_161 {G : aG} {S : Nat → Bool} {f : Nat} {st : List Value} {ls : aL} {h : aH} {k n : Nat} (hs : S 161 = false) : WP 17 G S (f + 1) 161 ls st h k n = (oA (lget ls 0) (WP 17 G S f) 162 ls st h k n) := by rw [wp_s dd_17_161 rfl hs]; rfl
theorem dd_17_162 : decode (mB 17) 162 = .ok (.getfield 21, 3) := by decide +kernel
theorem u_17_162 {G : aG} {S : Nat → Bool} {f : Nat} {st : List Value} {ls : aL} {h : aH} {k n : Nat} {a : Nat} (hs : S 162 = false) : WP 17 G S (f + 1) 162 ls (.ref a :: st) h k n = (oV (fget h a 5 3) (WP 17 G S f) 165 ls st h k n) := by rw [wp_s dd_17_162 rfl hs]; rfl
theorem dd_17_165 : decode (mB 17) 165 = .ok (.iload 5, 2) := by decide +kernel
theorem u_17_165 {G : aG} {S : Nat → Bool} {f : Nat} {st : List Value} {ls : aL} {h : aH} {k n : Nat} (hs : S 165 = false) : WP 17 G S (f + 1) 165 ls st h k n = (oI (lget ls 5) (WP 17 G S f) 167 ls st h k n) := by rw [wp_s dd_17_165 rfl hs]; rfl
theorem dd_17_167 : decode (mB 17) 167 = .ok (.iaload, 1) := by decide +kernel
theorem u_17_167 {G : aG} {S : Nat → Bool} {f : Nat} {st : List Value} {ls : aL} {h : aH} {k n : Nat} {i : Int32} {a : Nat} (hs : S 167 = false) : WP 17 G S (f + 1) 167 ls (.int i :: .ref a :: st) h k n = (oIld (iget h a 1) i (WP 17 G S f) 168 ls st h k n) := by rw [wp_s dd_17_167 rfl hs]; rfl
theorem dd_17_168 : decode (mB 17) 168 = .ok (.isub, 1) := by decide +kernel
theorem u_17_168 {G : aG} {S : Nat → Bool} {f : Nat} {st : List Value} {ls : aL} {h : aH} {k n : Nat} {x y : Int32} (hs : S 168 = false) : WP 17 G S (f + 1) 168 ls (.int y :: .int x :: st) h k n = (WP 17 G S f 169 ls (.int (x - y) :: st) h k n) := by rw [wp_s dd_17_168 rfl hs]; rfl
theorem dd_17_169 : decode (mB 17) 169 = .ok (.iconst 1, 1) := by decide +kernel
theorem u_17_169 {G : aG} {S : Nat → Bool} {f : Nat} {st : List Value} {ls : aL} {h : aH} {k n : Nat} (hs : S 169 = false) : WP 17 G S (f + 1) 169 ls st h k n = (WP 17 G S f 170 ls (.int (nI 1) :: st) h k n) := by rw [wp_s dd_17_169 rfl hs]; rfl
theorem dd_17_170 : decode (mB 17) 170 = .ok (.iadd, 1) := by decide +kernel
theorem u_17_170 {G : aG} {S : Nat → Bool} {f : Nat} {st : List Value} {ls : aL} {h : aH} {k n : Nat} {x y : Int32} (hs : S 170 = false) : WP 17 G S (f + 1) 170 ls (.int y :: .int x :: st) h k n = (WP 17 G S f 171 ls (.int (x + y) :: st) h k n) := by rw [wp_s dd_17_170 rfl hs]; rfl
theorem dd_17_171 : decode (mB 17) 171 = .ok (.invokevirtual 59, 3) := by decide +kernel
theorem u_17_171 {G : aG} {S : Nat → Bool} {f : Nat} {st : List Value} {ls : aL} {h : aH} {k n : Nat} {v1 v2 : Value} {b : Nat} (hs : S 171 = false) : WP 17 G S (f + 1) 171 ls (v2 :: v1 :: .ref b :: st) h k n = (rcv (hget h b) 5 ∧ CAL G (WP 17 G S f) 17 [.ref b, v1, v2] 174 ls st h k n) := by rw [wp_s dd_17_171 rfl hs]; rfl
theorem dd_17_174 : decode (mB 17) 174 = .ok (.ireturn, 1) := by decide +kernel
theorem u_17_174 {G : aG} {S : Nat → Bool} {f : Nat} {ls : aL} {h : aH} {k n : Nat} {x : Int32} (hs : S 174 = false) : WP 17 G S (f + 1) 174 ls [.int x] h k n = (cond (x == nI 0 || x == nI 1) (RET G (some (.int x)) h k n) False) := by rw [wp_s dd_17_174 rfl hs]; rfl
theorem dd_17_175 : decode (mB 17) 175 = .ok (.iload_n 3, 1) := by decide +kernel
theorem u_17_175 {G : aG} {S : Nat → Bool} {f : Nat} {st : List Value} {ls : aL} {h : aH} {k n : Nat} (hs : S 175 = false) : WP 17 G S (f + 1) 175 ls st h k n = (oI (lget ls 3) (WP 17 G S f) 176 ls st h k n) := by rw [wp_s dd_17_175 rfl hs]; rfl
theorem dd_17_176 : decode (mB 17) 176 = .ok (.bipush 12, 2) := by decide +kernel
theorem u_17_176 {G : aG} {S : Nat → Bool} {f : Nat} {st : List Value} {ls : aL} {h : aH} {k n : Nat} (hs : S 176 = false) : WP 17 G S (f + 1) 176 ls st h k n = (WP 17 G S f 178 ls (.int (nI 12) :: st) h k n) := by rw [wp_s dd_17_176 rfl hs]; rfl
theorem dd_17_178 : decode (mB 17) 178 = .ok (.if_icmp .ne 29, 3) := by decide +kernel
theorem u_17_178 {G : aG} {S : Nat → Bool} {f : Nat} {st : List Value} {ls : aL} {h : aH} {k n : Nat} {x y : Int32} (hs : S 178 = false) : WP 17 G S (f + 1) 178 ls (.int y :: .int x :: st) h k n = (if x = y then WP 17 G S f 181 ls st h k n else WP 17 G S f 207 ls st h k n) := by rw [wp_s dd_17_178 rfl hs]; exact br_iten (c := x = y)
theorem dd_17_181 : decode (mB 17) 181 = .ok (.aload_n 0, 1) := by decide +kernel
theorem u_17_181 {G : aG} {S : Nat → Bool} {f : Nat} {st : List Value} {ls : aL} {h : aH} {k n : Nat} (hs : S 181 = false) : WP 17 G S (f + 1) 181 ls st h k n = (oA (lget ls 0) (WP 17 G S f) 182 ls st h k n) := by rw [wp_s dd_17_181 rfl hs]; rfl
theorem dd_17_182 : decode (mB 17) 182 = .ok (.getfield 24, 3) := by decide +kernel
theorem u_17_182 {G : aG} {S : Nat → Bool} {f : Nat} {st : List Value} {ls : aL} {h : aH} {k n : Nat} {a : Nat} (hs : S 182 = false) : WP 17 G S (f + 1) 182 ls (.ref a :: st) h k n = (oV (fget h a 5 4) (WP 17 G S f) 185 ls st h k n) := by rw [wp_s dd_17_182 rfl hs]; rfl
theorem dd_17_185 : decode (mB 17) 185 = .ok (.iload 4, 2) := by decide +kernel
theorem u_17_185 {G : aG} {S : Nat → Bool} {f : Nat} {st : List Value} {ls : aL} {h : aH} {k n : Nat} (hs : S 185 = false) : WP 17 G S (f + 1) 185 ls st h k n = (oI (lget ls 4) (WP 17 G S f) 187 ls st h k n) := by rw [wp_s dd_17_185 rfl hs]; rfl
theorem dd_17_187 : decode (mB 17) 187 = .ok (.iaload, 1) := by decide +kernel
theorem u_17_187 {G : aG} {S : Nat → Bool} {f : Nat} {st : List Value} {ls : aL} {h : aH} {k n : Nat} {i : Int32} {a : Nat} (hs : S 187 = false) : WP 17 G S (f + 1) 187 ls (.int i :: .ref a :: st) h k n = (oIld (iget h a 1) i (WP 17 G S f) 188 ls st h k n) := by rw [wp_s dd_17_187 rfl hs]; rfl
theorem dd_17_188 : decode (mB 17) 188 = .ok (.ifCond .ne 17, 3) := by decide +kernel
theorem u_17_188 {G : aG} {S : Nat → Bool} {f : Nat} {st : List Value} {ls : aL} {h : aH} {k n : Nat} {x : Int32} (hs : S 188 = false) : WP 17 G S (f + 1) 188 ls (.int x :: st) h k n = (if x = nI 0 then WP 17 G S f 191 ls st h k n else WP 17 G S f 205 ls st h k n) := by rw [wp_s dd_17_188 rfl hs]; exact br_iten (c := x = nI 0)
theorem dd_17_191 : decode (mB 17) 191 = .ok (.aload_n 0, 1) := by decide +kernel
theorem u_17_191 {G : aG} {S : Nat → Bool} {f : Nat} {st : List Value} {ls : aL} {h : aH} {k n : Nat} (hs : S 191 = false) : WP 17 G S (f + 1) 191 ls st h k n = (oA (lget ls 0) (WP 17 G S f) 192 ls st h k n) := by rw [wp_s dd_17_191 rfl hs]; rfl
theorem dd_17_192 : decode (mB 17) 192 = .ok (.iload 5, 2) := by decide +kernel
theorem u_17_192 {G : aG} {S : Nat → Bool} {f : Nat} {st : List Value} {ls : aL} {h : aH} {k n : Nat} (hs : S 192 = false) : WP 17 G S (f + 1) 192 ls st h k n = (oI (lget ls 5) (WP 17 G S f) 194 ls st h k n) := by rw [wp_s dd_17_192 rfl hs]; rfl
theorem dd_17_194 : decode (mB 17) 194 = .ok (.iload_n 2, 1) := by decide +kernel
theorem u_17_194 {G : aG} {S : Nat → Bool} {f : Nat} {st : List Value} {ls : aL} {h : aH} {k n : Nat} (hs : S 194 = false) : WP 17 G S (f + 1) 194 ls st h k n = (oI (lget ls 2) (WP 17 G S f) 195 ls st h k n) := by rw [wp_s dd_17_194 rfl hs]; rfl
theorem dd_17_195 : decode (mB 17) 195 = .ok (.invokevirtual 59, 3) := by decide +kernel
theorem u_17_195 {G : aG} {S : Nat → Bool} {f : Nat} {st : List Value} {ls : aL} {h : aH} {k n : Nat} {v1 v2 : Value} {b : Nat} (hs : S 195 = false) : WP 17 G S (f + 1) 195 ls (v2 :: v1 :: .ref b :: st) h k n = (rcv (hget h b) 5 ∧ CAL G (WP 17 G S f) 17 [.ref b, v1, v2] 198 ls st h k n) := by rw [wp_s dd_17_195 rfl hs]; rfl
theorem dd_17_198 : decode (mB 17) 198 = .ok (.ifCond .eq 7, 3) := by decide +kernel
theorem u_17_198 {G : aG} {S : Nat → Bool} {f : Nat} {st : List Value} {ls : aL} {h : aH} {k n : Nat} {x : Int32} (hs : S 198 = false) : WP 17 G S (f + 1) 198 ls (.int x :: st) h k n = (if x = nI 0 then WP 17 G S f 205 ls st h k n else WP 17 G S f 201 ls st h k n) := by rw [wp_s dd_17_198 rfl hs]; exact br_ite (c := x = nI 0)
theorem dd_17_201 : decode (mB 17) 201 = .ok (.iconst 1, 1) := by decide +kernel
theorem u_17_201 {G : aG} {S : Nat → Bool} {f : Nat} {st : List Value} {ls : aL} {h : aH} {k n : Nat} (hs : S 201 = false) : WP 17 G S (f + 1) 201 ls st h k n = (WP 17 G S f 202 ls (.int (nI 1) :: st) h k n) := by rw [wp_s dd_17_201 rfl hs]; rfl
theorem dd_17_202 : decode (mB 17) 202 = .ok (.goto 4, 3) := by decide +kernel
theorem u_17_202 {G : aG} {S : Nat → Bool} {f : Nat} {st : List Value} {ls : aL} {h : aH} {k n : Nat} (hs : S 202 = false) : WP 17 G S (f + 1) 202 ls st h k n = (WP 17 G S f 206 ls st h k n) := by rw [wp_s dd_17_202 rfl hs]; rfl
theorem dd_17_205 : decode (mB 17) 205 = .ok (.iconst 0, 1) := by decide +kernel
theorem u_17_205 {G : aG} {S : Nat → Bool} {f : Nat} {st : List Value} {ls : aL} {h : aH} {k n : Nat} (hs : S 205 = false) : WP 17 G S (f + 1) 205 ls st h k n = (WP 17 G S f 206 ls (.int (nI 0) :: st) h k n) := by rw [wp_s dd_17_205 rfl hs]; rfl
theorem dd_17_206 : decode (mB 17) 206 = .ok (.ireturn, 1) := by decide +kernel
theorem u_17_206 {G : aG} {S : Nat → Bool} {f : Nat} {ls : aL} {h : aH} {k n : Nat} {x : Int32} (hs : S 206 = false) : WP 17 G S (f + 1) 206 ls [.int x] h k n = (cond (x == nI 0 || x == nI 1) (RET G (some (.int x)) h k n) False) := by rw [wp_s dd_17_206 rfl hs]; rfl
theorem dd_17_207 : decode (mB 17) 207 = .ok (.aload_n 0, 1) := by decide +kernel
theorem u_17_207 {G : aG} {S : Nat → Bool} {f : Nat} {st : List Value} {ls : aL} {h : aH} {k n : Nat} (hs : S 207 = false) : WP 17 G S (f + 1) 207 ls st h k n = (oA (lget ls 0) (WP 17 G S f) 208 ls st h k n) := by rw [wp_s dd_17_207 rfl hs]; rfl
theorem dd_17_208 : decode (mB 17) 208 = .ok (.iload 5, 2) := by decide +kernel
theorem u_17_208 {G : aG} {S : Nat → Bool} {f : Nat} {st : List Value} {ls : aL} {h : aH} {k n : Nat} (hs : S 208 = false) : WP 17 G S (f + 1) 208 ls st h k n = (oI (lget ls 5) (WP 17 G S f) 210 ls st h k n) := by rw [wp_s dd_17_208 rfl hs]; rfl
theorem dd_17_210 : decode (mB 17) 210 = .ok (.iload_n 2, 1) := by decide +kernel
theorem u_17_210 {G : aG} {S : Nat → Bool} {f : Nat} {st : List Value} {ls : aL} {h : aH} {k n : Nat} (hs : S 210 = false) : WP 17 G S (f + 1) 210 ls st h k n = (oI (lget ls 2) (WP 17 G S f) 211 ls st h k n) := by rw [wp_s dd_17_210 rfl hs]; rfl
theorem dd_17_211 : decode (mB 17) 211 = .ok (.invokevirtual 59, 3) := by decide +kernel
theorem u_17_211 {G : aG} {S : Nat → Bool} {f : Nat} {st : List Value} {ls : aL} {h : aH} {k n : Nat} {v1 v2 : Value} {b : Nat} (hs : S 211 = false) : WP 17 G S (f + 1) 211 ls (v2 :: v1 :: .ref b :: st) h k n = (rcv (hget h b) 5 ∧ CAL G (WP 17 G S f) 17 [.ref b, v1, v2] 214 ls st h k n) := by rw [wp_s dd_17_211 rfl hs]; rfl
theorem dd_17_214 : decode (mB 17) 214 = .ok (.ifCond .ne 17, 3) := by decide +kernel
theorem u_17_214 {G : aG} {S : Nat → Bool} {f : Nat} {st : List Value} {ls : aL} {h : aH} {k n : Nat} {x : Int32} (hs : S 214 = false) : WP 17 G S (f + 1) 214 ls (.int x :: st) h k n = (if x = nI 0 then WP 17 G S f 217 ls st h k n else WP 17 G S f 231 ls st h k n) := by rw [wp_s dd_17_214 rfl hs]; exact br_iten (c := x = nI 0)
theorem dd_17_217 : decode (mB 17) 217 = .ok (.iload_n 2, 1) := by decide +kernel
theorem u_17_217 {G : aG} {S : Nat → Bool} {f : Nat} {st : List Value} {ls : aL} {h : aH} {k n : Nat} (hs : S 217 = false) : WP 17 G S (f + 1) 217 ls st h k n = (oI (lget ls 2) (WP 17 G S f) 218 ls st h k n) := by rw [wp_s dd_17_217 rfl hs]; rfl
theorem dd_17_218 : decode (mB 17) 218 = .ok (.ifCond .ne 17, 3) := by decide +kernel
theorem u_17_218 {G : aG} {S : Nat → Bool} {f : Nat} {st : List Value} {ls : aL} {h : aH} {k n : Nat} {x : Int32} (hs : S 218 = false) : WP 17 G S (f + 1) 218 ls (.int x :: st) h k n = (if x = nI 0 then WP 17 G S f 221 ls st h k n else WP 17 G S f 235 ls st h k n) := by rw [wp_s dd_17_218 rfl hs]; exact br_iten (c := x = nI 0)
theorem dd_17_221 : decode (mB 17) 221 = .ok (.aload_n 0, 1) := by decide +kernel
theorem u_17_221 {G : aG} {S : Nat → Bool} {f : Nat} {st : List Value} {ls : aL} {h : aH} {k n : Nat} (hs : S 221 = false) : WP 17 G S (f + 1) 221 ls st h k n = (oA (lget ls 0) (WP 17 G S f) 222 ls st h k n) := by rw [wp_s dd_17_221 rfl hs]; rfl
theorem dd_17_222 : decode (mB 17) 222 = .ok (.getfield 24, 3) := by decide +kernel
theorem u_17_222 {G : aG} {S : Nat → Bool} {f : Nat} {st : List Value} {ls : aL} {h : aH} {k n : Nat} {a : Nat} (hs : S 222 = false) : WP 17 G S (f + 1) 222 ls (.ref a :: st) h k n = (oV (fget h a 5 4) (WP 17 G S f) 225 ls st h k n) := by rw [wp_s dd_17_222 rfl hs]; rfl
theorem dd_17_225 : decode (mB 17) 225 = .ok (.iload 4, 2) := by decide +kernel
theorem u_17_225 {G : aG} {S : Nat → Bool} {f : Nat} {st : List Value} {ls : aL} {h : aH} {k n : Nat} (hs : S 225 = false) : WP 17 G S (f + 1) 225 ls st h k n = (oI (lget ls 4) (WP 17 G S f) 227 ls st h k n) := by rw [wp_s dd_17_225 rfl hs]; rfl
theorem dd_17_227 : decode (mB 17) 227 = .ok (.iaload, 1) := by decide +kernel
theorem u_17_227 {G : aG} {S : Nat → Bool} {f : Nat} {st : List Value} {ls : aL} {h : aH} {k n : Nat} {i : Int32} {a : Nat} (hs : S 227 = false) : WP 17 G S (f + 1) 227 ls (.int i :: .ref a :: st) h k n = (oIld (iget h a 1) i (WP 17 G S f) 228 ls st h k n) := by rw [wp_s dd_17_227 rfl hs]; rfl
theorem dd_17_228 : decode (mB 17) 228 = .ok (.ifCond .ne 7, 3) := by decide +kernel
theorem u_17_228 {G : aG} {S : Nat → Bool} {f : Nat} {st : List Value} {ls : aL} {h : aH} {k n : Nat} {x : Int32} (hs : S 228 = false) : WP 17 G S (f + 1) 228 ls (.int x :: st) h k n = (if x = nI 0 then WP 17 G S f 231 ls st h k n else WP 17 G S f 235 ls st h k n) := by rw [wp_s dd_17_228 rfl hs]; exact br_iten (c := x = nI 0)
theorem dd_17_231 : decode (mB 17) 231 = .ok (.iconst 1, 1) := by decide +kernel
theorem u_17_231 {G : aG} {S : Nat → Bool} {f : Nat} {st : List Value} {ls : aL} {h : aH} {k n : Nat} (hs : S 231 = false) : WP 17 G S (f + 1) 231 ls st h k n = (WP 17 G S f 232 ls (.int (nI 1) :: st) h k n) := by rw [wp_s dd_17_231 rfl hs]; rfl
theorem dd_17_232 : decode (mB 17) 232 = .ok (.goto 4, 3) := by decide +kernel
theorem u_17_232 {G : aG} {S : Nat → Bool} {f : Nat} {st : List Value} {ls : aL} {h : aH} {k n : Nat} (hs : S 232 = false) : WP 17 G S (f + 1) 232 ls st h k n = (WP 17 G S f 236 ls st h k n) := by rw [wp_s dd_17_232 rfl hs]; rfl
theorem dd_17_235 : decode (mB 17) 235 = .ok (.iconst 0, 1) := by decide +kernel
theorem u_17_235 {G : aG} {S : Nat → Bool} {f : Nat} {st : List Value} {ls : aL} {h : aH} {k n : Nat} (hs : S 235 = false) : WP 17 G S (f + 1) 235 ls st h k n = (WP 17 G S f 236 ls (.int (nI 0) :: st) h k n) := by rw [wp_s dd_17_235 rfl hs]; rfl
theorem dd_17_236 : decode (mB 17) 236 = .ok (.ireturn, 1) := by decide +kernel
theorem u_17_236 {G : aG} {S : Nat → Bool} {f : Nat} {ls : aL} {h : aH} {k n : Nat} {x : Int32} (hs : S 236 = false) : WP 17 G S (f + 1) 236 ls [.int x] h k n = (cond (x == nI 0 || x == nI 1) (RET G (some (.int x)) h k n) False) := by rw [wp_s dd_17_236 rfl hs]; rfl
theorem dd_18_0 : decode (mB 18) 0 = .ok (.aload_n 0, 1) := by decide +kernel
theorem u_18_0 {G : aG} {S : Nat → Bool} {f : Nat} {st : List Value} {ls : aL} {h : aH} {k n : Nat} (hs : S 0 = false) : WP 18 G S (f + 1) 0 ls st h k n = (oA (lget ls 0) (WP 18 G S f) 1 ls st h k n) := by rw [wp_s dd_18_0 rfl hs]; rfl
theorem dd_18_1 : decode (mB 18) 1 = .ok (.iconst 0, 1) := by decide +kernel
theorem u_18_1 {G : aG} {S : Nat → Bool} {f : Nat} {st : List Value} {ls : aL} {h : aH} {k n : Nat} (hs : S 1 = false) : WP 18 G S (f + 1) 1 ls st h k n = (WP 18 G S f 2 ls (.int (nI 0) :: st) h k n) := by rw [wp_s dd_18_1 rfl hs]; rfl
theorem dd_18_2 : decode (mB 18) 2 = .ok (.putfield 63, 3) := by decide +kernel
theorem u_18_2 {G : aG} {S : Nat → Bool} {f : Nat} {st : List Value} {ls : aL} {h : aH} {k n : Nat} {a : Nat} {x : Int32} (hs : S 2 = false) : WP 18 G S (f + 1) 2 ls (.int x :: .ref a :: st) h k n = (oH (fput h a 5 12 (.int x)) (WP 18 G S f) 5 ls st k n) := by rw [wp_s dd_18_2 rfl hs]; rfl
theorem dd_18_5 : decode (mB 18) 5 = .ok (.iconst 0, 1) := by decide +kernel
theorem u_18_5 {G : aG} {S : Nat → Bool} {f : Nat} {st : List Value} {ls : aL} {h : aH} {k n : Nat} (hs : S 5 = false) : WP 18 G S (f + 1) 5 ls st h k n = (WP 18 G S f 6 ls (.int (nI 0) :: st) h k n) := by rw [wp_s dd_18_5 rfl hs]; rfl
theorem dd_18_6 : decode (mB 18) 6 = .ok (.istore_n 1, 1) := by decide +kernel
theorem u_18_6 {G : aG} {S : Nat → Bool} {f : Nat} {st : List Value} {ls : aL} {h : aH} {k n : Nat} {x : Int32} (hs : S 6 = false) : WP 18 G S (f + 1) 6 ls (.int x :: st) h k n = (WP 18 G S f 7 (lput1 ls 1 (.int x)) st h k n) := by rw [wp_s dd_18_6 rfl hs]; rfl
theorem dd_18_7 : decode (mB 18) 7 = .ok (.iload_n 1, 1) := by decide +kernel
theorem u_18_7 {G : aG} {S : Nat → Bool} {f : Nat} {st : List Value} {ls : aL} {h : aH} {k n : Nat} (hs : S 7 = false) : WP 18 G S (f + 1) 7 ls st h k n = (oI (lget ls 1) (WP 18 G S f) 8 ls st h k n) := by rw [wp_s dd_18_7 rfl hs]; rfl
theorem v_18_7 {G : aG} {S : Nat → Bool} {f : Nat} {st : List Value} {ls : aL} {h : aH} {k n : Nat} : WQ 18 G S f 7 ls st h k n = (oI (lget ls 1) (WP 18 G S f) 8 ls st h k n) := by rw [wq_s dd_18_7 rfl]; rfl
theorem dd_18_8 : decode (mB 18) 8 = .ok (.aload_n 0, 1) := by decide +kernel
theorem u_18_8 {G : aG} {S : Nat → Bool} {f : Nat} {st : List Value} {ls : aL} {h : aH} {k n : Nat} (hs : S 8 = false) : WP 18 G S (f + 1) 8 ls st h k n = (oA (lget ls 0) (WP 18 G S f) 9 ls st h k n) := by rw [wp_s dd_18_8 rfl hs]; rfl
theorem dd_18_9 : decode (mB 18) 9 = .ok (.getfield 56, 3) := by decide +kernel
theorem u_18_9 {G : aG} {S : Nat → Bool} {f : Nat} {st : List Value} {ls : aL} {h : aH} {k n : Nat} {a : Nat} (hs : S 9 = false) : WP 18 G S (f + 1) 9 ls (.ref a :: st) h k n = (oV (fget h a 5 6) (WP 18 G S f) 12 ls st h k n) := by rw [wp_s dd_18_9 rfl hs]; rfl
theorem dd_18_12 : decode (mB 18) 12 = .ok (.if_icmp .ge 45, 3) := by decide +kernel
theorem u_18_12 {G : aG} {S : Nat → Bool} {f : Nat} {st : List Value} {ls : aL} {h : aH} {k n : Nat} {x y : Int32} (hs : S 12 = false) : WP 18 G S (f + 1) 12 ls (.int y :: .int x :: st) h k n = (if y ≤ x then WP 18 G S f 57 ls st h k n else WP 18 G S f 15 ls st h k n) := by rw [wp_s dd_18_12 rfl hs]; exact br_ite (c := y ≤ x)
theorem dd_18_15 : decode (mB 18) 15 = .ok (.aload_n 0, 1) := by decide +kernel
theorem u_18_15 {G : aG} {S : Nat → Bool} {f : Nat} {st : List Value} {ls : aL} {h : aH} {k n : Nat} (hs : S 15 = false) : WP 18 G S (f + 1) 15 ls st h k n = (oA (lget ls 0) (WP 18 G S f) 16 ls st h k n) := by rw [wp_s dd_18_15 rfl hs]; rfl
theorem dd_18_16 : decode (mB 18) 16 = .ok (.iload_n 1, 1) := by decide +kernel
theorem u_18_16 {G : aG} {S : Nat → Bool} {f : Nat} {st : List Value} {ls : aL} {h : aH} {k n : Nat} (hs : S 16 = false) : WP 18 G S (f + 1) 16 ls st h k n = (oI (lget ls 1) (WP 18 G S f) 17 ls st h k n) := by rw [wp_s dd_18_16 rfl hs]; rfl
theorem dd_18_17 : decode (mB 18) 17 = .ok (.putfield 66, 3) := by decide +kernel
theorem u_18_17 {G : aG} {S : Nat → Bool} {f : Nat} {st : List Value} {ls : aL} {h : aH} {k n : Nat} {a : Nat} {x : Int32} (hs : S 17 = false) : WP 18 G S (f + 1) 17 ls (.int x :: .ref a :: st) h k n = (oH (fput h a 5 13 (.int x)) (WP 18 G S f) 20 ls st k n) := by rw [wp_s dd_18_17 rfl hs]; rfl
theorem dd_18_20 : decode (mB 18) 20 = .ok (.aload_n 0, 1) := by decide +kernel
theorem u_18_20 {G : aG} {S : Nat → Bool} {f : Nat} {st : List Value} {ls : aL} {h : aH} {k n : Nat} (hs : S 20 = false) : WP 18 G S (f + 1) 20 ls st h k n = (oA (lget ls 0) (WP 18 G S f) 21 ls st h k n) := by rw [wp_s dd_18_20 rfl hs]; rfl
theorem dd_18_21 : decode (mB 18) 21 = .ok (.getfield 33, 3) := by decide +kernel
theorem u_18_21 {G : aG} {S : Nat → Bool} {f : Nat} {st : List Value} {ls : aL} {h : aH} {k n : Nat} {a : Nat} (hs : S 21 = false) : WP 18 G S (f + 1) 21 ls (.ref a :: st) h k n = (oV (fget h a 5 10) (WP 18 G S f) 24 ls st h k n) := by rw [wp_s dd_18_21 rfl hs]; rfl
theorem dd_18_24 : decode (mB 18) 24 = .ok (.iload_n 1, 1) := by decide +kernel
theorem u_18_24 {G : aG} {S : Nat → Bool} {f : Nat} {st : List Value} {ls : aL} {h : aH} {k n : Nat} (hs : S 24 = false) : WP 18 G S (f + 1) 24 ls st h k n = (oI (lget ls 1) (WP 18 G S f) 25 ls st h k n) := by rw [wp_s dd_18_24 rfl hs]; rfl
theorem dd_18_25 : decode (mB 18) 25 = .ok (.aload_n 0, 1) := by decide +kernel
theorem u_18_25 {G : aG} {S : Nat → Bool} {f : Nat} {st : List Value} {ls : aL} {h : aH} {k n : Nat} (hs : S 25 = false) : WP 18 G S (f + 1) 25 ls st h k n = (oA (lget ls 0) (WP 18 G S f) 26 ls st h k n) := by rw [wp_s dd_18_25 rfl hs]; rfl
theorem dd_18_26 : decode (mB 18) 26 = .ok (.getfield 63, 3) := by decide +kernel
theorem u_18_26 {G : aG} {S : Nat → Bool} {f : Nat} {st : List Value} {ls : aL} {h : aH} {k n : Nat} {a : Nat} (hs : S 26 = false) : WP 18 G S (f + 1) 26 ls (.ref a :: st) h k n = (oV (fget h a 5 12) (WP 18 G S f) 29 ls st h k n) := by rw [wp_s dd_18_26 rfl hs]; rfl
theorem dd_18_29 : decode (mB 18) 29 = .ok (.iastore, 1) := by decide +kernel
theorem u_18_29 {G : aG} {S : Nat → Bool} {f : Nat} {st : List Value} {ls : aL} {h : aH} {k n : Nat} {i x : Int32} {a : Nat} (hs : S 29 = false) : WP 18 G S (f + 1) 29 ls (.int x :: .int i :: .ref a :: st) h k n = (oIst (iget h a 1) a i x (WP 18 G S f) 30 ls st h k n) := by rw [wp_s dd_18_29 rfl hs]; rfl
theorem dd_18_30 : decode (mB 18) 30 = .ok (.aload_n 0, 1) := by decide +kernel
theorem u_18_30 {G : aG} {S : Nat → Bool} {f : Nat} {st : List Value} {ls : aL} {h : aH} {k n : Nat} (hs : S 30 = false) : WP 18 G S (f + 1) 30 ls st h k n = (oA (lget ls 0) (WP 18 G S f) 31 ls st h k n) := by rw [wp_s dd_18_30 rfl hs]; rfl
theorem dd_18_31 : decode (mB 18) 31 = .ok (.aload_n 0, 1) := by decide +kernel
theorem u_18_31 {G : aG} {S : Nat → Bool} {f : Nat} {st : List Value} {ls : aL} {h : aH} {k n : Nat} (hs : S 31 = false) : WP 18 G S (f + 1) 31 ls st h k n = (oA (lget ls 0) (WP 18 G S f) 32 ls st h k n) := by rw [wp_s dd_18_31 rfl hs]; rfl
theorem dd_18_32 : decode (mB 18) 32 = .ok (.getfield 39, 3) := by decide +kernel
theorem u_18_32 {G : aG} {S : Nat → Bool} {f : Nat} {st : List Value} {ls : aL} {h : aH} {k n : Nat} {a : Nat} (hs : S 32 = false) : WP 18 G S (f + 1) 32 ls (.ref a :: st) h k n = (oV (fget h a 5 5) (WP 18 G S f) 35 ls st h k n) := by rw [wp_s dd_18_32 rfl hs]; rfl
theorem dd_18_35 : decode (mB 18) 35 = .ok (.iload_n 1, 1) := by decide +kernel
theorem u_18_35 {G : aG} {S : Nat → Bool} {f : Nat} {st : List Value} {ls : aL} {h : aH} {k n : Nat} (hs : S 35 = false) : WP 18 G S (f + 1) 35 ls st h k n = (oI (lget ls 1) (WP 18 G S f) 36 ls st h k n) := by rw [wp_s dd_18_35 rfl hs]; rfl
theorem dd_18_36 : decode (mB 18) 36 = .ok (.iconst 1, 1) := by decide +kernel
theorem u_18_36 {G : aG} {S : Nat → Bool} {f : Nat} {st : List Value} {ls : aL} {h : aH} {k n : Nat} (hs : S 36 = false) : WP 18 G S (f + 1) 36 ls st h k n = (WP 18 G S f 37 ls (.int (nI 1) :: st) h k n) := by rw [wp_s dd_18_36 rfl hs]; rfl
theorem dd_18_37 : decode (mB 18) 37 = .ok (.iconst 0, 1) := by decide +kernel
theorem u_18_37 {G : aG} {S : Nat → Bool} {f : Nat} {st : List Value} {ls : aL} {h : aH} {k n : Nat} (hs : S 37 = false) : WP 18 G S (f + 1) 37 ls st h k n = (WP 18 G S f 38 ls (.int (nI 0) :: st) h k n) := by rw [wp_s dd_18_37 rfl hs]; rfl
theorem dd_18_38 : decode (mB 18) 38 = .ok (.invokevirtual 69, 3) := by decide +kernel
theorem u_18_38 {G : aG} {S : Nat → Bool} {f : Nat} {st : List Value} {ls : aL} {h : aH} {k n : Nat} {v1 v2 v3 v4 : Value} {b : Nat} (hs : S 38 = false) : WP 18 G S (f + 1) 38 ls (v4 :: v3 :: v2 :: v1 :: .ref b :: st) h k n = (rcv (hget h b) 5 ∧ CAL G (WP 18 G S f) 19 [.ref b, v1, v2, v3, v4] 41 ls st h k n) := by rw [wp_s dd_18_38 rfl hs]; rfl
theorem dd_18_41 : decode (mB 18) 41 = .ok (.aload_n 0, 1) := by decide +kernel
theorem u_18_41 {G : aG} {S : Nat → Bool} {f : Nat} {st : List Value} {ls : aL} {h : aH} {k n : Nat} (hs : S 41 = false) : WP 18 G S (f + 1) 41 ls st h k n = (oA (lget ls 0) (WP 18 G S f) 42 ls st h k n) := by rw [wp_s dd_18_41 rfl hs]; rfl
theorem dd_18_42 : decode (mB 18) 42 = .ok (.getfield 36, 3) := by decide +kernel
theorem u_18_42 {G : aG} {S : Nat → Bool} {f : Nat} {st : List Value} {ls : aL} {h : aH} {k n : Nat} {a : Nat} (hs : S 42 = false) : WP 18 G S (f + 1) 42 ls (.ref a :: st) h k n = (oV (fget h a 5 11) (WP 18 G S f) 45 ls st h k n) := by rw [wp_s dd_18_42 rfl hs]; rfl
theorem dd_18_45 : decode (mB 18) 45 = .ok (.iload_n 1, 1) := by decide +kernel
theorem u_18_45 {G : aG} {S : Nat → Bool} {f : Nat} {st : List Value} {ls : aL} {h : aH} {k n : Nat} (hs : S 45 = false) : WP 18 G S (f + 1) 45 ls st h k n = (oI (lget ls 1) (WP 18 G S f) 46 ls st h k n) := by rw [wp_s dd_18_45 rfl hs]; rfl
theorem dd_18_46 : decode (mB 18) 46 = .ok (.aload_n 0, 1) := by decide +kernel
theorem u_18_46 {G : aG} {S : Nat → Bool} {f : Nat} {st : List Value} {ls : aL} {h : aH} {k n : Nat} (hs : S 46 = false) : WP 18 G S (f + 1) 46 ls st h k n = (oA (lget ls 0) (WP 18 G S f) 47 ls st h k n) := by rw [wp_s dd_18_46 rfl hs]; rfl
theorem dd_18_47 : decode (mB 18) 47 = .ok (.getfield 63, 3) := by decide +kernel
theorem u_18_47 {G : aG} {S : Nat → Bool} {f : Nat} {st : List Value} {ls : aL} {h : aH} {k n : Nat} {a : Nat} (hs : S 47 = false) : WP 18 G S (f + 1) 47 ls (.ref a :: st) h k n = (oV (fget h a 5 12) (WP 18 G S f) 50 ls st h k n) := by rw [wp_s dd_18_47 rfl hs]; rfl
theorem dd_18_50 : decode (mB 18) 50 = .ok (.iastore, 1) := by decide +kernel
theorem u_18_50 {G : aG} {S : Nat → Bool} {f : Nat} {st : List Value} {ls : aL} {h : aH} {k n : Nat} {i x : Int32} {a : Nat} (hs : S 50 = false) : WP 18 G S (f + 1) 50 ls (.int x :: .int i :: .ref a :: st) h k n = (oIst (iget h a 1) a i x (WP 18 G S f) 51 ls st h k n) := by rw [wp_s dd_18_50 rfl hs]; rfl
theorem dd_18_51 : decode (mB 18) 51 = .ok (.iinc 1 1, 3) := by decide +kernel
theorem u_18_51 {G : aG} {S : Nat → Bool} {f : Nat} {st : List Value} {ls : aL} {h : aH} {k n : Nat} (hs : S 51 = false) : WP 18 G S (f + 1) 51 ls st h k n = (oInc (lget ls 1) (nI 1) (WP 18 G S f) 1 54 ls st h k n) := by rw [wp_s dd_18_51 rfl hs]; rfl
theorem dd_18_54 : decode (mB 18) 54 = .ok (.goto (-47), 3) := by decide +kernel
theorem u_18_54 {G : aG} {S : Nat → Bool} {f : Nat} {st : List Value} {ls : aL} {h : aH} {k n : Nat} (hs : S 54 = false) : WP 18 G S (f + 1) 54 ls st h k n = (WP 18 G S f 7 ls st h k n) := by rw [wp_s dd_18_54 rfl hs]; rfl
theorem dd_18_57 : decode (mB 18) 57 = .ok (.return_, 1) := by decide +kernel
theorem u_18_57 {G : aG} {S : Nat → Bool} {f : Nat} {ls : aL} {h : aH} {k n : Nat} (hs : S 57 = false) : WP 18 G S (f + 1) 57 ls [] h k n = (RET G none h k n) := by rw [wp_s dd_18_57 rfl hs]; rfl
theorem dd_19_0 : decode (mB 19) 0 = .ok (.iload_n 1, 1) := by decide +kernel
theorem u_19_0 {G : aG} {S : Nat → Bool} {f : Nat} {st : List Value} {ls : aL} {h : aH} {k n : Nat} (hs : S 0 = false) : WP 19 G S (f + 1) 0 ls st h k n = (oI (lget ls 1) (WP 19 G S f) 1 ls st h k n) := by rw [wp_s dd_19_0 rfl hs]; rfl
theorem dd_19_1 : decode (mB 19) 1 = .ok (.ifCond .ge 4, 3) := by decide +kernel
theorem u_19_1 {G : aG} {S : Nat → Bool} {f : Nat} {st : List Value} {ls : aL} {h : aH} {k n : Nat} {x : Int32} (hs : S 1 = false) : WP 19 G S (f + 1) 1 ls (.int x :: st) h k n = (if nI 0 ≤ x then WP 19 G S f 5 ls st h k n else WP 19 G S f 4 ls st h k n) := by rw [wp_s dd_19_1 rfl hs]; exact br_ite (c := nI 0 ≤ x)
theorem dd_19_4 : decode (mB 19) 4 = .ok (.return_, 1) := by decide +kernel
theorem u_19_4 {G : aG} {S : Nat → Bool} {f : Nat} {ls : aL} {h : aH} {k n : Nat} (hs : S 4 = false) : WP 19 G S (f + 1) 4 ls [] h k n = (RET G none h k n) := by rw [wp_s dd_19_4 rfl hs]; rfl
theorem dd_19_5 : decode (mB 19) 5 = .ok (.aload_n 0, 1) := by decide +kernel
theorem u_19_5 {G : aG} {S : Nat → Bool} {f : Nat} {st : List Value} {ls : aL} {h : aH} {k n : Nat} (hs : S 5 = false) : WP 19 G S (f + 1) 5 ls st h k n = (oA (lget ls 0) (WP 19 G S f) 6 ls st h k n) := by rw [wp_s dd_19_5 rfl hs]; rfl
theorem dd_19_6 : decode (mB 19) 6 = .ok (.getfield 9, 3) := by decide +kernel
theorem u_19_6 {G : aG} {S : Nat → Bool} {f : Nat} {st : List Value} {ls : aL} {h : aH} {k n : Nat} {a : Nat} (hs : S 6 = false) : WP 19 G S (f + 1) 6 ls (.ref a :: st) h k n = (oV (fget h a 5 0) (WP 19 G S f) 9 ls st h k n) := by rw [wp_s dd_19_6 rfl hs]; rfl
theorem dd_19_9 : decode (mB 19) 9 = .ok (.iload_n 1, 1) := by decide +kernel
theorem u_19_9 {G : aG} {S : Nat → Bool} {f : Nat} {st : List Value} {ls : aL} {h : aH} {k n : Nat} (hs : S 9 = false) : WP 19 G S (f + 1) 9 ls st h k n = (oI (lget ls 1) (WP 19 G S f) 10 ls st h k n) := by rw [wp_s dd_19_9 rfl hs]; rfl
theorem dd_19_10 : decode (mB 19) 10 = .ok (.iaload, 1) := by decide +kernel
theorem u_19_10 {G : aG} {S : Nat → Bool} {f : Nat} {st : List Value} {ls : aL} {h : aH} {k n : Nat} {i : Int32} {a : Nat} (hs : S 10 = false) : WP 19 G S (f + 1) 10 ls (.int i :: .ref a :: st) h k n = (oIld (iget h a 1) i (WP 19 G S f) 11 ls st h k n) := by rw [wp_s dd_19_10 rfl hs]; rfl
theorem dd_19_11 : decode (mB 19) 11 = .ok (.istore 5, 2) := by decide +kernel
theorem u_19_11 {G : aG} {S : Nat → Bool} {f : Nat} {st : List Value} {ls : aL} {h : aH} {k n : Nat} {x : Int32} (hs : S 11 = false) : WP 19 G S (f + 1) 11 ls (.int x :: st) h k n = (WP 19 G S f 13 (lput1 ls 5 (.int x)) st h k n) := by rw [wp_s dd_19_11 rfl hs]; rfl
theorem dd_19_13 : decode (mB 19) 13 = .ok (.iload 5, 2) := by decide +kernel
theorem u_19_13 {G : aG} {S : Nat → Bool} {f : Nat} {st : List Value} {ls : aL} {h : aH} {k n : Nat} (hs : S 13 = false) : WP 19 G S (f + 1) 13 ls st h k n = (oI (lget ls 5) (WP 19 G S f) 15 ls st h k n) := by rw [wp_s dd_19_13 rfl hs]; rfl
theorem dd_19_15 : decode (mB 19) 15 = .ok (.bipush 8, 2) := by decide +kernel
theorem u_19_15 {G : aG} {S : Nat → Bool} {f : Nat} {st : List Value} {ls : aL} {h : aH} {k n : Nat} (hs : S 15 = false) : WP 19 G S (f + 1) 15 ls st h k n = (WP 19 G S f 17 ls (.int (nI 8) :: st) h k n) := by rw [wp_s dd_19_15 rfl hs]; rfl
theorem dd_19_17 : decode (mB 19) 17 = .ok (.if_icmp .gt 22, 3) := by decide +kernel
theorem u_19_17 {G : aG} {S : Nat → Bool} {f : Nat} {st : List Value} {ls : aL} {h : aH} {k n : Nat} {x y : Int32} (hs : S 17 = false) : WP 19 G S (f + 1) 17 ls (.int y :: .int x :: st) h k n = (if y < x then WP 19 G S f 39 ls st h k n else WP 19 G S f 20 ls st h k n) := by rw [wp_s dd_19_17 rfl hs]; exact br_ite (c := y < x)
theorem dd_19_20 : decode (mB 19) 20 = .ok (.iload_n 2, 1) := by decide +kernel
theorem u_19_20 {G : aG} {S : Nat → Bool} {f : Nat} {st : List Value} {ls : aL} {h : aH} {k n : Nat} (hs : S 20 = false) : WP 19 G S (f + 1) 20 ls st h k n = (oI (lget ls 2) (WP 19 G S f) 21 ls st h k n) := by rw [wp_s dd_19_20 rfl hs]; rfl
theorem dd_19_21 : decode (mB 19) 21 = .ok (.ifCond .ne 72, 3) := by decide +kernel
theorem u_19_21 {G : aG} {S : Nat → Bool} {f : Nat} {st : List Value} {ls : aL} {h : aH} {k n : Nat} {x : Int32} (hs : S 21 = false) : WP 19 G S (f + 1) 21 ls (.int x :: st) h k n = (if x = nI 0 then WP 19 G S f 24 ls st h k n else WP 19 G S f 93 ls st h k n) := by rw [wp_s dd_19_21 rfl hs]; exact br_iten (c := x = nI 0)
theorem dd_19_24 : decode (mB 19) 24 = .ok (.aload_n 0, 1) := by decide +kernel
theorem u_19_24 {G : aG} {S : Nat → Bool} {f : Nat} {st : List Value} {ls : aL} {h : aH} {k n : Nat} (hs : S 24 = false) : WP 19 G S (f + 1) 24 ls st h k n = (oA (lget ls 0) (WP 19 G S f) 25 ls st h k n) := by rw [wp_s dd_19_24 rfl hs]; rfl
theorem dd_19_25 : decode (mB 19) 25 = .ok (.iload 5, 2) := by decide +kernel
theorem u_19_25 {G : aG} {S : Nat → Bool} {f : Nat} {st : List Value} {ls : aL} {h : aH} {k n : Nat} (hs : S 25 = false) : WP 19 G S (f + 1) 25 ls st h k n = (oI (lget ls 5) (WP 19 G S f) 27 ls st h k n) := by rw [wp_s dd_19_25 rfl hs]; rfl
theorem dd_19_27 : decode (mB 19) 27 = .ok (.iconst 1, 1) := by decide +kernel
theorem u_19_27 {G : aG} {S : Nat → Bool} {f : Nat} {st : List Value} {ls : aL} {h : aH} {k n : Nat} (hs : S 27 = false) : WP 19 G S (f + 1) 27 ls st h k n = (WP 19 G S f 28 ls (.int (nI 1) :: st) h k n) := by rw [wp_s dd_19_27 rfl hs]; rfl
theorem dd_19_28 : decode (mB 19) 28 = .ok (.isub, 1) := by decide +kernel
theorem u_19_28 {G : aG} {S : Nat → Bool} {f : Nat} {st : List Value} {ls : aL} {h : aH} {k n : Nat} {x y : Int32} (hs : S 28 = false) : WP 19 G S (f + 1) 28 ls (.int y :: .int x :: st) h k n = (WP 19 G S f 29 ls (.int (x - y) :: st) h k n) := by rw [wp_s dd_19_28 rfl hs]; rfl
theorem dd_19_29 : decode (mB 19) 29 = .ok (.iload_n 3, 1) := by decide +kernel
theorem u_19_29 {G : aG} {S : Nat → Bool} {f : Nat} {st : List Value} {ls : aL} {h : aH} {k n : Nat} (hs : S 29 = false) : WP 19 G S (f + 1) 29 ls st h k n = (oI (lget ls 3) (WP 19 G S f) 30 ls st h k n) := by rw [wp_s dd_19_29 rfl hs]; rfl
theorem dd_19_30 : decode (mB 19) 30 = .ok (.iload 4, 2) := by decide +kernel
theorem u_19_30 {G : aG} {S : Nat → Bool} {f : Nat} {st : List Value} {ls : aL} {h : aH} {k n : Nat} (hs : S 30 = false) : WP 19 G S (f + 1) 30 ls st h k n = (oI (lget ls 4) (WP 19 G S f) 32 ls st h k n) := by rw [wp_s dd_19_30 rfl hs]; rfl
theorem dd_19_32 : decode (mB 19) 32 = .ok (.iadd, 1) := by decide +kernel
theorem u_19_32 {G : aG} {S : Nat → Bool} {f : Nat} {st : List Value} {ls : aL} {h : aH} {k n : Nat} {x y : Int32} (hs : S 32 = false) : WP 19 G S (f + 1) 32 ls (.int y :: .int x :: st) h k n = (WP 19 G S f 33 ls (.int (x + y) :: st) h k n) := by rw [wp_s dd_19_32 rfl hs]; rfl
theorem dd_19_33 : decode (mB 19) 33 = .ok (.invokevirtual 73, 3) := by decide +kernel
theorem u_19_33 {G : aG} {S : Nat → Bool} {f : Nat} {st : List Value} {ls : aL} {h : aH} {k n : Nat} {v1 v2 : Value} {b : Nat} (hs : S 33 = false) : WP 19 G S (f + 1) 33 ls (v2 :: v1 :: .ref b :: st) h k n = (rcv (hget h b) 5 ∧ CAL G (WP 19 G S f) 20 [.ref b, v1, v2] 36 ls st h k n) := by rw [wp_s dd_19_33 rfl hs]; rfl
theorem dd_19_36 : decode (mB 19) 36 = .ok (.goto 57, 3) := by decide +kernel
theorem u_19_36 {G : aG} {S : Nat → Bool} {f : Nat} {st : List Value} {ls : aL} {h : aH} {k n : Nat} (hs : S 36 = false) : WP 19 G S (f + 1) 36 ls st h k n = (WP 19 G S f 93 ls st h k n) := by rw [wp_s dd_19_36 rfl hs]; rfl
theorem dd_19_39 : decode (mB 19) 39 = .ok (.iload 5, 2) := by decide +kernel
theorem u_19_39 {G : aG} {S : Nat → Bool} {f : Nat} {st : List Value} {ls : aL} {h : aH} {k n : Nat} (hs : S 39 = false) : WP 19 G S (f + 1) 39 ls st h k n = (oI (lget ls 5) (WP 19 G S f) 41 ls st h k n) := by rw [wp_s dd_19_39 rfl hs]; rfl
theorem dd_19_41 : decode (mB 19) 41 = .ok (.bipush 13, 2) := by decide +kernel
theorem u_19_41 {G : aG} {S : Nat → Bool} {f : Nat} {st : List Value} {ls : aL} {h : aH} {k n : Nat} (hs : S 41 = false) : WP 19 G S (f + 1) 41 ls st h k n = (WP 19 G S f 43 ls (.int (nI 13) :: st) h k n) := by rw [wp_s dd_19_41 rfl hs]; rfl
theorem dd_19_43 : decode (mB 19) 43 = .ok (.if_icmp .lt 15, 3) := by decide +kernel
theorem u_19_43 {G : aG} {S : Nat → Bool} {f : Nat} {st : List Value} {ls : aL} {h : aH} {k n : Nat} {x y : Int32} (hs : S 43 = false) : WP 19 G S (f + 1) 43 ls (.int y :: .int x :: st) h k n = (if x < y then WP 19 G S f 58 ls st h k n else WP 19 G S f 46 ls st h k n) := by rw [wp_s dd_19_43 rfl hs]; exact br_ite (c := x < y)
theorem dd_19_46 : decode (mB 19) 46 = .ok (.aload_n 0, 1) := by decide +kernel
theorem u_19_46 {G : aG} {S : Nat → Bool} {f : Nat} {st : List Value} {ls : aL} {h : aH} {k n : Nat} (hs : S 46 = false) : WP 19 G S (f + 1) 46 ls st h k n = (oA (lget ls 0) (WP 19 G S f) 47 ls st h k n) := by rw [wp_s dd_19_46 rfl hs]; rfl
theorem dd_19_47 : decode (mB 19) 47 = .ok (.iload_n 1, 1) := by decide +kernel
theorem u_19_47 {G : aG} {S : Nat → Bool} {f : Nat} {st : List Value} {ls : aL} {h : aH} {k n : Nat} (hs : S 47 = false) : WP 19 G S (f + 1) 47 ls st h k n = (oI (lget ls 1) (WP 19 G S f) 48 ls st h k n) := by rw [wp_s dd_19_47 rfl hs]; rfl
theorem dd_19_48 : decode (mB 19) 48 = .ok (.iload_n 2, 1) := by decide +kernel
theorem u_19_48 {G : aG} {S : Nat → Bool} {f : Nat} {st : List Value} {ls : aL} {h : aH} {k n : Nat} (hs : S 48 = false) : WP 19 G S (f + 1) 48 ls st h k n = (oI (lget ls 2) (WP 19 G S f) 49 ls st h k n) := by rw [wp_s dd_19_48 rfl hs]; rfl
theorem dd_19_49 : decode (mB 19) 49 = .ok (.iload_n 3, 1) := by decide +kernel
theorem u_19_49 {G : aG} {S : Nat → Bool} {f : Nat} {st : List Value} {ls : aL} {h : aH} {k n : Nat} (hs : S 49 = false) : WP 19 G S (f + 1) 49 ls st h k n = (oI (lget ls 3) (WP 19 G S f) 50 ls st h k n) := by rw [wp_s dd_19_49 rfl hs]; rfl
theorem dd_19_50 : decode (mB 19) 50 = .ok (.iload 4, 2) := by decide +kernel
theorem u_19_50 {G : aG} {S : Nat → Bool} {f : Nat} {st : List Value} {ls : aL} {h : aH} {k n : Nat} (hs : S 50 = false) : WP 19 G S (f + 1) 50 ls st h k n = (oI (lget ls 4) (WP 19 G S f) 52 ls st h k n) := by rw [wp_s dd_19_50 rfl hs]; rfl
theorem dd_19_52 : decode (mB 19) 52 = .ok (.invokevirtual 77, 3) := by decide +kernel
theorem u_19_52 {G : aG} {S : Nat → Bool} {f : Nat} {st : List Value} {ls : aL} {h : aH} {k n : Nat} {v1 v2 v3 v4 : Value} {b : Nat} (hs : S 52 = false) : WP 19 G S (f + 1) 52 ls (v4 :: v3 :: v2 :: v1 :: .ref b :: st) h k n = (rcv (hget h b) 5 ∧ CAL G (WP 19 G S f) 22 [.ref b, v1, v2, v3, v4] 55 ls st h k n) := by rw [wp_s dd_19_52 rfl hs]; rfl
theorem dd_19_55 : decode (mB 19) 55 = .ok (.goto 38, 3) := by decide +kernel
theorem u_19_55 {G : aG} {S : Nat → Bool} {f : Nat} {st : List Value} {ls : aL} {h : aH} {k n : Nat} (hs : S 55 = false) : WP 19 G S (f + 1) 55 ls st h k n = (WP 19 G S f 93 ls st h k n) := by rw [wp_s dd_19_55 rfl hs]; rfl
theorem dd_19_58 : decode (mB 19) 58 = .ok (.iload 5, 2) := by decide +kernel
theorem u_19_58 {G : aG} {S : Nat → Bool} {f : Nat} {st : List Value} {ls : aL} {h : aH} {k n : Nat} (hs : S 58 = false) : WP 19 G S (f + 1) 58 ls st h k n = (oI (lget ls 5) (WP 19 G S f) 60 ls st h k n) := by rw [wp_s dd_19_58 rfl hs]; rfl
theorem dd_19_60 : decode (mB 19) 60 = .ok (.bipush 11, 2) := by decide +kernel
theorem u_19_60 {G : aG} {S : Nat → Bool} {f : Nat} {st : List Value} {ls : aL} {h : aH} {k n : Nat} (hs : S 60 = false) : WP 19 G S (f + 1) 60 ls st h k n = (WP 19 G S f 62 ls (.int (nI 11) :: st) h k n) := by rw [wp_s dd_19_60 rfl hs]; rfl
theorem dd_19_62 : decode (mB 19) 62 = .ok (.if_icmp .ne 15, 3) := by decide +kernel
theorem u_19_62 {G : aG} {S : Nat → Bool} {f : Nat} {st : List Value} {ls : aL} {h : aH} {k n : Nat} {x y : Int32} (hs : S 62 = false) : WP 19 G S (f + 1) 62 ls (.int y :: .int x :: st) h k n = (if x = y then WP 19 G S f 65 ls st h k n else WP 19 G S f 77 ls st h k n) := by rw [wp_s dd_19_62 rfl hs]; exact br_iten (c := x = y)
theorem dd_19_65 : decode (mB 19) 65 = .ok (.aload_n 0, 1) := by decide +kernel
theorem u_19_65 {G : aG} {S : Nat → Bool} {f : Nat} {st : List Value} {ls : aL} {h : aH} {k n : Nat} (hs : S 65 = false) : WP 19 G S (f + 1) 65 ls st h k n = (oA (lget ls 0) (WP 19 G S f) 66 ls st h k n) := by rw [wp_s dd_19_65 rfl hs]; rfl
theorem dd_19_66 : decode (mB 19) 66 = .ok (.iload_n 1, 1) := by decide +kernel
theorem u_19_66 {G : aG} {S : Nat → Bool} {f : Nat} {st : List Value} {ls : aL} {h : aH} {k n : Nat} (hs : S 66 = false) : WP 19 G S (f + 1) 66 ls st h k n = (oI (lget ls 1) (WP 19 G S f) 67 ls st h k n) := by rw [wp_s dd_19_66 rfl hs]; rfl
theorem dd_19_67 : decode (mB 19) 67 = .ok (.iload_n 2, 1) := by decide +kernel
theorem u_19_67 {G : aG} {S : Nat → Bool} {f : Nat} {st : List Value} {ls : aL} {h : aH} {k n : Nat} (hs : S 67 = false) : WP 19 G S (f + 1) 67 ls st h k n = (oI (lget ls 2) (WP 19 G S f) 68 ls st h k n) := by rw [wp_s dd_19_67 rfl hs]; rfl
theorem dd_19_68 : decode (mB 19) 68 = .ok (.iload_n 3, 1) := by decide +kernel
theorem u_19_68 {G : aG} {S : Nat → Bool} {f : Nat} {st : List Value} {ls : aL} {h : aH} {k n : Nat} (hs : S 68 = false) : WP 19 G S (f + 1) 68 ls st h k n = (oI (lget ls 3) (WP 19 G S f) 69 ls st h k n) := by rw [wp_s dd_19_68 rfl hs]; rfl
theorem dd_19_69 : decode (mB 19) 69 = .ok (.iload 4, 2) := by decide +kernel
theorem u_19_69 {G : aG} {S : Nat → Bool} {f : Nat} {st : List Value} {ls : aL} {h : aH} {k n : Nat} (hs : S 69 = false) : WP 19 G S (f + 1) 69 ls st h k n = (oI (lget ls 4) (WP 19 G S f) 71 ls st h k n) := by rw [wp_s dd_19_69 rfl hs]; rfl
theorem dd_19_71 : decode (mB 19) 71 = .ok (.invokevirtual 80, 3) := by decide +kernel
theorem u_19_71 {G : aG} {S : Nat → Bool} {f : Nat} {st : List Value} {ls : aL} {h : aH} {k n : Nat} {v1 v2 v3 v4 : Value} {b : Nat} (hs : S 71 = false) : WP 19 G S (f + 1) 71 ls (v4 :: v3 :: v2 :: v1 :: .ref b :: st) h k n = (rcv (hget h b) 5 ∧ CAL G (WP 19 G S f) 23 [.ref b, v1, v2, v3, v4] 74 ls st h k n) := by rw [wp_s dd_19_71 rfl hs]; rfl
theorem dd_19_74 : decode (mB 19) 74 = .ok (.goto 19, 3) := by decide +kernel
theorem u_19_74 {G : aG} {S : Nat → Bool} {f : Nat} {st : List Value} {ls : aL} {h : aH} {k n : Nat} (hs : S 74 = false) : WP 19 G S (f + 1) 74 ls st h k n = (WP 19 G S f 93 ls st h k n) := by rw [wp_s dd_19_74 rfl hs]; rfl
theorem dd_19_77 : decode (mB 19) 77 = .ok (.iload 5, 2) := by decide +kernel
theorem u_19_77 {G : aG} {S : Nat → Bool} {f : Nat} {st : List Value} {ls : aL} {h : aH} {k n : Nat} (hs : S 77 = false) : WP 19 G S (f + 1) 77 ls st h k n = (oI (lget ls 5) (WP 19 G S f) 79 ls st h k n) := by rw [wp_s dd_19_77 rfl hs]; rfl
theorem dd_19_79 : decode (mB 19) 79 = .ok (.bipush 9, 2) := by decide +kernel
theorem u_19_79 {G : aG} {S : Nat → Bool} {f : Nat} {st : List Value} {ls : aL} {h : aH} {k n : Nat} (hs : S 79 = false) : WP 19 G S (f + 1) 79 ls st h k n = (WP 19 G S f 81 ls (.int (nI 9) :: st) h k n) := by rw [wp_s dd_19_79 rfl hs]; rfl
theorem dd_19_81 : decode (mB 19) 81 = .ok (.if_icmp .eq 12, 3) := by decide +kernel
theorem u_19_81 {G : aG} {S : Nat → Bool} {f : Nat} {st : List Value} {ls : aL} {h : aH} {k n : Nat} {x y : Int32} (hs : S 81 = false) : WP 19 G S (f + 1) 81 ls (.int y :: .int x :: st) h k n = (if x = y then WP 19 G S f 93 ls st h k n else WP 19 G S f 84 ls st h k n) := by rw [wp_s dd_19_81 rfl hs]; exact br_ite (c := x = y)
theorem dd_19_84 : decode (mB 19) 84 = .ok (.aload_n 0, 1) := by decide +kernel
theorem u_19_84 {G : aG} {S : Nat → Bool} {f : Nat} {st : List Value} {ls : aL} {h : aH} {k n : Nat} (hs : S 84 = false) : WP 19 G S (f + 1) 84 ls st h k n = (oA (lget ls 0) (WP 19 G S f) 85 ls st h k n) := by rw [wp_s dd_19_84 rfl hs]; rfl
theorem dd_19_85 : decode (mB 19) 85 = .ok (.iload_n 1, 1) := by decide +kernel
theorem u_19_85 {G : aG} {S : Nat → Bool} {f : Nat} {st : List Value} {ls : aL} {h : aH} {k n : Nat} (hs : S 85 = false) : WP 19 G S (f + 1) 85 ls st h k n = (oI (lget ls 1) (WP 19 G S f) 86 ls st h k n) := by rw [wp_s dd_19_85 rfl hs]; rfl
theorem dd_19_86 : decode (mB 19) 86 = .ok (.iload_n 2, 1) := by decide +kernel
theorem u_19_86 {G : aG} {S : Nat → Bool} {f : Nat} {st : List Value} {ls : aL} {h : aH} {k n : Nat} (hs : S 86 = false) : WP 19 G S (f + 1) 86 ls st h k n = (oI (lget ls 2) (WP 19 G S f) 87 ls st h k n) := by rw [wp_s dd_19_86 rfl hs]; rfl
theorem dd_19_87 : decode (mB 19) 87 = .ok (.iload_n 3, 1) := by decide +kernel
theorem u_19_87 {G : aG} {S : Nat → Bool} {f : Nat} {st : List Value} {ls : aL} {h : aH} {k n : Nat} (hs : S 87 = false) : WP 19 G S (f + 1) 87 ls st h k n = (oI (lget ls 3) (WP 19 G S f) 88 ls st h k n) := by rw [wp_s dd_19_87 rfl hs]; rfl
theorem dd_19_88 : decode (mB 19) 88 = .ok (.iload 4, 2) := by decide +kernel
theorem u_19_88 {G : aG} {S : Nat → Bool} {f : Nat} {st : List Value} {ls : aL} {h : aH} {k n : Nat} (hs : S 88 = false) : WP 19 G S (f + 1) 88 ls st h k n = (oI (lget ls 4) (WP 19 G S f) 90 ls st h k n) := by rw [wp_s dd_19_88 rfl hs]; rfl
theorem dd_19_90 : decode (mB 19) 90 = .ok (.invokevirtual 83, 3) := by decide +kernel
theorem u_19_90 {G : aG} {S : Nat → Bool} {f : Nat} {st : List Value} {ls : aL} {h : aH} {k n : Nat} {v1 v2 v3 v4 : Value} {b : Nat} (hs : S 90 = false) : WP 19 G S (f + 1) 90 ls (v4 :: v3 :: v2 :: v1 :: .ref b :: st) h k n = (rcv (hget h b) 5 ∧ CAL G (WP 19 G S f) 24 [.ref b, v1, v2, v3, v4] 93 ls st h k n) := by rw [wp_s dd_19_90 rfl hs]; rfl
theorem dd_19_93 : decode (mB 19) 93 = .ok (.return_, 1) := by decide +kernel
theorem u_19_93 {G : aG} {S : Nat → Bool} {f : Nat} {ls : aL} {h : aH} {k n : Nat} (hs : S 93 = false) : WP 19 G S (f + 1) 93 ls [] h k n = (RET G none h k n) := by rw [wp_s dd_19_93 rfl hs]; rfl
theorem dd_20_0 : decode (mB 20) 0 = .ok (.iload_n 2, 1) := by decide +kernel
theorem u_20_0 {G : aG} {S : Nat → Bool} {f : Nat} {st : List Value} {ls : aL} {h : aH} {k n : Nat} (hs : S 0 = false) : WP 20 G S (f + 1) 0 ls st h k n = (oI (lget ls 2) (WP 20 G S f) 1 ls st h k n) := by rw [wp_s dd_20_0 rfl hs]; rfl
theorem dd_20_1 : decode (mB 20) 1 = .ok (.ifCond .lt 29, 3) := by decide +kernel
theorem u_20_1 {G : aG} {S : Nat → Bool} {f : Nat} {st : List Value} {ls : aL} {h : aH} {k n : Nat} {x : Int32} (hs : S 1 = false) : WP 20 G S (f + 1) 1 ls (.int x :: st) h k n = (if x < nI 0 then WP 20 G S f 30 ls st h k n else WP 20 G S f 4 ls st h k n) := by rw [wp_s dd_20_1 rfl hs]; exact br_ite (c := x < nI 0)
theorem dd_20_4 : decode (mB 20) 4 = .ok (.iload_n 2, 1) := by decide +kernel
theorem u_20_4 {G : aG} {S : Nat → Bool} {f : Nat} {st : List Value} {ls : aL} {h : aH} {k n : Nat} (hs : S 4 = false) : WP 20 G S (f + 1) 4 ls st h k n = (oI (lget ls 2) (WP 20 G S f) 5 ls st h k n) := by rw [wp_s dd_20_4 rfl hs]; rfl
theorem dd_20_5 : decode (mB 20) 5 = .ok (.aload_n 0, 1) := by decide +kernel
theorem u_20_5 {G : aG} {S : Nat → Bool} {f : Nat} {st : List Value} {ls : aL} {h : aH} {k n : Nat} (hs : S 5 = false) : WP 20 G S (f + 1) 5 ls st h k n = (oA (lget ls 0) (WP 20 G S f) 6 ls st h k n) := by rw [wp_s dd_20_5 rfl hs]; rfl
theorem dd_20_6 : decode (mB 20) 6 = .ok (.getfield 56, 3) := by decide +kernel
theorem u_20_6 {G : aG} {S : Nat → Bool} {f : Nat} {st : List Value} {ls : aL} {h : aH} {k n : Nat} {a : Nat} (hs : S 6 = false) : WP 20 G S (f + 1) 6 ls (.ref a :: st) h k n = (oV (fget h a 5 6) (WP 20 G S f) 9 ls st h k n) := by rw [wp_s dd_20_6 rfl hs]; rfl
theorem dd_20_9 : decode (mB 20) 9 = .ok (.if_icmp .ge 21, 3) := by decide +kernel
theorem u_20_9 {G : aG} {S : Nat → Bool} {f : Nat} {st : List Value} {ls : aL} {h : aH} {k n : Nat} {x y : Int32} (hs : S 9 = false) : WP 20 G S (f + 1) 9 ls (.int y :: .int x :: st) h k n = (if y ≤ x then WP 20 G S f 30 ls st h k n else WP 20 G S f 12 ls st h k n) := by rw [wp_s dd_20_9 rfl hs]; exact br_ite (c := y ≤ x)
theorem dd_20_12 : decode (mB 20) 12 = .ok (.aload_n 0, 1) := by decide +kernel
theorem u_20_12 {G : aG} {S : Nat → Bool} {f : Nat} {st : List Value} {ls : aL} {h : aH} {k n : Nat} (hs : S 12 = false) : WP 20 G S (f + 1) 12 ls st h k n = (oA (lget ls 0) (WP 20 G S f) 13 ls st h k n) := by rw [wp_s dd_20_12 rfl hs]; rfl
theorem dd_20_13 : decode (mB 20) 13 = .ok (.getfield 66, 3) := by decide +kernel
theorem u_20_13 {G : aG} {S : Nat → Bool} {f : Nat} {st : List Value} {ls : aL} {h : aH} {k n : Nat} {a : Nat} (hs : S 13 = false) : WP 20 G S (f + 1) 13 ls (.ref a :: st) h k n = (oV (fget h a 5 13) (WP 20 G S f) 16 ls st h k n) := by rw [wp_s dd_20_13 rfl hs]; rfl
theorem dd_20_16 : decode (mB 20) 16 = .ok (.ifCond .lt 14, 3) := by decide +kernel
theorem u_20_16 {G : aG} {S : Nat → Bool} {f : Nat} {st : List Value} {ls : aL} {h : aH} {k n : Nat} {x : Int32} (hs : S 16 = false) : WP 20 G S (f + 1) 16 ls (.int x :: st) h k n = (if x < nI 0 then WP 20 G S f 30 ls st h k n else WP 20 G S f 19 ls st h k n) := by rw [wp_s dd_20_16 rfl hs]; exact br_ite (c := x < nI 0)
theorem dd_20_19 : decode (mB 20) 19 = .ok (.aload_n 0, 1) := by decide +kernel
theorem u_20_19 {G : aG} {S : Nat → Bool} {f : Nat} {st : List Value} {ls : aL} {h : aH} {k n : Nat} (hs : S 19 = false) : WP 20 G S (f + 1) 19 ls st h k n = (oA (lget ls 0) (WP 20 G S f) 20 ls st h k n) := by rw [wp_s dd_20_19 rfl hs]; rfl
theorem dd_20_20 : decode (mB 20) 20 = .ok (.getfield 66, 3) := by decide +kernel
theorem u_20_20 {G : aG} {S : Nat → Bool} {f : Nat} {st : List Value} {ls : aL} {h : aH} {k n : Nat} {a : Nat} (hs : S 20 = false) : WP 20 G S (f + 1) 20 ls (.ref a :: st) h k n = (oV (fget h a 5 13) (WP 20 G S f) 23 ls st h k n) := by rw [wp_s dd_20_20 rfl hs]; rfl
theorem dd_20_23 : decode (mB 20) 23 = .ok (.aload_n 0, 1) := by decide +kernel
theorem u_20_23 {G : aG} {S : Nat → Bool} {f : Nat} {st : List Value} {ls : aL} {h : aH} {k n : Nat} (hs : S 23 = false) : WP 20 G S (f + 1) 23 ls st h k n = (oA (lget ls 0) (WP 20 G S f) 24 ls st h k n) := by rw [wp_s dd_20_23 rfl hs]; rfl
theorem dd_20_24 : decode (mB 20) 24 = .ok (.getfield 56, 3) := by decide +kernel
theorem u_20_24 {G : aG} {S : Nat → Bool} {f : Nat} {st : List Value} {ls : aL} {h : aH} {k n : Nat} {a : Nat} (hs : S 24 = false) : WP 20 G S (f + 1) 24 ls (.ref a :: st) h k n = (oV (fget h a 5 6) (WP 20 G S f) 27 ls st h k n) := by rw [wp_s dd_20_24 rfl hs]; rfl
theorem dd_20_27 : decode (mB 20) 27 = .ok (.if_icmp .lt 4, 3) := by decide +kernel
theorem u_20_27 {G : aG} {S : Nat → Bool} {f : Nat} {st : List Value} {ls : aL} {h : aH} {k n : Nat} {x y : Int32} (hs : S 27 = false) : WP 20 G S (f + 1) 27 ls (.int y :: .int x :: st) h k n = (if x < y then WP 20 G S f 31 ls st h k n else WP 20 G S f 30 ls st h k n) := by rw [wp_s dd_20_27 rfl hs]; exact br_ite (c := x < y)
theorem dd_20_30 : decode (mB 20) 30 = .ok (.return_, 1) := by decide +kernel
theorem u_20_30 {G : aG} {S : Nat → Bool} {f : Nat} {ls : aL} {h : aH} {k n : Nat} (hs : S 30 = false) : WP 20 G S (f + 1) 30 ls [] h k n = (RET G none h k n) := by rw [wp_s dd_20_30 rfl hs]; rfl
theorem dd_20_31 : decode (mB 20) 31 = .ok (.iload_n 1, 1) := by decide +kernel
theorem u_20_31 {G : aG} {S : Nat → Bool} {f : Nat} {st : List Value} {ls : aL} {h : aH} {k n : Nat} (hs : S 31 = false) : WP 20 G S (f + 1) 31 ls st h k n = (oI (lget ls 1) (WP 20 G S f) 32 ls st h k n) := by rw [wp_s dd_20_31 rfl hs]; rfl
theorem dd_20_32 : decode (mB 20) 32 = .ok (.bipush 8, 2) := by decide +kernel
theorem u_20_32 {G : aG} {S : Nat → Bool} {f : Nat} {st : List Value} {ls : aL} {h : aH} {k n : Nat} (hs : S 32 = false) : WP 20 G S (f + 1) 32 ls st h k n = (WP 20 G S f 34 ls (.int (nI 8) :: st) h k n) := by rw [wp_s dd_20_32 rfl hs]; rfl
theorem dd_20_34 : decode (mB 20) 34 = .ok (.ishl, 1) := by decide +kernel
theorem u_20_34 {G : aG} {S : Nat → Bool} {f : Nat} {st : List Value} {ls : aL} {h : aH} {k n : Nat} {x y : Int32} (hs : S 34 = false) : WP 20 G S (f + 1) 34 ls (.int y :: .int x :: st) h k n = (WP 20 G S f 35 ls (.int (x <<< (y &&& 31)) :: st) h k n) := by rw [wp_s dd_20_34 rfl hs]; rfl
theorem dd_20_35 : decode (mB 20) 35 = .ok (.iload_n 2, 1) := by decide +kernel
theorem u_20_35 {G : aG} {S : Nat → Bool} {f : Nat} {st : List Value} {ls : aL} {h : aH} {k n : Nat} (hs : S 35 = false) : WP 20 G S (f + 1) 35 ls st h k n = (oI (lget ls 2) (WP 20 G S f) 36 ls st h k n) := by rw [wp_s dd_20_35 rfl hs]; rfl
theorem dd_20_36 : decode (mB 20) 36 = .ok (.ior, 1) := by decide +kernel
theorem u_20_36 {G : aG} {S : Nat → Bool} {f : Nat} {st : List Value} {ls : aL} {h : aH} {k n : Nat} {x y : Int32} (hs : S 36 = false) : WP 20 G S (f + 1) 36 ls (.int y :: .int x :: st) h k n = (WP 20 G S f 37 ls (.int (x ||| y) :: st) h k n) := by rw [wp_s dd_20_36 rfl hs]; rfl
theorem dd_20_37 : decode (mB 20) 37 = .ok (.istore_n 3, 1) := by decide +kernel
theorem u_20_37 {G : aG} {S : Nat → Bool} {f : Nat} {st : List Value} {ls : aL} {h : aH} {k n : Nat} {x : Int32} (hs : S 37 = false) : WP 20 G S (f + 1) 37 ls (.int x :: st) h k n = (WP 20 G S f 38 (lput1 ls 3 (.int x)) st h k n) := by rw [wp_s dd_20_37 rfl hs]; rfl
theorem dd_20_38 : decode (mB 20) 38 = .ok (.aload_n 0, 1) := by decide +kernel
theorem u_20_38 {G : aG} {S : Nat → Bool} {f : Nat} {st : List Value} {ls : aL} {h : aH} {k n : Nat} (hs : S 38 = false) : WP 20 G S (f + 1) 38 ls st h k n = (oA (lget ls 0) (WP 20 G S f) 39 ls st h k n) := by rw [wp_s dd_20_38 rfl hs]; rfl
theorem dd_20_39 : decode (mB 20) 39 = .ok (.getfield 33, 3) := by decide +kernel
theorem u_20_39 {G : aG} {S : Nat → Bool} {f : Nat} {st : List Value} {ls : aL} {h : aH} {k n : Nat} {a : Nat} (hs : S 39 = false) : WP 20 G S (f + 1) 39 ls (.ref a :: st) h k n = (oV (fget h a 5 10) (WP 20 G S f) 42 ls st h k n) := by rw [wp_s dd_20_39 rfl hs]; rfl
theorem dd_20_42 : decode (mB 20) 42 = .ok (.aload_n 0, 1) := by decide +kernel
theorem u_20_42 {G : aG} {S : Nat → Bool} {f : Nat} {st : List Value} {ls : aL} {h : aH} {k n : Nat} (hs : S 42 = false) : WP 20 G S (f + 1) 42 ls st h k n = (oA (lget ls 0) (WP 20 G S f) 43 ls st h k n) := by rw [wp_s dd_20_42 rfl hs]; rfl
theorem dd_20_43 : decode (mB 20) 43 = .ok (.getfield 66, 3) := by decide +kernel
theorem u_20_43 {G : aG} {S : Nat → Bool} {f : Nat} {st : List Value} {ls : aL} {h : aH} {k n : Nat} {a : Nat} (hs : S 43 = false) : WP 20 G S (f + 1) 43 ls (.ref a :: st) h k n = (oV (fget h a 5 13) (WP 20 G S f) 46 ls st h k n) := by rw [wp_s dd_20_43 rfl hs]; rfl
theorem dd_20_46 : decode (mB 20) 46 = .ok (.iaload, 1) := by decide +kernel
theorem u_20_46 {G : aG} {S : Nat → Bool} {f : Nat} {st : List Value} {ls : aL} {h : aH} {k n : Nat} {i : Int32} {a : Nat} (hs : S 46 = false) : WP 20 G S (f + 1) 46 ls (.int i :: .ref a :: st) h k n = (oIld (iget h a 1) i (WP 20 G S f) 47 ls st h k n) := by rw [wp_s dd_20_46 rfl hs]; rfl
theorem dd_20_47 : decode (mB 20) 47 = .ok (.istore 4, 2) := by decide +kernel
theorem u_20_47 {G : aG} {S : Nat → Bool} {f : Nat} {st : List Value} {ls : aL} {h : aH} {k n : Nat} {x : Int32} (hs : S 47 = false) : WP 20 G S (f + 1) 47 ls (.int x :: st) h k n = (WP 20 G S f 49 (lput1 ls 4 (.int x)) st h k n) := by rw [wp_s dd_20_47 rfl hs]; rfl
theorem dd_20_49 : decode (mB 20) 49 = .ok (.iload 4, 2) := by decide +kernel
theorem u_20_49 {G : aG} {S : Nat → Bool} {f : Nat} {st : List Value} {ls : aL} {h : aH} {k n : Nat} (hs : S 49 = false) : WP 20 G S (f + 1) 49 ls st h k n = (oI (lget ls 4) (WP 20 G S f) 51 ls st h k n) := by rw [wp_s dd_20_49 rfl hs]; rfl
theorem v_20_49 {G : aG} {S : Nat → Bool} {f : Nat} {st : List Value} {ls : aL} {h : aH} {k n : Nat} : WQ 20 G S f 49 ls st h k n = (oI (lget ls 4) (WP 20 G S f) 51 ls st h k n) := by rw [wq_s dd_20_49 rfl]; rfl
theorem dd_20_51 : decode (mB 20) 51 = .ok (.aload_n 0, 1) := by decide +kernel
theorem u_20_51 {G : aG} {S : Nat → Bool} {f : Nat} {st : List Value} {ls : aL} {h : aH} {k n : Nat} (hs : S 51 = false) : WP 20 G S (f + 1) 51 ls st h k n = (oA (lget ls 0) (WP 20 G S f) 52 ls st h k n) := by rw [wp_s dd_20_51 rfl hs]; rfl
theorem dd_20_52 : decode (mB 20) 52 = .ok (.getfield 63, 3) := by decide +kernel
theorem u_20_52 {G : aG} {S : Nat → Bool} {f : Nat} {st : List Value} {ls : aL} {h : aH} {k n : Nat} {a : Nat} (hs : S 52 = false) : WP 20 G S (f + 1) 52 ls (.ref a :: st) h k n = (oV (fget h a 5 12) (WP 20 G S f) 55 ls st h k n) := by rw [wp_s dd_20_52 rfl hs]; rfl
theorem dd_20_55 : decode (mB 20) 55 = .ok (.if_icmp .ge 21, 3) := by decide +kernel
theorem u_20_55 {G : aG} {S : Nat → Bool} {f : Nat} {st : List Value} {ls : aL} {h : aH} {k n : Nat} {x y : Int32} (hs : S 55 = false) : WP 20 G S (f + 1) 55 ls (.int y :: .int x :: st) h k n = (if y ≤ x then WP 20 G S f 76 ls st h k n else WP 20 G S f 58 ls st h k n) := by rw [wp_s dd_20_55 rfl hs]; exact br_ite (c := y ≤ x)
theorem dd_20_58 : decode (mB 20) 58 = .ok (.aload_n 0, 1) := by decide +kernel
theorem u_20_58 {G : aG} {S : Nat → Bool} {f : Nat} {st : List Value} {ls : aL} {h : aH} {k n : Nat} (hs : S 58 = false) : WP 20 G S (f + 1) 58 ls st h k n = (oA (lget ls 0) (WP 20 G S f) 59 ls st h k n) := by rw [wp_s dd_20_58 rfl hs]; rfl
theorem dd_20_59 : decode (mB 20) 59 = .ok (.getfield 30, 3) := by decide +kernel
theorem u_20_59 {G : aG} {S : Nat → Bool} {f : Nat} {st : List Value} {ls : aL} {h : aH} {k n : Nat} {a : Nat} (hs : S 59 = false) : WP 20 G S (f + 1) 59 ls (.ref a :: st) h k n = (oV (fget h a 5 9) (WP 20 G S f) 62 ls st h k n) := by rw [wp_s dd_20_59 rfl hs]; rfl
theorem dd_20_62 : decode (mB 20) 62 = .ok (.iload 4, 2) := by decide +kernel
theorem u_20_62 {G : aG} {S : Nat → Bool} {f : Nat} {st : List Value} {ls : aL} {h : aH} {k n : Nat} (hs : S 62 = false) : WP 20 G S (f + 1) 62 ls st h k n = (oI (lget ls 4) (WP 20 G S f) 64 ls st h k n) := by rw [wp_s dd_20_62 rfl hs]; rfl
theorem dd_20_64 : decode (mB 20) 64 = .ok (.iaload, 1) := by decide +kernel
theorem u_20_64 {G : aG} {S : Nat → Bool} {f : Nat} {st : List Value} {ls : aL} {h : aH} {k n : Nat} {i : Int32} {a : Nat} (hs : S 64 = false) : WP 20 G S (f + 1) 64 ls (.int i :: .ref a :: st) h k n = (oIld (iget h a 1) i (WP 20 G S f) 65 ls st h k n) := by rw [wp_s dd_20_64 rfl hs]; rfl
theorem dd_20_65 : decode (mB 20) 65 = .ok (.iload_n 3, 1) := by decide +kernel
theorem u_20_65 {G : aG} {S : Nat → Bool} {f : Nat} {st : List Value} {ls : aL} {h : aH} {k n : Nat} (hs : S 65 = false) : WP 20 G S (f + 1) 65 ls st h k n = (oI (lget ls 3) (WP 20 G S f) 66 ls st h k n) := by rw [wp_s dd_20_65 rfl hs]; rfl
theorem dd_20_66 : decode (mB 20) 66 = .ok (.if_icmp .ne 4, 3) := by decide +kernel
theorem u_20_66 {G : aG} {S : Nat → Bool} {f : Nat} {st : List Value} {ls : aL} {h : aH} {k n : Nat} {x y : Int32} (hs : S 66 = false) : WP 20 G S (f + 1) 66 ls (.int y :: .int x :: st) h k n = (if x = y then WP 20 G S f 69 ls st h k n else WP 20 G S f 70 ls st h k n) := by rw [wp_s dd_20_66 rfl hs]; exact br_iten (c := x = y)
theorem dd_20_69 : decode (mB 20) 69 = .ok (.return_, 1) := by decide +kernel
theorem u_20_69 {G : aG} {S : Nat → Bool} {f : Nat} {ls : aL} {h : aH} {k n : Nat} (hs : S 69 = false) : WP 20 G S (f + 1) 69 ls [] h k n = (RET G none h k n) := by rw [wp_s dd_20_69 rfl hs]; rfl
theorem dd_20_70 : decode (mB 20) 70 = .ok (.iinc 4 1, 3) := by decide +kernel
theorem u_20_70 {G : aG} {S : Nat → Bool} {f : Nat} {st : List Value} {ls : aL} {h : aH} {k n : Nat} (hs : S 70 = false) : WP 20 G S (f + 1) 70 ls st h k n = (oInc (lget ls 4) (nI 1) (WP 20 G S f) 4 73 ls st h k n) := by rw [wp_s dd_20_70 rfl hs]; rfl
theorem dd_20_73 : decode (mB 20) 73 = .ok (.goto (-24), 3) := by decide +kernel
theorem u_20_73 {G : aG} {S : Nat → Bool} {f : Nat} {st : List Value} {ls : aL} {h : aH} {k n : Nat} (hs : S 73 = false) : WP 20 G S (f + 1) 73 ls st h k n = (WP 20 G S f 49 ls st h k n) := by rw [wp_s dd_20_73 rfl hs]; rfl
theorem dd_20_76 : decode (mB 20) 76 = .ok (.aload_n 0, 1) := by decide +kernel
theorem u_20_76 {G : aG} {S : Nat → Bool} {f : Nat} {st : List Value} {ls : aL} {h : aH} {k n : Nat} (hs : S 76 = false) : WP 20 G S (f + 1) 76 ls st h k n = (oA (lget ls 0) (WP 20 G S f) 77 ls st h k n) := by rw [wp_s dd_20_76 rfl hs]; rfl
theorem dd_20_77 : decode (mB 20) 77 = .ok (.getfield 63, 3) := by decide +kernel
theorem u_20_77 {G : aG} {S : Nat → Bool} {f : Nat} {st : List Value} {ls : aL} {h : aH} {k n : Nat} {a : Nat} (hs : S 77 = false) : WP 20 G S (f + 1) 77 ls (.ref a :: st) h k n = (oV (fget h a 5 12) (WP 20 G S f) 80 ls st h k n) := by rw [wp_s dd_20_77 rfl hs]; rfl
theorem dd_20_80 : decode (mB 20) 80 = .ok (.aload_n 0, 1) := by decide +kernel
theorem u_20_80 {G : aG} {S : Nat → Bool} {f : Nat} {st : List Value} {ls : aL} {h : aH} {k n : Nat} (hs : S 80 = false) : WP 20 G S (f + 1) 80 ls st h k n = (oA (lget ls 0) (WP 20 G S f) 81 ls st h k n) := by rw [wp_s dd_20_80 rfl hs]; rfl
theorem dd_20_81 : decode (mB 20) 81 = .ok (.getfield 30, 3) := by decide +kernel
theorem u_20_81 {G : aG} {S : Nat → Bool} {f : Nat} {st : List Value} {ls : aL} {h : aH} {k n : Nat} {a : Nat} (hs : S 81 = false) : WP 20 G S (f + 1) 81 ls (.ref a :: st) h k n = (oV (fget h a 5 9) (WP 20 G S f) 84 ls st h k n) := by rw [wp_s dd_20_81 rfl hs]; rfl
theorem dd_20_84 : decode (mB 20) 84 = .ok (.arraylength, 1) := by decide +kernel
theorem u_20_84 {G : aG} {S : Nat → Bool} {f : Nat} {st : List Value} {ls : aL} {h : aH} {k n : Nat} {a : Nat} (hs : S 84 = false) : WP 20 G S (f + 1) 84 ls (.ref a :: st) h k n = (oLen (alen h a) (WP 20 G S f) 85 ls st h k n) := by rw [wp_s dd_20_84 rfl hs]; rfl
theorem dd_20_85 : decode (mB 20) 85 = .ok (.if_icmp .lt 20, 3) := by decide +kernel
theorem u_20_85 {G : aG} {S : Nat → Bool} {f : Nat} {st : List Value} {ls : aL} {h : aH} {k n : Nat} {x y : Int32} (hs : S 85 = false) : WP 20 G S (f + 1) 85 ls (.int y :: .int x :: st) h k n = (if x < y then WP 20 G S f 105 ls st h k n else WP 20 G S f 88 ls st h k n) := by rw [wp_s dd_20_85 rfl hs]; exact br_ite (c := x < y)
theorem dd_20_88 : decode (mB 20) 88 = .ok (.aload_n 0, 1) := by decide +kernel
theorem u_20_88 {G : aG} {S : Nat → Bool} {f : Nat} {st : List Value} {ls : aL} {h : aH} {k n : Nat} (hs : S 88 = false) : WP 20 G S (f + 1) 88 ls st h k n = (oA (lget ls 0) (WP 20 G S f) 89 ls st h k n) := by rw [wp_s dd_20_88 rfl hs]; rfl
theorem dd_20_89 : decode (mB 20) 89 = .ok (.aload_n 0, 1) := by decide +kernel
theorem u_20_89 {G : aG} {S : Nat → Bool} {f : Nat} {st : List Value} {ls : aL} {h : aH} {k n : Nat} (hs : S 89 = false) : WP 20 G S (f + 1) 89 ls st h k n = (oA (lget ls 0) (WP 20 G S f) 90 ls st h k n) := by rw [wp_s dd_20_89 rfl hs]; rfl
theorem dd_20_90 : decode (mB 20) 90 = .ok (.getfield 30, 3) := by decide +kernel
theorem u_20_90 {G : aG} {S : Nat → Bool} {f : Nat} {st : List Value} {ls : aL} {h : aH} {k n : Nat} {a : Nat} (hs : S 90 = false) : WP 20 G S (f + 1) 90 ls (.ref a :: st) h k n = (oV (fget h a 5 9) (WP 20 G S f) 93 ls st h k n) := by rw [wp_s dd_20_90 rfl hs]; rfl
theorem dd_20_93 : decode (mB 20) 93 = .ok (.iconst 2, 1) := by decide +kernel
theorem u_20_93 {G : aG} {S : Nat → Bool} {f : Nat} {st : List Value} {ls : aL} {h : aH} {k n : Nat} (hs : S 93 = false) : WP 20 G S (f + 1) 93 ls st h k n = (WP 20 G S f 94 ls (.int (nI 2) :: st) h k n) := by rw [wp_s dd_20_93 rfl hs]; rfl
theorem dd_20_94 : decode (mB 20) 94 = .ok (.aload_n 0, 1) := by decide +kernel
theorem u_20_94 {G : aG} {S : Nat → Bool} {f : Nat} {st : List Value} {ls : aL} {h : aH} {k n : Nat} (hs : S 94 = false) : WP 20 G S (f + 1) 94 ls st h k n = (oA (lget ls 0) (WP 20 G S f) 95 ls st h k n) := by rw [wp_s dd_20_94 rfl hs]; rfl
theorem dd_20_95 : decode (mB 20) 95 = .ok (.getfield 63, 3) := by decide +kernel
theorem u_20_95 {G : aG} {S : Nat → Bool} {f : Nat} {st : List Value} {ls : aL} {h : aH} {k n : Nat} {a : Nat} (hs : S 95 = false) : WP 20 G S (f + 1) 95 ls (.ref a :: st) h k n = (oV (fget h a 5 12) (WP 20 G S f) 98 ls st h k n) := by rw [wp_s dd_20_95 rfl hs]; rfl
theorem dd_20_98 : decode (mB 20) 98 = .ok (.imul, 1) := by decide +kernel
theorem u_20_98 {G : aG} {S : Nat → Bool} {f : Nat} {st : List Value} {ls : aL} {h : aH} {k n : Nat} {x y : Int32} (hs : S 98 = false) : WP 20 G S (f + 1) 98 ls (.int y :: .int x :: st) h k n = (WP 20 G S f 99 ls (.int (x * y) :: st) h k n) := by rw [wp_s dd_20_98 rfl hs]; rfl
theorem dd_20_99 : decode (mB 20) 99 = .ok (.invokestatic 86, 3) := by decide +kernel
theorem u_20_99 {G : aG} {S : Nat → Bool} {f : Nat} {st : List Value} {ls : aL} {h : aH} {k n : Nat} {v1 v2 : Value} (hs : S 99 = false) : WP 20 G S (f + 1) 99 ls (v2 :: v1 :: st) h k n = (CAL G (WP 20 G S f) 21 [v1, v2] 102 ls st h k n) := by rw [wp_s dd_20_99 rfl hs]; rfl
theorem dd_20_102 : decode (mB 20) 102 = .ok (.putfield 30, 3) := by decide +kernel
theorem u_20_102 {G : aG} {S : Nat → Bool} {f : Nat} {st : List Value} {ls : aL} {h : aH} {k n : Nat} {a : Nat} {x : Nat} (hs : S 102 = false) : WP 20 G S (f + 1) 102 ls (.ref x :: .ref a :: st) h k n = (oH (fput h a 5 9 (.ref x)) (WP 20 G S f) 105 ls st k n) := by rw [wp_s dd_20_102 rfl hs]; rfl
theorem dd_20_105 : decode (mB 20) 105 = .ok (.aload_n 0, 1) := by decide +kernel
theorem u_20_105 {G : aG} {S : Nat → Bool} {f : Nat} {st : List Value} {ls : aL} {h : aH} {k n : Nat} (hs : S 105 = false) : WP 20 G S (f + 1) 105 ls st h k n = (oA (lget ls 0) (WP 20 G S f) 106 ls st h k n) := by rw [wp_s dd_20_105 rfl hs]; rfl
theorem dd_20_106 : decode (mB 20) 106 = .ok (.getfield 30, 3) := by decide +kernel
theorem u_20_106 {G : aG} {S : Nat → Bool} {f : Nat} {st : List Value} {ls : aL} {h : aH} {k n : Nat} {a : Nat} (hs : S 106 = false) : WP 20 G S (f + 1) 106 ls (.ref a :: st) h k n = (oV (fget h a 5 9) (WP 20 G S f) 109 ls st h k n) := by rw [wp_s dd_20_106 rfl hs]; rfl
theorem dd_20_109 : decode (mB 20) 109 = .ok (.aload_n 0, 1) := by decide +kernel
theorem u_20_109 {G : aG} {S : Nat → Bool} {f : Nat} {st : List Value} {ls : aL} {h : aH} {k n : Nat} (hs : S 109 = false) : WP 20 G S (f + 1) 109 ls st h k n = (oA (lget ls 0) (WP 20 G S f) 110 ls st h k n) := by rw [wp_s dd_20_109 rfl hs]; rfl
theorem dd_20_110 : decode (mB 20) 110 = .ok (.getfield 63, 3) := by decide +kernel
theorem u_20_110 {G : aG} {S : Nat → Bool} {f : Nat} {st : List Value} {ls : aL} {h : aH} {k n : Nat} {a : Nat} (hs : S 110 = false) : WP 20 G S (f + 1) 110 ls (.ref a :: st) h k n = (oV (fget h a 5 12) (WP 20 G S f) 113 ls st h k n) := by rw [wp_s dd_20_110 rfl hs]; rfl
theorem dd_20_113 : decode (mB 20) 113 = .ok (.iload_n 3, 1) := by decide +kernel
theorem u_20_113 {G : aG} {S : Nat → Bool} {f : Nat} {st : List Value} {ls : aL} {h : aH} {k n : Nat} (hs : S 113 = false) : WP 20 G S (f + 1) 113 ls st h k n = (oI (lget ls 3) (WP 20 G S f) 114 ls st h k n) := by rw [wp_s dd_20_113 rfl hs]; rfl
theorem dd_20_114 : decode (mB 20) 114 = .ok (.iastore, 1) := by decide +kernel
theorem u_20_114 {G : aG} {S : Nat → Bool} {f : Nat} {st : List Value} {ls : aL} {h : aH} {k n : Nat} {i x : Int32} {a : Nat} (hs : S 114 = false) : WP 20 G S (f + 1) 114 ls (.int x :: .int i :: .ref a :: st) h k n = (oIst (iget h a 1) a i x (WP 20 G S f) 115 ls st h k n) := by rw [wp_s dd_20_114 rfl hs]; rfl
theorem dd_20_115 : decode (mB 20) 115 = .ok (.aload_n 0, 1) := by decide +kernel
theorem u_20_115 {G : aG} {S : Nat → Bool} {f : Nat} {st : List Value} {ls : aL} {h : aH} {k n : Nat} (hs : S 115 = false) : WP 20 G S (f + 1) 115 ls st h k n = (oA (lget ls 0) (WP 20 G S f) 116 ls st h k n) := by rw [wp_s dd_20_115 rfl hs]; rfl
theorem dd_20_116 : decode (mB 20) 116 = .ok (.dup, 1) := by decide +kernel
theorem u_20_116 {G : aG} {S : Nat → Bool} {f : Nat} {st : List Value} {ls : aL} {h : aH} {k n : Nat} {v : Value} (hs : S 116 = false) : WP 20 G S (f + 1) 116 ls (v :: st) h k n = (cond (cat1 v) (WP 20 G S f 117 ls (v :: v :: st) h k n) False) := by rw [wp_s dd_20_116 rfl hs]; rfl
theorem dd_20_117 : decode (mB 20) 117 = .ok (.getfield 63, 3) := by decide +kernel
theorem u_20_117 {G : aG} {S : Nat → Bool} {f : Nat} {st : List Value} {ls : aL} {h : aH} {k n : Nat} {a : Nat} (hs : S 117 = false) : WP 20 G S (f + 1) 117 ls (.ref a :: st) h k n = (oV (fget h a 5 12) (WP 20 G S f) 120 ls st h k n) := by rw [wp_s dd_20_117 rfl hs]; rfl
theorem dd_20_120 : decode (mB 20) 120 = .ok (.iconst 1, 1) := by decide +kernel
theorem u_20_120 {G : aG} {S : Nat → Bool} {f : Nat} {st : List Value} {ls : aL} {h : aH} {k n : Nat} (hs : S 120 = false) : WP 20 G S (f + 1) 120 ls st h k n = (WP 20 G S f 121 ls (.int (nI 1) :: st) h k n) := by rw [wp_s dd_20_120 rfl hs]; rfl
theorem dd_20_121 : decode (mB 20) 121 = .ok (.iadd, 1) := by decide +kernel
theorem u_20_121 {G : aG} {S : Nat → Bool} {f : Nat} {st : List Value} {ls : aL} {h : aH} {k n : Nat} {x y : Int32} (hs : S 121 = false) : WP 20 G S (f + 1) 121 ls (.int y :: .int x :: st) h k n = (WP 20 G S f 122 ls (.int (x + y) :: st) h k n) := by rw [wp_s dd_20_121 rfl hs]; rfl
theorem dd_20_122 : decode (mB 20) 122 = .ok (.putfield 63, 3) := by decide +kernel
theorem u_20_122 {G : aG} {S : Nat → Bool} {f : Nat} {st : List Value} {ls : aL} {h : aH} {k n : Nat} {a : Nat} {x : Int32} (hs : S 122 = false) : WP 20 G S (f + 1) 122 ls (.int x :: .ref a :: st) h k n = (oH (fput h a 5 12 (.int x)) (WP 20 G S f) 125 ls st k n) := by rw [wp_s dd_20_122 rfl hs]; rfl
theorem dd_20_125 : decode (mB 20) 125 = .ok (.aload_n 0, 1) := by decide +kernel
theorem u_20_125 {G : aG} {S : Nat → Bool} {f : Nat} {st : List Value} {ls : aL} {h : aH} {k n : Nat} (hs : S 125 = false) : WP 20 G S (f + 1) 125 ls st h k n = (oA (lget ls 0) (WP 20 G S f) 126 ls st h k n) := by rw [wp_s dd_20_125 rfl hs]; rfl
theorem dd_20_126 : decode (mB 20) 126 = .ok (.getfield 27, 3) := by decide +kernel
theorem u_20_126 {G : aG} {S : Nat → Bool} {f : Nat} {st : List Value} {ls : aL} {h : aH} {k n : Nat} {a : Nat} (hs : S 126 = false) : WP 20 G S (f + 1) 126 ls (.ref a :: st) h k n = (oV (fget h a 5 8) (WP 20 G S f) 129 ls st h k n) := by rw [wp_s dd_20_126 rfl hs]; rfl
theorem dd_20_129 : decode (mB 20) 129 = .ok (.aload_n 0, 1) := by decide +kernel
theorem u_20_129 {G : aG} {S : Nat → Bool} {f : Nat} {st : List Value} {ls : aL} {h : aH} {k n : Nat} (hs : S 129 = false) : WP 20 G S (f + 1) 129 ls st h k n = (oA (lget ls 0) (WP 20 G S f) 130 ls st h k n) := by rw [wp_s dd_20_129 rfl hs]; rfl
theorem dd_20_130 : decode (mB 20) 130 = .ok (.getfield 66, 3) := by decide +kernel
theorem u_20_130 {G : aG} {S : Nat → Bool} {f : Nat} {st : List Value} {ls : aL} {h : aH} {k n : Nat} {a : Nat} (hs : S 130 = false) : WP 20 G S (f + 1) 130 ls (.ref a :: st) h k n = (oV (fget h a 5 13) (WP 20 G S f) 133 ls st h k n) := by rw [wp_s dd_20_130 rfl hs]; rfl
theorem dd_20_133 : decode (mB 20) 133 = .ok (.dup2, 1) := by decide +kernel
theorem u_20_133 {G : aG} {S : Nat → Bool} {f : Nat} {st : List Value} {ls : aL} {h : aH} {k n : Nat} {v v2 : Value} (hs : S 133 = false) : WP 20 G S (f + 1) 133 ls (v :: v2 :: st) h k n = (cond (cat1 v && cat1 v2) (WP 20 G S f 134 ls (v :: v2 :: v :: v2 :: st) h k n) False) := by rw [wp_s dd_20_133 rfl hs]; rfl
theorem dd_20_134 : decode (mB 20) 134 = .ok (.iaload, 1) := by decide +kernel
theorem u_20_134 {G : aG} {S : Nat → Bool} {f : Nat} {st : List Value} {ls : aL} {h : aH} {k n : Nat} {i : Int32} {a : Nat} (hs : S 134 = false) : WP 20 G S (f + 1) 134 ls (.int i :: .ref a :: st) h k n = (oIld (iget h a 1) i (WP 20 G S f) 135 ls st h k n) := by rw [wp_s dd_20_134 rfl hs]; rfl
theorem dd_20_135 : decode (mB 20) 135 = .ok (.iconst 1, 1) := by decide +kernel
theorem u_20_135 {G : aG} {S : Nat → Bool} {f : Nat} {st : List Value} {ls : aL} {h : aH} {k n : Nat} (hs : S 135 = false) : WP 20 G S (f + 1) 135 ls st h k n = (WP 20 G S f 136 ls (.int (nI 1) :: st) h k n) := by rw [wp_s dd_20_135 rfl hs]; rfl
theorem dd_20_136 : decode (mB 20) 136 = .ok (.iload_n 1, 1) := by decide +kernel
theorem u_20_136 {G : aG} {S : Nat → Bool} {f : Nat} {st : List Value} {ls : aL} {h : aH} {k n : Nat} (hs : S 136 = false) : WP 20 G S (f + 1) 136 ls st h k n = (oI (lget ls 1) (WP 20 G S f) 137 ls st h k n) := by rw [wp_s dd_20_136 rfl hs]; rfl
theorem dd_20_137 : decode (mB 20) 137 = .ok (.ishl, 1) := by decide +kernel
theorem u_20_137 {G : aG} {S : Nat → Bool} {f : Nat} {st : List Value} {ls : aL} {h : aH} {k n : Nat} {x y : Int32} (hs : S 137 = false) : WP 20 G S (f + 1) 137 ls (.int y :: .int x :: st) h k n = (WP 20 G S f 138 ls (.int (x <<< (y &&& 31)) :: st) h k n) := by rw [wp_s dd_20_137 rfl hs]; rfl
theorem dd_20_138 : decode (mB 20) 138 = .ok (.ior, 1) := by decide +kernel
theorem u_20_138 {G : aG} {S : Nat → Bool} {f : Nat} {st : List Value} {ls : aL} {h : aH} {k n : Nat} {x y : Int32} (hs : S 138 = false) : WP 20 G S (f + 1) 138 ls (.int y :: .int x :: st) h k n = (WP 20 G S f 139 ls (.int (x ||| y) :: st) h k n) := by rw [wp_s dd_20_138 rfl hs]; rfl
theorem dd_20_139 : decode (mB 20) 139 = .ok (.iastore, 1) := by decide +kernel
theorem u_20_139 {G : aG} {S : Nat → Bool} {f : Nat} {st : List Value} {ls : aL} {h : aH} {k n : Nat} {i x : Int32} {a : Nat} (hs : S 139 = false) : WP 20 G S (f + 1) 139 ls (.int x :: .int i :: .ref a :: st) h k n = (oIst (iget h a 1) a i x (WP 20 G S f) 140 ls st h k n) := by rw [wp_s dd_20_139 rfl hs]; rfl
theorem dd_20_140 : decode (mB 20) 140 = .ok (.aload_n 0, 1) := by decide +kernel
theorem u_20_140 {G : aG} {S : Nat → Bool} {f : Nat} {st : List Value} {ls : aL} {h : aH} {k n : Nat} (hs : S 140 = false) : WP 20 G S (f + 1) 140 ls st h k n = (oA (lget ls 0) (WP 20 G S f) 141 ls st h k n) := by rw [wp_s dd_20_140 rfl hs]; rfl
theorem dd_20_141 : decode (mB 20) 141 = .ok (.getfield 27, 3) := by decide +kernel
theorem u_20_141 {G : aG} {S : Nat → Bool} {f : Nat} {st : List Value} {ls : aL} {h : aH} {k n : Nat} {a : Nat} (hs : S 141 = false) : WP 20 G S (f + 1) 141 ls (.ref a :: st) h k n = (oV (fget h a 5 8) (WP 20 G S f) 144 ls st h k n) := by rw [wp_s dd_20_141 rfl hs]; rfl
theorem dd_20_144 : decode (mB 20) 144 = .ok (.iload_n 2, 1) := by decide +kernel
theorem u_20_144 {G : aG} {S : Nat → Bool} {f : Nat} {st : List Value} {ls : aL} {h : aH} {k n : Nat} (hs : S 144 = false) : WP 20 G S (f + 1) 144 ls st h k n = (oI (lget ls 2) (WP 20 G S f) 145 ls st h k n) := by rw [wp_s dd_20_144 rfl hs]; rfl
theorem dd_20_145 : decode (mB 20) 145 = .ok (.iaload, 1) := by decide +kernel
theorem u_20_145 {G : aG} {S : Nat → Bool} {f : Nat} {st : List Value} {ls : aL} {h : aH} {k n : Nat} {i : Int32} {a : Nat} (hs : S 145 = false) : WP 20 G S (f + 1) 145 ls (.int i :: .ref a :: st) h k n = (oIld (iget h a 1) i (WP 20 G S f) 146 ls st h k n) := by rw [wp_s dd_20_145 rfl hs]; rfl
theorem dd_20_146 : decode (mB 20) 146 = .ok (.sipush 256, 3) := by decide +kernel
theorem u_20_146 {G : aG} {S : Nat → Bool} {f : Nat} {st : List Value} {ls : aL} {h : aH} {k n : Nat} (hs : S 146 = false) : WP 20 G S (f + 1) 146 ls st h k n = (WP 20 G S f 149 ls (.int (nI 256) :: st) h k n) := by rw [wp_s dd_20_146 rfl hs]; rfl
theorem dd_20_149 : decode (mB 20) 149 = .ok (.iand, 1) := by decide +kernel
theorem u_20_149 {G : aG} {S : Nat → Bool} {f : Nat} {st : List Value} {ls : aL} {h : aH} {k n : Nat} {x y : Int32} (hs : S 149 = false) : WP 20 G S (f + 1) 149 ls (.int y :: .int x :: st) h k n = (WP 20 G S f 150 ls (.int (x &&& y) :: st) h k n) := by rw [wp_s dd_20_149 rfl hs]; rfl
theorem dd_20_150 : decode (mB 20) 150 = .ok (.ifCond .eq 21, 3) := by decide +kernel
theorem u_20_150 {G : aG} {S : Nat → Bool} {f : Nat} {st : List Value} {ls : aL} {h : aH} {k n : Nat} {x : Int32} (hs : S 150 = false) : WP 20 G S (f + 1) 150 ls (.int x :: st) h k n = (if x = nI 0 then WP 20 G S f 171 ls st h k n else WP 20 G S f 153 ls st h k n) := by rw [wp_s dd_20_150 rfl hs]; exact br_ite (c := x = nI 0)
theorem dd_20_153 : decode (mB 20) 153 = .ok (.aload_n 0, 1) := by decide +kernel
theorem u_20_153 {G : aG} {S : Nat → Bool} {f : Nat} {st : List Value} {ls : aL} {h : aH} {k n : Nat} (hs : S 153 = false) : WP 20 G S (f + 1) 153 ls st h k n = (oA (lget ls 0) (WP 20 G S f) 154 ls st h k n) := by rw [wp_s dd_20_153 rfl hs]; rfl
theorem dd_20_154 : decode (mB 20) 154 = .ok (.getfield 27, 3) := by decide +kernel
theorem u_20_154 {G : aG} {S : Nat → Bool} {f : Nat} {st : List Value} {ls : aL} {h : aH} {k n : Nat} {a : Nat} (hs : S 154 = false) : WP 20 G S (f + 1) 154 ls (.ref a :: st) h k n = (oV (fget h a 5 8) (WP 20 G S f) 157 ls st h k n) := by rw [wp_s dd_20_154 rfl hs]; rfl
theorem dd_20_157 : decode (mB 20) 157 = .ok (.aload_n 0, 1) := by decide +kernel
theorem u_20_157 {G : aG} {S : Nat → Bool} {f : Nat} {st : List Value} {ls : aL} {h : aH} {k n : Nat} (hs : S 157 = false) : WP 20 G S (f + 1) 157 ls st h k n = (oA (lget ls 0) (WP 20 G S f) 158 ls st h k n) := by rw [wp_s dd_20_157 rfl hs]; rfl
theorem dd_20_158 : decode (mB 20) 158 = .ok (.getfield 66, 3) := by decide +kernel
theorem u_20_158 {G : aG} {S : Nat → Bool} {f : Nat} {st : List Value} {ls : aL} {h : aH} {k n : Nat} {a : Nat} (hs : S 158 = false) : WP 20 G S (f + 1) 158 ls (.ref a :: st) h k n = (oV (fget h a 5 13) (WP 20 G S f) 161 ls st h k n) := by rw [wp_s dd_20_158 rfl hs]; rfl
theorem dd_20_161 : decode (mB 20) 161 = .ok (.dup2, 1) := by decide +kernel
theorem u_20_161 {G : aG} {S : Nat → Bool} {f : Nat} {st : List Value} {ls : aL} {h : aH} {k n : Nat} {v v2 : Value} (hs : S 161 = false) : WP 20 G S (f + 1) 161 ls (v :: v2 :: st) h k n = (cond (cat1 v && cat1 v2) (WP 20 G S f 162 ls (v :: v2 :: v :: v2 :: st) h k n) False) := by rw [wp_s dd_20_161 rfl hs]; rfl
theorem dd_20_162 : decode (mB 20) 162 = .ok (.iaload, 1) := by decide +kernel
theorem u_20_162 {G : aG} {S : Nat → Bool} {f : Nat} {st : List Value} {ls : aL} {h : aH} {k n : Nat} {i : Int32} {a : Nat} (hs : S 162 = false) : WP 20 G S (f + 1) 162 ls (.int i :: .ref a :: st) h k n = (oIld (iget h a 1) i (WP 20 G S f) 163 ls st h k n) := by rw [wp_s dd_20_162 rfl hs]; rfl
theorem dd_20_163 : decode (mB 20) 163 = .ok (.iconst 1, 1) := by decide +kernel
theorem u_20_163 {G : aG} {S : Nat → Bool} {f : Nat} {st : List Value} {ls : aL} {h : aH} {k n : Nat} (hs : S 163 = false) : WP 20 G S (f + 1) 163 ls st h k n = (WP 20 G S f 164 ls (.int (nI 1) :: st) h k n) := by rw [wp_s dd_20_163 rfl hs]; rfl
theorem dd_20_164 : decode (mB 20) 164 = .ok (.bipush 9, 2) := by decide +kernel
theorem u_20_164 {G : aG} {S : Nat → Bool} {f : Nat} {st : List Value} {ls : aL} {h : aH} {k n : Nat} (hs : S 164 = false) : WP 20 G S (f + 1) 164 ls st h k n = (WP 20 G S f 166 ls (.int (nI 9) :: st) h k n) := by rw [wp_s dd_20_164 rfl hs]; rfl
theorem dd_20_166 : decode (mB 20) 166 = .ok (.iload_n 1, 1) := by decide +kernel
theorem u_20_166 {G : aG} {S : Nat → Bool} {f : Nat} {st : List Value} {ls : aL} {h : aH} {k n : Nat} (hs : S 166 = false) : WP 20 G S (f + 1) 166 ls st h k n = (oI (lget ls 1) (WP 20 G S f) 167 ls st h k n) := by rw [wp_s dd_20_166 rfl hs]; rfl
theorem dd_20_167 : decode (mB 20) 167 = .ok (.iadd, 1) := by decide +kernel
theorem u_20_167 {G : aG} {S : Nat → Bool} {f : Nat} {st : List Value} {ls : aL} {h : aH} {k n : Nat} {x y : Int32} (hs : S 167 = false) : WP 20 G S (f + 1) 167 ls (.int y :: .int x :: st) h k n = (WP 20 G S f 168 ls (.int (x + y) :: st) h k n) := by rw [wp_s dd_20_167 rfl hs]; rfl
theorem dd_20_168 : decode (mB 20) 168 = .ok (.ishl, 1) := by decide +kernel
theorem u_20_168 {G : aG} {S : Nat → Bool} {f : Nat} {st : List Value} {ls : aL} {h : aH} {k n : Nat} {x y : Int32} (hs : S 168 = false) : WP 20 G S (f + 1) 168 ls (.int y :: .int x :: st) h k n = (WP 20 G S f 169 ls (.int (x <<< (y &&& 31)) :: st) h k n) := by rw [wp_s dd_20_168 rfl hs]; rfl
theorem dd_20_169 : decode (mB 20) 169 = .ok (.ior, 1) := by decide +kernel
theorem u_20_169 {G : aG} {S : Nat → Bool} {f : Nat} {st : List Value} {ls : aL} {h : aH} {k n : Nat} {x y : Int32} (hs : S 169 = false) : WP 20 G S (f + 1) 169 ls (.int y :: .int x :: st) h k n = (WP 20 G S f 170 ls (.int (x ||| y) :: st) h k n) := by rw [wp_s dd_20_169 rfl hs]; rfl
theorem dd_20_170 : decode (mB 20) 170 = .ok (.iastore, 1) := by decide +kernel
theorem u_20_170 {G : aG} {S : Nat → Bool} {f : Nat} {st : List Value} {ls : aL} {h : aH} {k n : Nat} {i x : Int32} {a : Nat} (hs : S 170 = false) : WP 20 G S (f + 1) 170 ls (.int x :: .int i :: .ref a :: st) h k n = (oIst (iget h a 1) a i x (WP 20 G S f) 171 ls st h k n) := by rw [wp_s dd_20_170 rfl hs]; rfl
theorem dd_20_171 : decode (mB 20) 171 = .ok (.return_, 1) := by decide +kernel
theorem u_20_171 {G : aG} {S : Nat → Bool} {f : Nat} {ls : aL} {h : aH} {k n : Nat} (hs : S 171 = false) : WP 20 G S (f + 1) 171 ls [] h k n = (RET G none h k n) := by rw [wp_s dd_20_171 rfl hs]; rfl
theorem dd_22_0 : decode (mB 22) 0 = .ok (.iload_n 1, 1) := by decide +kernel
theorem u_22_0 {G : aG} {S : Nat → Bool} {f : Nat} {st : List Value} {ls : aL} {h : aH} {k n : Nat} (hs : S 0 = false) : WP 22 G S (f + 1) 0 ls st h k n = (oI (lget ls 1) (WP 22 G S f) 1 ls st h k n) := by rw [wp_s dd_22_0 rfl hs]; rfl
theorem dd_22_1 : decode (mB 22) 1 = .ok (.iconst 1, 1) := by decide +kernel
theorem u_22_1 {G : aG} {S : Nat → Bool} {f : Nat} {st : List Value} {ls : aL} {h : aH} {k n : Nat} (hs : S 1 = false) : WP 22 G S (f + 1) 1 ls st h k n = (WP 22 G S f 2 ls (.int (nI 1) :: st) h k n) := by rw [wp_s dd_22_1 rfl hs]; rfl
theorem dd_22_2 : decode (mB 22) 2 = .ok (.isub, 1) := by decide +kernel
theorem u_22_2 {G : aG} {S : Nat → Bool} {f : Nat} {st : List Value} {ls : aL} {h : aH} {k n : Nat} {x y : Int32} (hs : S 2 = false) : WP 22 G S (f + 1) 2 ls (.int y :: .int x :: st) h k n = (WP 22 G S f 3 ls (.int (x - y) :: st) h k n) := by rw [wp_s dd_22_2 rfl hs]; rfl
theorem dd_22_3 : decode (mB 22) 3 = .ok (.istore 5, 2) := by decide +kernel
theorem u_22_3 {G : aG} {S : Nat → Bool} {f : Nat} {st : List Value} {ls : aL} {h : aH} {k n : Nat} {x : Int32} (hs : S 3 = false) : WP 22 G S (f + 1) 3 ls (.int x :: st) h k n = (WP 22 G S f 5 (lput1 ls 5 (.int x)) st h k n) := by rw [wp_s dd_22_3 rfl hs]; rfl
theorem dd_22_5 : decode (mB 22) 5 = .ok (.aload_n 0, 1) := by decide +kernel
theorem u_22_5 {G : aG} {S : Nat → Bool} {f : Nat} {st : List Value} {ls : aL} {h : aH} {k n : Nat} (hs : S 5 = false) : WP 22 G S (f + 1) 5 ls st h k n = (oA (lget ls 0) (WP 22 G S f) 6 ls st h k n) := by rw [wp_s dd_22_5 rfl hs]; rfl
theorem dd_22_6 : decode (mB 22) 6 = .ok (.iload 5, 2) := by decide +kernel
theorem u_22_6 {G : aG} {S : Nat → Bool} {f : Nat} {st : List Value} {ls : aL} {h : aH} {k n : Nat} (hs : S 6 = false) : WP 22 G S (f + 1) 6 ls st h k n = (oI (lget ls 5) (WP 22 G S f) 8 ls st h k n) := by rw [wp_s dd_22_6 rfl hs]; rfl
theorem dd_22_8 : decode (mB 22) 8 = .ok (.iload_n 2, 1) := by decide +kernel
theorem u_22_8 {G : aG} {S : Nat → Bool} {f : Nat} {st : List Value} {ls : aL} {h : aH} {k n : Nat} (hs : S 8 = false) : WP 22 G S (f + 1) 8 ls st h k n = (oI (lget ls 2) (WP 22 G S f) 9 ls st h k n) := by rw [wp_s dd_22_8 rfl hs]; rfl
theorem dd_22_9 : decode (mB 22) 9 = .ok (.iload_n 3, 1) := by decide +kernel
theorem u_22_9 {G : aG} {S : Nat → Bool} {f : Nat} {st : List Value} {ls : aL} {h : aH} {k n : Nat} (hs : S 9 = false) : WP 22 G S (f + 1) 9 ls st h k n = (oI (lget ls 3) (WP 22 G S f) 10 ls st h k n) := by rw [wp_s dd_22_9 rfl hs]; rfl
theorem dd_22_10 : decode (mB 22) 10 = .ok (.iload 4, 2) := by decide +kernel
theorem u_22_10 {G : aG} {S : Nat → Bool} {f : Nat} {st : List Value} {ls : aL} {h : aH} {k n : Nat} (hs : S 10 = false) : WP 22 G S (f + 1) 10 ls st h k n = (oI (lget ls 4) (WP 22 G S f) 12 ls st h k n) := by rw [wp_s dd_22_10 rfl hs]; rfl
theorem dd_22_12 : decode (mB 22) 12 = .ok (.invokevirtual 69, 3) := by decide +kernel
theorem u_22_12 {G : aG} {S : Nat → Bool} {f : Nat} {st : List Value} {ls : aL} {h : aH} {k n : Nat} {v1 v2 v3 v4 : Value} {b : Nat} (hs : S 12 = false) : WP 22 G S (f + 1) 12 ls (v4 :: v3 :: v2 :: v1 :: .ref b :: st) h k n = (rcv (hget h b) 5 ∧ CAL G (WP 22 G S f) 19 [.ref b, v1, v2, v3, v4] 15 ls st h k n) := by rw [wp_s dd_22_12 rfl hs]; rfl
theorem dd_22_15 : decode (mB 22) 15 = .ok (.aload_n 0, 1) := by decide +kernel
theorem u_22_15 {G : aG} {S : Nat → Bool} {f : Nat} {st : List Value} {ls : aL} {h : aH} {k n : Nat} (hs : S 15 = false) : WP 22 G S (f + 1) 15 ls st h k n = (oA (lget ls 0) (WP 22 G S f) 16 ls st h k n) := by rw [wp_s dd_22_15 rfl hs]; rfl
theorem dd_22_16 : decode (mB 22) 16 = .ok (.getfield 9, 3) := by decide +kernel
theorem u_22_16 {G : aG} {S : Nat → Bool} {f : Nat} {st : List Value} {ls : aL} {h : aH} {k n : Nat} {a : Nat} (hs : S 16 = false) : WP 22 G S (f + 1) 16 ls (.ref a :: st) h k n = (oV (fget h a 5 0) (WP 22 G S f) 19 ls st h k n) := by rw [wp_s dd_22_16 rfl hs]; rfl
theorem dd_22_19 : decode (mB 22) 19 = .ok (.iload_n 1, 1) := by decide +kernel
theorem u_22_19 {G : aG} {S : Nat → Bool} {f : Nat} {st : List Value} {ls : aL} {h : aH} {k n : Nat} (hs : S 19 = false) : WP 22 G S (f + 1) 19 ls st h k n = (oI (lget ls 1) (WP 22 G S f) 20 ls st h k n) := by rw [wp_s dd_22_19 rfl hs]; rfl
theorem dd_22_20 : decode (mB 22) 20 = .ok (.iaload, 1) := by decide +kernel
theorem u_22_20 {G : aG} {S : Nat → Bool} {f : Nat} {st : List Value} {ls : aL} {h : aH} {k n : Nat} {i : Int32} {a : Nat} (hs : S 20 = false) : WP 22 G S (f + 1) 20 ls (.int i :: .ref a :: st) h k n = (oIld (iget h a 1) i (WP 22 G S f) 21 ls st h k n) := by rw [wp_s dd_22_20 rfl hs]; rfl
theorem dd_22_21 : decode (mB 22) 21 = .ok (.bipush 13, 2) := by decide +kernel
theorem u_22_21 {G : aG} {S : Nat → Bool} {f : Nat} {st : List Value} {ls : aL} {h : aH} {k n : Nat} (hs : S 21 = false) : WP 22 G S (f + 1) 21 ls st h k n = (WP 22 G S f 23 ls (.int (nI 13) :: st) h k n) := by rw [wp_s dd_22_21 rfl hs]; rfl
theorem dd_22_23 : decode (mB 22) 23 = .ok (.if_icmp .eq 27, 3) := by decide +kernel
theorem u_22_23 {G : aG} {S : Nat → Bool} {f : Nat} {st : List Value} {ls : aL} {h : aH} {k n : Nat} {x y : Int32} (hs : S 23 = false) : WP 22 G S (f + 1) 23 ls (.int y :: .int x :: st) h k n = (if x = y then WP 22 G S f 50 ls st h k n else WP 22 G S f 26 ls st h k n) := by rw [wp_s dd_22_23 rfl hs]; exact br_ite (c := x = y)
theorem dd_22_26 : decode (mB 22) 26 = .ok (.iload_n 2, 1) := by decide +kernel
theorem u_22_26 {G : aG} {S : Nat → Bool} {f : Nat} {st : List Value} {ls : aL} {h : aH} {k n : Nat} (hs : S 26 = false) : WP 22 G S (f + 1) 26 ls st h k n = (oI (lget ls 2) (WP 22 G S f) 27 ls st h k n) := by rw [wp_s dd_22_26 rfl hs]; rfl
theorem dd_22_27 : decode (mB 22) 27 = .ok (.ifCond .eq 23, 3) := by decide +kernel
theorem u_22_27 {G : aG} {S : Nat → Bool} {f : Nat} {st : List Value} {ls : aL} {h : aH} {k n : Nat} {x : Int32} (hs : S 27 = false) : WP 22 G S (f + 1) 27 ls (.int x :: st) h k n = (if x = nI 0 then WP 22 G S f 50 ls st h k n else WP 22 G S f 30 ls st h k n) := by rw [wp_s dd_22_27 rfl hs]; exact br_ite (c := x = nI 0)
theorem dd_22_30 : decode (mB 22) 30 = .ok (.aload_n 0, 1) := by decide +kernel
theorem u_22_30 {G : aG} {S : Nat → Bool} {f : Nat} {st : List Value} {ls : aL} {h : aH} {k n : Nat} (hs : S 30 = false) : WP 22 G S (f + 1) 30 ls st h k n = (oA (lget ls 0) (WP 22 G S f) 31 ls st h k n) := by rw [wp_s dd_22_30 rfl hs]; rfl
theorem dd_22_31 : decode (mB 22) 31 = .ok (.iload 5, 2) := by decide +kernel
theorem u_22_31 {G : aG} {S : Nat → Bool} {f : Nat} {st : List Value} {ls : aL} {h : aH} {k n : Nat} (hs : S 31 = false) : WP 22 G S (f + 1) 31 ls st h k n = (oI (lget ls 5) (WP 22 G S f) 33 ls st h k n) := by rw [wp_s dd_22_31 rfl hs]; rfl
theorem dd_22_33 : decode (mB 22) 33 = .ok (.iload_n 2, 1) := by decide +kernel
theorem u_22_33 {G : aG} {S : Nat → Bool} {f : Nat} {st : List Value} {ls : aL} {h : aH} {k n : Nat} (hs : S 33 = false) : WP 22 G S (f + 1) 33 ls st h k n = (oI (lget ls 2) (WP 22 G S f) 34 ls st h k n) := by rw [wp_s dd_22_33 rfl hs]; rfl
theorem dd_22_34 : decode (mB 22) 34 = .ok (.invokevirtual 59, 3) := by decide +kernel
theorem u_22_34 {G : aG} {S : Nat → Bool} {f : Nat} {st : List Value} {ls : aL} {h : aH} {k n : Nat} {v1 v2 : Value} {b : Nat} (hs : S 34 = false) : WP 22 G S (f + 1) 34 ls (v2 :: v1 :: .ref b :: st) h k n = (rcv (hget h b) 5 ∧ CAL G (WP 22 G S f) 17 [.ref b, v1, v2] 37 ls st h k n) := by rw [wp_s dd_22_34 rfl hs]; rfl
theorem dd_22_37 : decode (mB 22) 37 = .ok (.ifCond .eq 13, 3) := by decide +kernel
theorem u_22_37 {G : aG} {S : Nat → Bool} {f : Nat} {st : List Value} {ls : aL} {h : aH} {k n : Nat} {x : Int32} (hs : S 37 = false) : WP 22 G S (f + 1) 37 ls (.int x :: st) h k n = (if x = nI 0 then WP 22 G S f 50 ls st h k n else WP 22 G S f 40 ls st h k n) := by rw [wp_s dd_22_37 rfl hs]; exact br_ite (c := x = nI 0)
theorem dd_22_40 : decode (mB 22) 40 = .ok (.aload_n 0, 1) := by decide +kernel
theorem u_22_40 {G : aG} {S : Nat → Bool} {f : Nat} {st : List Value} {ls : aL} {h : aH} {k n : Nat} (hs : S 40 = false) : WP 22 G S (f + 1) 40 ls st h k n = (oA (lget ls 0) (WP 22 G S f) 41 ls st h k n) := by rw [wp_s dd_22_40 rfl hs]; rfl
theorem dd_22_41 : decode (mB 22) 41 = .ok (.iload 5, 2) := by decide +kernel
theorem u_22_41 {G : aG} {S : Nat → Bool} {f : Nat} {st : List Value} {ls : aL} {h : aH} {k n : Nat} (hs : S 41 = false) : WP 22 G S (f + 1) 41 ls st h k n = (oI (lget ls 5) (WP 22 G S f) 43 ls st h k n) := by rw [wp_s dd_22_41 rfl hs]; rfl
theorem dd_22_43 : decode (mB 22) 43 = .ok (.iconst 0, 1) := by decide +kernel
theorem u_22_43 {G : aG} {S : Nat → Bool} {f : Nat} {st : List Value} {ls : aL} {h : aH} {k n : Nat} (hs : S 43 = false) : WP 22 G S (f + 1) 43 ls st h k n = (WP 22 G S f 44 ls (.int (nI 0) :: st) h k n) := by rw [wp_s dd_22_43 rfl hs]; rfl
theorem dd_22_44 : decode (mB 22) 44 = .ok (.iload_n 3, 1) := by decide +kernel
theorem u_22_44 {G : aG} {S : Nat → Bool} {f : Nat} {st : List Value} {ls : aL} {h : aH} {k n : Nat} (hs : S 44 = false) : WP 22 G S (f + 1) 44 ls st h k n = (oI (lget ls 3) (WP 22 G S f) 45 ls st h k n) := by rw [wp_s dd_22_44 rfl hs]; rfl
theorem dd_22_45 : decode (mB 22) 45 = .ok (.iload 4, 2) := by decide +kernel
theorem u_22_45 {G : aG} {S : Nat → Bool} {f : Nat} {st : List Value} {ls : aL} {h : aH} {k n : Nat} (hs : S 45 = false) : WP 22 G S (f + 1) 45 ls st h k n = (oI (lget ls 4) (WP 22 G S f) 47 ls st h k n) := by rw [wp_s dd_22_45 rfl hs]; rfl
theorem dd_22_47 : decode (mB 22) 47 = .ok (.invokevirtual 69, 3) := by decide +kernel
theorem u_22_47 {G : aG} {S : Nat → Bool} {f : Nat} {st : List Value} {ls : aL} {h : aH} {k n : Nat} {v1 v2 v3 v4 : Value} {b : Nat} (hs : S 47 = false) : WP 22 G S (f + 1) 47 ls (v4 :: v3 :: v2 :: v1 :: .ref b :: st) h k n = (rcv (hget h b) 5 ∧ CAL G (WP 22 G S f) 19 [.ref b, v1, v2, v3, v4] 50 ls st h k n) := by rw [wp_s dd_22_47 rfl hs]; rfl
theorem dd_22_50 : decode (mB 22) 50 = .ok (.return_, 1) := by decide +kernel
theorem u_22_50 {G : aG} {S : Nat → Bool} {f : Nat} {ls : aL} {h : aH} {k n : Nat} (hs : S 50 = false) : WP 22 G S (f + 1) 50 ls [] h k n = (RET G none h k n) := by rw [wp_s dd_22_50 rfl hs]; rfl
theorem dd_23_0 : decode (mB 23) 0 = .ok (.iload_n 1, 1) := by decide +kernel
theorem u_23_0 {G : aG} {S : Nat → Bool} {f : Nat} {st : List Value} {ls : aL} {h : aH} {k n : Nat} (hs : S 0 = false) : WP 23 G S (f + 1) 0 ls st h k n = (oI (lget ls 1) (WP 23 G S f) 1 ls st h k n) := by rw [wp_s dd_23_0 rfl hs]; rfl
theorem dd_23_1 : decode (mB 23) 1 = .ok (.iconst 1, 1) := by decide +kernel
theorem u_23_1 {G : aG} {S : Nat → Bool} {f : Nat} {st : List Value} {ls : aL} {h : aH} {k n : Nat} (hs : S 1 = false) : WP 23 G S (f + 1) 1 ls st h k n = (WP 23 G S f 2 ls (.int (nI 1) :: st) h k n) := by rw [wp_s dd_23_1 rfl hs]; rfl
theorem dd_23_2 : decode (mB 23) 2 = .ok (.isub, 1) := by decide +kernel
theorem u_23_2 {G : aG} {S : Nat → Bool} {f : Nat} {st : List Value} {ls : aL} {h : aH} {k n : Nat} {x y : Int32} (hs : S 2 = false) : WP 23 G S (f + 1) 2 ls (.int y :: .int x :: st) h k n = (WP 23 G S f 3 ls (.int (x - y) :: st) h k n) := by rw [wp_s dd_23_2 rfl hs]; rfl
theorem dd_23_3 : decode (mB 23) 3 = .ok (.istore 5, 2) := by decide +kernel
theorem u_23_3 {G : aG} {S : Nat → Bool} {f : Nat} {st : List Value} {ls : aL} {h : aH} {k n : Nat} {x : Int32} (hs : S 3 = false) : WP 23 G S (f + 1) 3 ls (.int x :: st) h k n = (WP 23 G S f 5 (lput1 ls 5 (.int x)) st h k n) := by rw [wp_s dd_23_3 rfl hs]; rfl
theorem dd_23_5 : decode (mB 23) 5 = .ok (.iload 5, 2) := by decide +kernel
theorem u_23_5 {G : aG} {S : Nat → Bool} {f : Nat} {st : List Value} {ls : aL} {h : aH} {k n : Nat} (hs : S 5 = false) : WP 23 G S (f + 1) 5 ls st h k n = (oI (lget ls 5) (WP 23 G S f) 7 ls st h k n) := by rw [wp_s dd_23_5 rfl hs]; rfl
theorem dd_23_7 : decode (mB 23) 7 = .ok (.ifCond .lt 13, 3) := by decide +kernel
theorem u_23_7 {G : aG} {S : Nat → Bool} {f : Nat} {st : List Value} {ls : aL} {h : aH} {k n : Nat} {x : Int32} (hs : S 7 = false) : WP 23 G S (f + 1) 7 ls (.int x :: st) h k n = (if x < nI 0 then WP 23 G S f 20 ls st h k n else WP 23 G S f 10 ls st h k n) := by rw [wp_s dd_23_7 rfl hs]; exact br_ite (c := x < nI 0)
theorem dd_23_10 : decode (mB 23) 10 = .ok (.aload_n 0, 1) := by decide +kernel
theorem u_23_10 {G : aG} {S : Nat → Bool} {f : Nat} {st : List Value} {ls : aL} {h : aH} {k n : Nat} (hs : S 10 = false) : WP 23 G S (f + 1) 10 ls st h k n = (oA (lget ls 0) (WP 23 G S f) 11 ls st h k n) := by rw [wp_s dd_23_10 rfl hs]; rfl
theorem dd_23_11 : decode (mB 23) 11 = .ok (.getfield 21, 3) := by decide +kernel
theorem u_23_11 {G : aG} {S : Nat → Bool} {f : Nat} {st : List Value} {ls : aL} {h : aH} {k n : Nat} {a : Nat} (hs : S 11 = false) : WP 23 G S (f + 1) 11 ls (.ref a :: st) h k n = (oV (fget h a 5 3) (WP 23 G S f) 14 ls st h k n) := by rw [wp_s dd_23_11 rfl hs]; rfl
theorem dd_23_14 : decode (mB 23) 14 = .ok (.iload 5, 2) := by decide +kernel
theorem u_23_14 {G : aG} {S : Nat → Bool} {f : Nat} {st : List Value} {ls : aL} {h : aH} {k n : Nat} (hs : S 14 = false) : WP 23 G S (f + 1) 14 ls st h k n = (oI (lget ls 5) (WP 23 G S f) 16 ls st h k n) := by rw [wp_s dd_23_14 rfl hs]; rfl
theorem dd_23_16 : decode (mB 23) 16 = .ok (.iaload, 1) := by decide +kernel
theorem u_23_16 {G : aG} {S : Nat → Bool} {f : Nat} {st : List Value} {ls : aL} {h : aH} {k n : Nat} {i : Int32} {a : Nat} (hs : S 16 = false) : WP 23 G S (f + 1) 16 ls (.int i :: .ref a :: st) h k n = (oIld (iget h a 1) i (WP 23 G S f) 17 ls st h k n) := by rw [wp_s dd_23_16 rfl hs]; rfl
theorem dd_23_17 : decode (mB 23) 17 = .ok (.goto 4, 3) := by decide +kernel
theorem u_23_17 {G : aG} {S : Nat → Bool} {f : Nat} {st : List Value} {ls : aL} {h : aH} {k n : Nat} (hs : S 17 = false) : WP 23 G S (f + 1) 17 ls st h k n = (WP 23 G S f 21 ls st h k n) := by rw [wp_s dd_23_17 rfl hs]; rfl
theorem dd_23_20 : decode (mB 23) 20 = .ok (.iconst 0, 1) := by decide +kernel
theorem u_23_20 {G : aG} {S : Nat → Bool} {f : Nat} {st : List Value} {ls : aL} {h : aH} {k n : Nat} (hs : S 20 = false) : WP 23 G S (f + 1) 20 ls st h k n = (WP 23 G S f 21 ls (.int (nI 0) :: st) h k n) := by rw [wp_s dd_23_20 rfl hs]; rfl
theorem dd_23_21 : decode (mB 23) 21 = .ok (.istore 6, 2) := by decide +kernel
theorem u_23_21 {G : aG} {S : Nat → Bool} {f : Nat} {st : List Value} {ls : aL} {h : aH} {k n : Nat} {x : Int32} (hs : S 21 = false) : WP 23 G S (f + 1) 21 ls (.int x :: st) h k n = (WP 23 G S f 23 (lput1 ls 6 (.int x)) st h k n) := by rw [wp_s dd_23_21 rfl hs]; rfl
theorem dd_23_23 : decode (mB 23) 23 = .ok (.iload 6, 2) := by decide +kernel
theorem u_23_23 {G : aG} {S : Nat → Bool} {f : Nat} {st : List Value} {ls : aL} {h : aH} {k n : Nat} (hs : S 23 = false) : WP 23 G S (f + 1) 23 ls st h k n = (oI (lget ls 6) (WP 23 G S f) 25 ls st h k n) := by rw [wp_s dd_23_23 rfl hs]; rfl
theorem dd_23_25 : decode (mB 23) 25 = .ok (.ifCond .le 57, 3) := by decide +kernel
theorem u_23_25 {G : aG} {S : Nat → Bool} {f : Nat} {st : List Value} {ls : aL} {h : aH} {k n : Nat} {x : Int32} (hs : S 25 = false) : WP 23 G S (f + 1) 25 ls (.int x :: st) h k n = (if x ≤ nI 0 then WP 23 G S f 82 ls st h k n else WP 23 G S f 28 ls st h k n) := by rw [wp_s dd_23_25 rfl hs]; exact br_ite (c := x ≤ nI 0)
theorem dd_23_28 : decode (mB 23) 28 = .ok (.iload_n 2, 1) := by decide +kernel
theorem u_23_28 {G : aG} {S : Nat → Bool} {f : Nat} {st : List Value} {ls : aL} {h : aH} {k n : Nat} (hs : S 28 = false) : WP 23 G S (f + 1) 28 ls st h k n = (oI (lget ls 2) (WP 23 G S f) 29 ls st h k n) := by rw [wp_s dd_23_28 rfl hs]; rfl
theorem dd_23_29 : decode (mB 23) 29 = .ok (.iload 6, 2) := by decide +kernel
theorem u_23_29 {G : aG} {S : Nat → Bool} {f : Nat} {st : List Value} {ls : aL} {h : aH} {k n : Nat} (hs : S 29 = false) : WP 23 G S (f + 1) 29 ls st h k n = (oI (lget ls 6) (WP 23 G S f) 31 ls st h k n) := by rw [wp_s dd_23_29 rfl hs]; rfl
theorem dd_23_31 : decode (mB 23) 31 = .ok (.idiv, 1) := by decide +kernel
theorem u_23_31 {G : aG} {S : Nat → Bool} {f : Nat} {st : List Value} {ls : aL} {h : aH} {k n : Nat} {x y : Int32} (hs : S 31 = false) : WP 23 G S (f + 1) 31 ls (.int y :: .int x :: st) h k n = (¬ y = 0 ∧ WP 23 G S f 32 ls (.int (x / y) :: st) h k n) := by rw [wp_s dd_23_31 rfl hs]; rfl
theorem dd_23_32 : decode (mB 23) 32 = .ok (.istore 7, 2) := by decide +kernel
theorem u_23_32 {G : aG} {S : Nat → Bool} {f : Nat} {st : List Value} {ls : aL} {h : aH} {k n : Nat} {x : Int32} (hs : S 32 = false) : WP 23 G S (f + 1) 32 ls (.int x :: st) h k n = (WP 23 G S f 34 (lput1 ls 7 (.int x)) st h k n) := by rw [wp_s dd_23_32 rfl hs]; rfl
theorem dd_23_34 : decode (mB 23) 34 = .ok (.iload_n 2, 1) := by decide +kernel
theorem u_23_34 {G : aG} {S : Nat → Bool} {f : Nat} {st : List Value} {ls : aL} {h : aH} {k n : Nat} (hs : S 34 = false) : WP 23 G S (f + 1) 34 ls st h k n = (oI (lget ls 2) (WP 23 G S f) 35 ls st h k n) := by rw [wp_s dd_23_34 rfl hs]; rfl
theorem dd_23_35 : decode (mB 23) 35 = .ok (.iload 6, 2) := by decide +kernel
theorem u_23_35 {G : aG} {S : Nat → Bool} {f : Nat} {st : List Value} {ls : aL} {h : aH} {k n : Nat} (hs : S 35 = false) : WP 23 G S (f + 1) 35 ls st h k n = (oI (lget ls 6) (WP 23 G S f) 37 ls st h k n) := by rw [wp_s dd_23_35 rfl hs]; rfl
theorem dd_23_37 : decode (mB 23) 37 = .ok (.irem, 1) := by decide +kernel
theorem u_23_37 {G : aG} {S : Nat → Bool} {f : Nat} {st : List Value} {ls : aL} {h : aH} {k n : Nat} {x y : Int32} (hs : S 37 = false) : WP 23 G S (f + 1) 37 ls (.int y :: .int x :: st) h k n = (¬ y = 0 ∧ WP 23 G S f 38 ls (.int (x - x / y * y) :: st) h k n) := by rw [wp_s dd_23_37 rfl hs]; rfl
theorem dd_23_38 : decode (mB 23) 38 = .ok (.istore 8, 2) := by decide +kernel
theorem u_23_38 {G : aG} {S : Nat → Bool} {f : Nat} {st : List Value} {ls : aL} {h : aH} {k n : Nat} {x : Int32} (hs : S 38 = false) : WP 23 G S (f + 1) 38 ls (.int x :: st) h k n = (WP 23 G S f 40 (lput1 ls 8 (.int x)) st h k n) := by rw [wp_s dd_23_38 rfl hs]; rfl
theorem dd_23_40 : decode (mB 23) 40 = .ok (.aload_n 0, 1) := by decide +kernel
theorem u_23_40 {G : aG} {S : Nat → Bool} {f : Nat} {st : List Value} {ls : aL} {h : aH} {k n : Nat} (hs : S 40 = false) : WP 23 G S (f + 1) 40 ls st h k n = (oA (lget ls 0) (WP 23 G S f) 41 ls st h k n) := by rw [wp_s dd_23_40 rfl hs]; rfl
theorem dd_23_41 : decode (mB 23) 41 = .ok (.aload_n 0, 1) := by decide +kernel
theorem u_23_41 {G : aG} {S : Nat → Bool} {f : Nat} {st : List Value} {ls : aL} {h : aH} {k n : Nat} (hs : S 41 = false) : WP 23 G S (f + 1) 41 ls st h k n = (oA (lget ls 0) (WP 23 G S f) 42 ls st h k n) := by rw [wp_s dd_23_41 rfl hs]; rfl
theorem dd_23_42 : decode (mB 23) 42 = .ok (.getfield 18, 3) := by decide +kernel
theorem u_23_42 {G : aG} {S : Nat → Bool} {f : Nat} {st : List Value} {ls : aL} {h : aH} {k n : Nat} {a : Nat} (hs : S 42 = false) : WP 23 G S (f + 1) 42 ls (.ref a :: st) h k n = (oV (fget h a 5 2) (WP 23 G S f) 45 ls st h k n) := by rw [wp_s dd_23_42 rfl hs]; rfl
theorem dd_23_45 : decode (mB 23) 45 = .ok (.iload_n 1, 1) := by decide +kernel
theorem u_23_45 {G : aG} {S : Nat → Bool} {f : Nat} {st : List Value} {ls : aL} {h : aH} {k n : Nat} (hs : S 45 = false) : WP 23 G S (f + 1) 45 ls st h k n = (oI (lget ls 1) (WP 23 G S f) 46 ls st h k n) := by rw [wp_s dd_23_45 rfl hs]; rfl
theorem dd_23_46 : decode (mB 23) 46 = .ok (.iaload, 1) := by decide +kernel
theorem u_23_46 {G : aG} {S : Nat → Bool} {f : Nat} {st : List Value} {ls : aL} {h : aH} {k n : Nat} {i : Int32} {a : Nat} (hs : S 46 = false) : WP 23 G S (f + 1) 46 ls (.int i :: .ref a :: st) h k n = (oIld (iget h a 1) i (WP 23 G S f) 47 ls st h k n) := by rw [wp_s dd_23_46 rfl hs]; rfl
theorem dd_23_47 : decode (mB 23) 47 = .ok (.iload 7, 2) := by decide +kernel
theorem u_23_47 {G : aG} {S : Nat → Bool} {f : Nat} {st : List Value} {ls : aL} {h : aH} {k n : Nat} (hs : S 47 = false) : WP 23 G S (f + 1) 47 ls st h k n = (oI (lget ls 7) (WP 23 G S f) 49 ls st h k n) := by rw [wp_s dd_23_47 rfl hs]; rfl
theorem dd_23_49 : decode (mB 23) 49 = .ok (.iload_n 3, 1) := by decide +kernel
theorem u_23_49 {G : aG} {S : Nat → Bool} {f : Nat} {st : List Value} {ls : aL} {h : aH} {k n : Nat} (hs : S 49 = false) : WP 23 G S (f + 1) 49 ls st h k n = (oI (lget ls 3) (WP 23 G S f) 50 ls st h k n) := by rw [wp_s dd_23_49 rfl hs]; rfl
theorem dd_23_50 : decode (mB 23) 50 = .ok (.iload 6, 2) := by decide +kernel
theorem u_23_50 {G : aG} {S : Nat → Bool} {f : Nat} {st : List Value} {ls : aL} {h : aH} {k n : Nat} (hs : S 50 = false) : WP 23 G S (f + 1) 50 ls st h k n = (oI (lget ls 6) (WP 23 G S f) 52 ls st h k n) := by rw [wp_s dd_23_50 rfl hs]; rfl
theorem dd_23_52 : decode (mB 23) 52 = .ok (.imul, 1) := by decide +kernel
theorem u_23_52 {G : aG} {S : Nat → Bool} {f : Nat} {st : List Value} {ls : aL} {h : aH} {k n : Nat} {x y : Int32} (hs : S 52 = false) : WP 23 G S (f + 1) 52 ls (.int y :: .int x :: st) h k n = (WP 23 G S f 53 ls (.int (x * y) :: st) h k n) := by rw [wp_s dd_23_52 rfl hs]; rfl
theorem dd_23_53 : decode (mB 23) 53 = .ok (.iload 4, 2) := by decide +kernel
theorem u_23_53 {G : aG} {S : Nat → Bool} {f : Nat} {st : List Value} {ls : aL} {h : aH} {k n : Nat} (hs : S 53 = false) : WP 23 G S (f + 1) 53 ls st h k n = (oI (lget ls 4) (WP 23 G S f) 55 ls st h k n) := by rw [wp_s dd_23_53 rfl hs]; rfl
theorem dd_23_55 : decode (mB 23) 55 = .ok (.iload_n 3, 1) := by decide +kernel
theorem u_23_55 {G : aG} {S : Nat → Bool} {f : Nat} {st : List Value} {ls : aL} {h : aH} {k n : Nat} (hs : S 55 = false) : WP 23 G S (f + 1) 55 ls st h k n = (oI (lget ls 3) (WP 23 G S f) 56 ls st h k n) := by rw [wp_s dd_23_55 rfl hs]; rfl
theorem dd_23_56 : decode (mB 23) 56 = .ok (.iload 8, 2) := by decide +kernel
theorem u_23_56 {G : aG} {S : Nat → Bool} {f : Nat} {st : List Value} {ls : aL} {h : aH} {k n : Nat} (hs : S 56 = false) : WP 23 G S (f + 1) 56 ls st h k n = (oI (lget ls 8) (WP 23 G S f) 58 ls st h k n) := by rw [wp_s dd_23_56 rfl hs]; rfl
theorem dd_23_58 : decode (mB 23) 58 = .ok (.imul, 1) := by decide +kernel
theorem u_23_58 {G : aG} {S : Nat → Bool} {f : Nat} {st : List Value} {ls : aL} {h : aH} {k n : Nat} {x y : Int32} (hs : S 58 = false) : WP 23 G S (f + 1) 58 ls (.int y :: .int x :: st) h k n = (WP 23 G S f 59 ls (.int (x * y) :: st) h k n) := by rw [wp_s dd_23_58 rfl hs]; rfl
theorem dd_23_59 : decode (mB 23) 59 = .ok (.iadd, 1) := by decide +kernel
theorem u_23_59 {G : aG} {S : Nat → Bool} {f : Nat} {st : List Value} {ls : aL} {h : aH} {k n : Nat} {x y : Int32} (hs : S 59 = false) : WP 23 G S (f + 1) 59 ls (.int y :: .int x :: st) h k n = (WP 23 G S f 60 ls (.int (x + y) :: st) h k n) := by rw [wp_s dd_23_59 rfl hs]; rfl
theorem dd_23_60 : decode (mB 23) 60 = .ok (.invokevirtual 69, 3) := by decide +kernel
theorem u_23_60 {G : aG} {S : Nat → Bool} {f : Nat} {st : List Value} {ls : aL} {h : aH} {k n : Nat} {v1 v2 v3 v4 : Value} {b : Nat} (hs : S 60 = false) : WP 23 G S (f + 1) 60 ls (v4 :: v3 :: v2 :: v1 :: .ref b :: st) h k n = (rcv (hget h b) 5 ∧ CAL G (WP 23 G S f) 19 [.ref b, v1, v2, v3, v4] 63 ls st h k n) := by rw [wp_s dd_23_60 rfl hs]; rfl
theorem dd_23_63 : decode (mB 23) 63 = .ok (.aload_n 0, 1) := by decide +kernel
theorem u_23_63 {G : aG} {S : Nat → Bool} {f : Nat} {st : List Value} {ls : aL} {h : aH} {k n : Nat} (hs : S 63 = false) : WP 23 G S (f + 1) 63 ls st h k n = (oA (lget ls 0) (WP 23 G S f) 64 ls st h k n) := by rw [wp_s dd_23_63 rfl hs]; rfl
theorem dd_23_64 : decode (mB 23) 64 = .ok (.iload 5, 2) := by decide +kernel
theorem u_23_64 {G : aG} {S : Nat → Bool} {f : Nat} {st : List Value} {ls : aL} {h : aH} {k n : Nat} (hs : S 64 = false) : WP 23 G S (f + 1) 64 ls st h k n = (oI (lget ls 5) (WP 23 G S f) 66 ls st h k n) := by rw [wp_s dd_23_64 rfl hs]; rfl
theorem dd_23_66 : decode (mB 23) 66 = .ok (.iload 8, 2) := by decide +kernel
theorem u_23_66 {G : aG} {S : Nat → Bool} {f : Nat} {st : List Value} {ls : aL} {h : aH} {k n : Nat} (hs : S 66 = false) : WP 23 G S (f + 1) 66 ls st h k n = (oI (lget ls 8) (WP 23 G S f) 68 ls st h k n) := by rw [wp_s dd_23_66 rfl hs]; rfl
theorem dd_23_68 : decode (mB 23) 68 = .ok (.iload_n 3, 1) := by decide +kernel
theorem u_23_68 {G : aG} {S : Nat → Bool} {f : Nat} {st : List Value} {ls : aL} {h : aH} {k n : Nat} (hs : S 68 = false) : WP 23 G S (f + 1) 68 ls st h k n = (oI (lget ls 3) (WP 23 G S f) 69 ls st h k n) := by rw [wp_s dd_23_68 rfl hs]; rfl
theorem dd_23_69 : decode (mB 23) 69 = .ok (.iload 4, 2) := by decide +kernel
theorem u_23_69 {G : aG} {S : Nat → Bool} {f : Nat} {st : List Value} {ls : aL} {h : aH} {k n : Nat} (hs : S 69 = false) : WP 23 G S (f + 1) 69 ls st h k n = (oI (lget ls 4) (WP 23 G S f) 71 ls st h k n) := by rw [wp_s dd_23_69 rfl hs]; rfl
theorem dd_23_71 : decode (mB 23) 71 = .ok (.iload_n 3, 1) := by decide +kernel
theorem u_23_71 {G : aG} {S : Nat → Bool} {f : Nat} {st : List Value} {ls : aL} {h : aH} {k n : Nat} (hs : S 71 = false) : WP 23 G S (f + 1) 71 ls st h k n = (oI (lget ls 3) (WP 23 G S f) 72 ls st h k n) := by rw [wp_s dd_23_71 rfl hs]; rfl
theorem dd_23_72 : decode (mB 23) 72 = .ok (.iload 7, 2) := by decide +kernel
theorem u_23_72 {G : aG} {S : Nat → Bool} {f : Nat} {st : List Value} {ls : aL} {h : aH} {k n : Nat} (hs : S 72 = false) : WP 23 G S (f + 1) 72 ls st h k n = (oI (lget ls 7) (WP 23 G S f) 74 ls st h k n) := by rw [wp_s dd_23_72 rfl hs]; rfl
theorem dd_23_74 : decode (mB 23) 74 = .ok (.imul, 1) := by decide +kernel
theorem u_23_74 {G : aG} {S : Nat → Bool} {f : Nat} {st : List Value} {ls : aL} {h : aH} {k n : Nat} {x y : Int32} (hs : S 74 = false) : WP 23 G S (f + 1) 74 ls (.int y :: .int x :: st) h k n = (WP 23 G S f 75 ls (.int (x * y) :: st) h k n) := by rw [wp_s dd_23_74 rfl hs]; rfl
theorem dd_23_75 : decode (mB 23) 75 = .ok (.iload 6, 2) := by decide +kernel
theorem u_23_75 {G : aG} {S : Nat → Bool} {f : Nat} {st : List Value} {ls : aL} {h : aH} {k n : Nat} (hs : S 75 = false) : WP 23 G S (f + 1) 75 ls st h k n = (oI (lget ls 6) (WP 23 G S f) 77 ls st h k n) := by rw [wp_s dd_23_75 rfl hs]; rfl
theorem dd_23_77 : decode (mB 23) 77 = .ok (.imul, 1) := by decide +kernel
theorem u_23_77 {G : aG} {S : Nat → Bool} {f : Nat} {st : List Value} {ls : aL} {h : aH} {k n : Nat} {x y : Int32} (hs : S 77 = false) : WP 23 G S (f + 1) 77 ls (.int y :: .int x :: st) h k n = (WP 23 G S f 78 ls (.int (x * y) :: st) h k n) := by rw [wp_s dd_23_77 rfl hs]; rfl
theorem dd_23_78 : decode (mB 23) 78 = .ok (.iadd, 1) := by decide +kernel
theorem u_23_78 {G : aG} {S : Nat → Bool} {f : Nat} {st : List Value} {ls : aL} {h : aH} {k n : Nat} {x y : Int32} (hs : S 78 = false) : WP 23 G S (f + 1) 78 ls (.int y :: .int x :: st) h k n = (WP 23 G S f 79 ls (.int (x + y) :: st) h k n) := by rw [wp_s dd_23_78 rfl hs]; rfl
theorem dd_23_79 : decode (mB 23) 79 = .ok (.invokevirtual 69, 3) := by decide +kernel
theorem u_23_79 {G : aG} {S : Nat → Bool} {f : Nat} {st : List Value} {ls : aL} {h : aH} {k n : Nat} {v1 v2 v3 v4 : Value} {b : Nat} (hs : S 79 = false) : WP 23 G S (f + 1) 79 ls (v4 :: v3 :: v2 :: v1 :: .ref b :: st) h k n = (rcv (hget h b) 5 ∧ CAL G (WP 23 G S f) 19 [.ref b, v1, v2, v3, v4] 82 ls st h k n) := by rw [wp_s dd_23_79 rfl hs]; rfl
theorem dd_23_82 : decode (mB 23) 82 = .ok (.return_, 1) := by decide +kernel
theorem u_23_82 {G : aG} {S : Nat → Bool} {f : Nat} {ls : aL} {h : aH} {k n : Nat} (hs : S 82 = false) : WP 23 G S (f + 1) 82 ls [] h k n = (RET G none h k n) := by rw [wp_s dd_23_82 rfl hs]; rfl
theorem dd_24_0 : decode (mB 24) 0 = .ok (.iload_n 1, 1) := by decide +kernel
theorem u_24_0 {G : aG} {S : Nat → Bool} {f : Nat} {st : List Value} {ls : aL} {h : aH} {k n : Nat} (hs : S 0 = false) : WP 24 G S (f + 1) 0 ls st h k n = (oI (lget ls 1) (WP 24 G S f) 1 ls st h k n) := by rw [wp_s dd_24_0 rfl hs]; rfl
theorem dd_24_1 : decode (mB 24) 1 = .ok (.iconst 1, 1) := by decide +kernel
theorem u_24_1 {G : aG} {S : Nat → Bool} {f : Nat} {st : List Value} {ls : aL} {h : aH} {k n : Nat} (hs : S 1 = false) : WP 24 G S (f + 1) 1 ls st h k n = (WP 24 G S f 2 ls (.int (nI 1) :: st) h k n) := by rw [wp_s dd_24_1 rfl hs]; rfl
theorem dd_24_2 : decode (mB 24) 2 = .ok (.isub, 1) := by decide +kernel
theorem u_24_2 {G : aG} {S : Nat → Bool} {f : Nat} {st : List Value} {ls : aL} {h : aH} {k n : Nat} {x y : Int32} (hs : S 2 = false) : WP 24 G S (f + 1) 2 ls (.int y :: .int x :: st) h k n = (WP 24 G S f 3 ls (.int (x - y) :: st) h k n) := by rw [wp_s dd_24_2 rfl hs]; rfl
theorem dd_24_3 : decode (mB 24) 3 = .ok (.istore 5, 2) := by decide +kernel
theorem u_24_3 {G : aG} {S : Nat → Bool} {f : Nat} {st : List Value} {ls : aL} {h : aH} {k n : Nat} {x : Int32} (hs : S 3 = false) : WP 24 G S (f + 1) 3 ls (.int x :: st) h k n = (WP 24 G S f 5 (lput1 ls 5 (.int x)) st h k n) := by rw [wp_s dd_24_3 rfl hs]; rfl
theorem dd_24_5 : decode (mB 24) 5 = .ok (.aload_n 0, 1) := by decide +kernel
theorem u_24_5 {G : aG} {S : Nat → Bool} {f : Nat} {st : List Value} {ls : aL} {h : aH} {k n : Nat} (hs : S 5 = false) : WP 24 G S (f + 1) 5 ls st h k n = (oA (lget ls 0) (WP 24 G S f) 6 ls st h k n) := by rw [wp_s dd_24_5 rfl hs]; rfl
theorem dd_24_6 : decode (mB 24) 6 = .ok (.getfield 18, 3) := by decide +kernel
theorem u_24_6 {G : aG} {S : Nat → Bool} {f : Nat} {st : List Value} {ls : aL} {h : aH} {k n : Nat} {a : Nat} (hs : S 6 = false) : WP 24 G S (f + 1) 6 ls (.ref a :: st) h k n = (oV (fget h a 5 2) (WP 24 G S f) 9 ls st h k n) := by rw [wp_s dd_24_6 rfl hs]; rfl
theorem dd_24_9 : decode (mB 24) 9 = .ok (.iload_n 1, 1) := by decide +kernel
theorem u_24_9 {G : aG} {S : Nat → Bool} {f : Nat} {st : List Value} {ls : aL} {h : aH} {k n : Nat} (hs : S 9 = false) : WP 24 G S (f + 1) 9 ls st h k n = (oI (lget ls 1) (WP 24 G S f) 10 ls st h k n) := by rw [wp_s dd_24_9 rfl hs]; rfl
theorem dd_24_10 : decode (mB 24) 10 = .ok (.iaload, 1) := by decide +kernel
theorem u_24_10 {G : aG} {S : Nat → Bool} {f : Nat} {st : List Value} {ls : aL} {h : aH} {k n : Nat} {i : Int32} {a : Nat} (hs : S 10 = false) : WP 24 G S (f + 1) 10 ls (.int i :: .ref a :: st) h k n = (oIld (iget h a 1) i (WP 24 G S f) 11 ls st h k n) := by rw [wp_s dd_24_10 rfl hs]; rfl
theorem dd_24_11 : decode (mB 24) 11 = .ok (.istore 6, 2) := by decide +kernel
theorem u_24_11 {G : aG} {S : Nat → Bool} {f : Nat} {st : List Value} {ls : aL} {h : aH} {k n : Nat} {x : Int32} (hs : S 11 = false) : WP 24 G S (f + 1) 11 ls (.int x :: st) h k n = (WP 24 G S f 13 (lput1 ls 6 (.int x)) st h k n) := by rw [wp_s dd_24_11 rfl hs]; rfl
theorem dd_24_13 : decode (mB 24) 13 = .ok (.iload 6, 2) := by decide +kernel
theorem u_24_13 {G : aG} {S : Nat → Bool} {f : Nat} {st : List Value} {ls : aL} {h : aH} {k n : Nat} (hs : S 13 = false) : WP 24 G S (f + 1) 13 ls st h k n = (oI (lget ls 6) (WP 24 G S f) 15 ls st h k n) := by rw [wp_s dd_24_13 rfl hs]; rfl
theorem dd_24_15 : decode (mB 24) 15 = .ok (.ifCond .ge 4, 3) := by decide +kernel
theorem u_24_15 {G : aG} {S : Nat → Bool} {f : Nat} {st : List Value} {ls : aL} {h : aH} {k n : Nat} {x : Int32} (hs : S 15 = false) : WP 24 G S (f + 1) 15 ls (.int x :: st) h k n = (if nI 0 ≤ x then WP 24 G S f 19 ls st h k n else WP 24 G S f 18 ls st h k n) := by rw [wp_s dd_24_15 rfl hs]; exact br_ite (c := nI 0 ≤ x)
theorem dd_24_18 : decode (mB 24) 18 = .ok (.return_, 1) := by decide +kernel
theorem u_24_18 {G : aG} {S : Nat → Bool} {f : Nat} {ls : aL} {h : aH} {k n : Nat} (hs : S 18 = false) : WP 24 G S (f + 1) 18 ls [] h k n = (RET G none h k n) := by rw [wp_s dd_24_18 rfl hs]; rfl
theorem dd_24_19 : decode (mB 24) 19 = .ok (.iload 4, 2) := by decide +kernel
theorem u_24_19 {G : aG} {S : Nat → Bool} {f : Nat} {st : List Value} {ls : aL} {h : aH} {k n : Nat} (hs : S 19 = false) : WP 24 G S (f + 1) 19 ls st h k n = (oI (lget ls 4) (WP 24 G S f) 21 ls st h k n) := by rw [wp_s dd_24_19 rfl hs]; rfl
theorem dd_24_21 : decode (mB 24) 21 = .ok (.iload_n 3, 1) := by decide +kernel
theorem u_24_21 {G : aG} {S : Nat → Bool} {f : Nat} {st : List Value} {ls : aL} {h : aH} {k n : Nat} (hs : S 21 = false) : WP 24 G S (f + 1) 21 ls st h k n = (oI (lget ls 3) (WP 24 G S f) 22 ls st h k n) := by rw [wp_s dd_24_21 rfl hs]; rfl
theorem dd_24_22 : decode (mB 24) 22 = .ok (.aload_n 0, 1) := by decide +kernel
theorem u_24_22 {G : aG} {S : Nat → Bool} {f : Nat} {st : List Value} {ls : aL} {h : aH} {k n : Nat} (hs : S 22 = false) : WP 24 G S (f + 1) 22 ls st h k n = (oA (lget ls 0) (WP 24 G S f) 23 ls st h k n) := by rw [wp_s dd_24_22 rfl hs]; rfl
theorem dd_24_23 : decode (mB 24) 23 = .ok (.getfield 21, 3) := by decide +kernel
theorem u_24_23 {G : aG} {S : Nat → Bool} {f : Nat} {st : List Value} {ls : aL} {h : aH} {k n : Nat} {a : Nat} (hs : S 23 = false) : WP 24 G S (f + 1) 23 ls (.ref a :: st) h k n = (oV (fget h a 5 3) (WP 24 G S f) 26 ls st h k n) := by rw [wp_s dd_24_23 rfl hs]; rfl
theorem dd_24_26 : decode (mB 24) 26 = .ok (.iload 6, 2) := by decide +kernel
theorem u_24_26 {G : aG} {S : Nat → Bool} {f : Nat} {st : List Value} {ls : aL} {h : aH} {k n : Nat} (hs : S 26 = false) : WP 24 G S (f + 1) 26 ls st h k n = (oI (lget ls 6) (WP 24 G S f) 28 ls st h k n) := by rw [wp_s dd_24_26 rfl hs]; rfl
theorem dd_24_28 : decode (mB 24) 28 = .ok (.iaload, 1) := by decide +kernel
theorem u_24_28 {G : aG} {S : Nat → Bool} {f : Nat} {st : List Value} {ls : aL} {h : aH} {k n : Nat} {i : Int32} {a : Nat} (hs : S 28 = false) : WP 24 G S (f + 1) 28 ls (.int i :: .ref a :: st) h k n = (oIld (iget h a 1) i (WP 24 G S f) 29 ls st h k n) := by rw [wp_s dd_24_28 rfl hs]; rfl
theorem dd_24_29 : decode (mB 24) 29 = .ok (.iconst 1, 1) := by decide +kernel
theorem u_24_29 {G : aG} {S : Nat → Bool} {f : Nat} {st : List Value} {ls : aL} {h : aH} {k n : Nat} (hs : S 29 = false) : WP 24 G S (f + 1) 29 ls st h k n = (WP 24 G S f 30 ls (.int (nI 1) :: st) h k n) := by rw [wp_s dd_24_29 rfl hs]; rfl
theorem dd_24_30 : decode (mB 24) 30 = .ok (.isub, 1) := by decide +kernel
theorem u_24_30 {G : aG} {S : Nat → Bool} {f : Nat} {st : List Value} {ls : aL} {h : aH} {k n : Nat} {x y : Int32} (hs : S 30 = false) : WP 24 G S (f + 1) 30 ls (.int y :: .int x :: st) h k n = (WP 24 G S f 31 ls (.int (x - y) :: st) h k n) := by rw [wp_s dd_24_30 rfl hs]; rfl
theorem dd_24_31 : decode (mB 24) 31 = .ok (.imul, 1) := by decide +kernel
theorem u_24_31 {G : aG} {S : Nat → Bool} {f : Nat} {st : List Value} {ls : aL} {h : aH} {k n : Nat} {x y : Int32} (hs : S 31 = false) : WP 24 G S (f + 1) 31 ls (.int y :: .int x :: st) h k n = (WP 24 G S f 32 ls (.int (x * y) :: st) h k n) := by rw [wp_s dd_24_31 rfl hs]; rfl
theorem dd_24_32 : decode (mB 24) 32 = .ok (.iadd, 1) := by decide +kernel
theorem u_24_32 {G : aG} {S : Nat → Bool} {f : Nat} {st : List Value} {ls : aL} {h : aH} {k n : Nat} {x y : Int32} (hs : S 32 = false) : WP 24 G S (f + 1) 32 ls (.int y :: .int x :: st) h k n = (WP 24 G S f 33 ls (.int (x + y) :: st) h k n) := by rw [wp_s dd_24_32 rfl hs]; rfl
theorem dd_24_33 : decode (mB 24) 33 = .ok (.istore 7, 2) := by decide +kernel
theorem u_24_33 {G : aG} {S : Nat → Bool} {f : Nat} {st : List Value} {ls : aL} {h : aH} {k n : Nat} {x : Int32} (hs : S 33 = false) : WP 24 G S (f + 1) 33 ls (.int x :: st) h k n = (WP 24 G S f 35 (lput1 ls 7 (.int x)) st h k n) := by rw [wp_s dd_24_33 rfl hs]; rfl
theorem dd_24_35 : decode (mB 24) 35 = .ok (.iload_n 2, 1) := by decide +kernel
theorem u_24_35 {G : aG} {S : Nat → Bool} {f : Nat} {st : List Value} {ls : aL} {h : aH} {k n : Nat} (hs : S 35 = false) : WP 24 G S (f + 1) 35 ls st h k n = (oI (lget ls 2) (WP 24 G S f) 36 ls st h k n) := by rw [wp_s dd_24_35 rfl hs]; rfl
theorem dd_24_36 : decode (mB 24) 36 = .ok (.aload_n 0, 1) := by decide +kernel
theorem u_24_36 {G : aG} {S : Nat → Bool} {f : Nat} {st : List Value} {ls : aL} {h : aH} {k n : Nat} (hs : S 36 = false) : WP 24 G S (f + 1) 36 ls st h k n = (oA (lget ls 0) (WP 24 G S f) 37 ls st h k n) := by rw [wp_s dd_24_36 rfl hs]; rfl
theorem dd_24_37 : decode (mB 24) 37 = .ok (.getfield 21, 3) := by decide +kernel
theorem u_24_37 {G : aG} {S : Nat → Bool} {f : Nat} {st : List Value} {ls : aL} {h : aH} {k n : Nat} {a : Nat} (hs : S 37 = false) : WP 24 G S (f + 1) 37 ls (.ref a :: st) h k n = (oV (fget h a 5 3) (WP 24 G S f) 40 ls st h k n) := by rw [wp_s dd_24_37 rfl hs]; rfl
theorem dd_24_40 : decode (mB 24) 40 = .ok (.iload 6, 2) := by decide +kernel
theorem u_24_40 {G : aG} {S : Nat → Bool} {f : Nat} {st : List Value} {ls : aL} {h : aH} {k n : Nat} (hs : S 40 = false) : WP 24 G S (f + 1) 40 ls st h k n = (oI (lget ls 6) (WP 24 G S f) 42 ls st h k n) := by rw [wp_s dd_24_40 rfl hs]; rfl
theorem dd_24_42 : decode (mB 24) 42 = .ok (.iaload, 1) := by decide +kernel
theorem u_24_42 {G : aG} {S : Nat → Bool} {f : Nat} {st : List Value} {ls : aL} {h : aH} {k n : Nat} {i : Int32} {a : Nat} (hs : S 42 = false) : WP 24 G S (f + 1) 42 ls (.int i :: .ref a :: st) h k n = (oIld (iget h a 1) i (WP 24 G S f) 43 ls st h k n) := by rw [wp_s dd_24_42 rfl hs]; rfl
theorem dd_24_43 : decode (mB 24) 43 = .ok (.if_icmp .lt 24, 3) := by decide +kernel
theorem u_24_43 {G : aG} {S : Nat → Bool} {f : Nat} {st : List Value} {ls : aL} {h : aH} {k n : Nat} {x y : Int32} (hs : S 43 = false) : WP 24 G S (f + 1) 43 ls (.int y :: .int x :: st) h k n = (if x < y then WP 24 G S f 67 ls st h k n else WP 24 G S f 46 ls st h k n) := by rw [wp_s dd_24_43 rfl hs]; exact br_ite (c := x < y)
theorem dd_24_46 : decode (mB 24) 46 = .ok (.aload_n 0, 1) := by decide +kernel
theorem u_24_46 {G : aG} {S : Nat → Bool} {f : Nat} {st : List Value} {ls : aL} {h : aH} {k n : Nat} (hs : S 46 = false) : WP 24 G S (f + 1) 46 ls st h k n = (oA (lget ls 0) (WP 24 G S f) 47 ls st h k n) := by rw [wp_s dd_24_46 rfl hs]; rfl
theorem dd_24_47 : decode (mB 24) 47 = .ok (.iload 5, 2) := by decide +kernel
theorem u_24_47 {G : aG} {S : Nat → Bool} {f : Nat} {st : List Value} {ls : aL} {h : aH} {k n : Nat} (hs : S 47 = false) : WP 24 G S (f + 1) 47 ls st h k n = (oI (lget ls 5) (WP 24 G S f) 49 ls st h k n) := by rw [wp_s dd_24_47 rfl hs]; rfl
theorem dd_24_49 : decode (mB 24) 49 = .ok (.iload_n 2, 1) := by decide +kernel
theorem u_24_49 {G : aG} {S : Nat → Bool} {f : Nat} {st : List Value} {ls : aL} {h : aH} {k n : Nat} (hs : S 49 = false) : WP 24 G S (f + 1) 49 ls st h k n = (oI (lget ls 2) (WP 24 G S f) 50 ls st h k n) := by rw [wp_s dd_24_49 rfl hs]; rfl
theorem dd_24_50 : decode (mB 24) 50 = .ok (.aload_n 0, 1) := by decide +kernel
theorem u_24_50 {G : aG} {S : Nat → Bool} {f : Nat} {st : List Value} {ls : aL} {h : aH} {k n : Nat} (hs : S 50 = false) : WP 24 G S (f + 1) 50 ls st h k n = (oA (lget ls 0) (WP 24 G S f) 51 ls st h k n) := by rw [wp_s dd_24_50 rfl hs]; rfl
theorem dd_24_51 : decode (mB 24) 51 = .ok (.getfield 21, 3) := by decide +kernel
theorem u_24_51 {G : aG} {S : Nat → Bool} {f : Nat} {st : List Value} {ls : aL} {h : aH} {k n : Nat} {a : Nat} (hs : S 51 = false) : WP 24 G S (f + 1) 51 ls (.ref a :: st) h k n = (oV (fget h a 5 3) (WP 24 G S f) 54 ls st h k n) := by rw [wp_s dd_24_51 rfl hs]; rfl
theorem dd_24_54 : decode (mB 24) 54 = .ok (.iload 6, 2) := by decide +kernel
theorem u_24_54 {G : aG} {S : Nat → Bool} {f : Nat} {st : List Value} {ls : aL} {h : aH} {k n : Nat} (hs : S 54 = false) : WP 24 G S (f + 1) 54 ls st h k n = (oI (lget ls 6) (WP 24 G S f) 56 ls st h k n) := by rw [wp_s dd_24_54 rfl hs]; rfl
theorem dd_24_56 : decode (mB 24) 56 = .ok (.iaload, 1) := by decide +kernel
theorem u_24_56 {G : aG} {S : Nat → Bool} {f : Nat} {st : List Value} {ls : aL} {h : aH} {k n : Nat} {i : Int32} {a : Nat} (hs : S 56 = false) : WP 24 G S (f + 1) 56 ls (.int i :: .ref a :: st) h k n = (oIld (iget h a 1) i (WP 24 G S f) 57 ls st h k n) := by rw [wp_s dd_24_56 rfl hs]; rfl
theorem dd_24_57 : decode (mB 24) 57 = .ok (.isub, 1) := by decide +kernel
theorem u_24_57 {G : aG} {S : Nat → Bool} {f : Nat} {st : List Value} {ls : aL} {h : aH} {k n : Nat} {x y : Int32} (hs : S 57 = false) : WP 24 G S (f + 1) 57 ls (.int y :: .int x :: st) h k n = (WP 24 G S f 58 ls (.int (x - y) :: st) h k n) := by rw [wp_s dd_24_57 rfl hs]; rfl
theorem dd_24_58 : decode (mB 24) 58 = .ok (.iconst 1, 1) := by decide +kernel
theorem u_24_58 {G : aG} {S : Nat → Bool} {f : Nat} {st : List Value} {ls : aL} {h : aH} {k n : Nat} (hs : S 58 = false) : WP 24 G S (f + 1) 58 ls st h k n = (WP 24 G S f 59 ls (.int (nI 1) :: st) h k n) := by rw [wp_s dd_24_58 rfl hs]; rfl
theorem dd_24_59 : decode (mB 24) 59 = .ok (.iadd, 1) := by decide +kernel
theorem u_24_59 {G : aG} {S : Nat → Bool} {f : Nat} {st : List Value} {ls : aL} {h : aH} {k n : Nat} {x y : Int32} (hs : S 59 = false) : WP 24 G S (f + 1) 59 ls (.int y :: .int x :: st) h k n = (WP 24 G S f 60 ls (.int (x + y) :: st) h k n) := by rw [wp_s dd_24_59 rfl hs]; rfl
theorem dd_24_60 : decode (mB 24) 60 = .ok (.iload_n 3, 1) := by decide +kernel
theorem u_24_60 {G : aG} {S : Nat → Bool} {f : Nat} {st : List Value} {ls : aL} {h : aH} {k n : Nat} (hs : S 60 = false) : WP 24 G S (f + 1) 60 ls st h k n = (oI (lget ls 3) (WP 24 G S f) 61 ls st h k n) := by rw [wp_s dd_24_60 rfl hs]; rfl
theorem dd_24_61 : decode (mB 24) 61 = .ok (.iload 7, 2) := by decide +kernel
theorem u_24_61 {G : aG} {S : Nat → Bool} {f : Nat} {st : List Value} {ls : aL} {h : aH} {k n : Nat} (hs : S 61 = false) : WP 24 G S (f + 1) 61 ls st h k n = (oI (lget ls 7) (WP 24 G S f) 63 ls st h k n) := by rw [wp_s dd_24_61 rfl hs]; rfl
theorem dd_24_63 : decode (mB 24) 63 = .ok (.invokevirtual 69, 3) := by decide +kernel
theorem u_24_63 {G : aG} {S : Nat → Bool} {f : Nat} {st : List Value} {ls : aL} {h : aH} {k n : Nat} {v1 v2 v3 v4 : Value} {b : Nat} (hs : S 63 = false) : WP 24 G S (f + 1) 63 ls (v4 :: v3 :: v2 :: v1 :: .ref b :: st) h k n = (rcv (hget h b) 5 ∧ CAL G (WP 24 G S f) 19 [.ref b, v1, v2, v3, v4] 66 ls st h k n) := by rw [wp_s dd_24_63 rfl hs]; rfl
theorem dd_24_66 : decode (mB 24) 66 = .ok (.return_, 1) := by decide +kernel
theorem u_24_66 {G : aG} {S : Nat → Bool} {f : Nat} {ls : aL} {h : aH} {k n : Nat} (hs : S 66 = false) : WP 24 G S (f + 1) 66 ls [] h k n = (RET G none h k n) := by rw [wp_s dd_24_66 rfl hs]; rfl
theorem dd_24_67 : decode (mB 24) 67 = .ok (.aload_n 0, 1) := by decide +kernel
theorem u_24_67 {G : aG} {S : Nat → Bool} {f : Nat} {st : List Value} {ls : aL} {h : aH} {k n : Nat} (hs : S 67 = false) : WP 24 G S (f + 1) 67 ls st h k n = (oA (lget ls 0) (WP 24 G S f) 68 ls st h k n) := by rw [wp_s dd_24_67 rfl hs]; rfl
theorem dd_24_68 : decode (mB 24) 68 = .ok (.iload 6, 2) := by decide +kernel
theorem u_24_68 {G : aG} {S : Nat → Bool} {f : Nat} {st : List Value} {ls : aL} {h : aH} {k n : Nat} (hs : S 68 = false) : WP 24 G S (f + 1) 68 ls st h k n = (oI (lget ls 6) (WP 24 G S f) 70 ls st h k n) := by rw [wp_s dd_24_68 rfl hs]; rfl
theorem dd_24_70 : decode (mB 24) 70 = .ok (.iload_n 2, 1) := by decide +kernel
theorem u_24_70 {G : aG} {S : Nat → Bool} {f : Nat} {st : List Value} {ls : aL} {h : aH} {k n : Nat} (hs : S 70 = false) : WP 24 G S (f + 1) 70 ls st h k n = (oI (lget ls 2) (WP 24 G S f) 71 ls st h k n) := by rw [wp_s dd_24_70 rfl hs]; rfl
theorem dd_24_71 : decode (mB 24) 71 = .ok (.iload_n 3, 1) := by decide +kernel
theorem u_24_71 {G : aG} {S : Nat → Bool} {f : Nat} {st : List Value} {ls : aL} {h : aH} {k n : Nat} (hs : S 71 = false) : WP 24 G S (f + 1) 71 ls st h k n = (oI (lget ls 3) (WP 24 G S f) 72 ls st h k n) := by rw [wp_s dd_24_71 rfl hs]; rfl
theorem dd_24_72 : decode (mB 24) 72 = .ok (.iload 4, 2) := by decide +kernel
theorem u_24_72 {G : aG} {S : Nat → Bool} {f : Nat} {st : List Value} {ls : aL} {h : aH} {k n : Nat} (hs : S 72 = false) : WP 24 G S (f + 1) 72 ls st h k n = (oI (lget ls 4) (WP 24 G S f) 74 ls st h k n) := by rw [wp_s dd_24_72 rfl hs]; rfl
theorem dd_24_74 : decode (mB 24) 74 = .ok (.invokevirtual 69, 3) := by decide +kernel
theorem u_24_74 {G : aG} {S : Nat → Bool} {f : Nat} {st : List Value} {ls : aL} {h : aH} {k n : Nat} {v1 v2 v3 v4 : Value} {b : Nat} (hs : S 74 = false) : WP 24 G S (f + 1) 74 ls (v4 :: v3 :: v2 :: v1 :: .ref b :: st) h k n = (rcv (hget h b) 5 ∧ CAL G (WP 24 G S f) 19 [.ref b, v1, v2, v3, v4] 77 ls st h k n) := by rw [wp_s dd_24_74 rfl hs]; rfl
theorem dd_24_77 : decode (mB 24) 77 = .ok (.aload_n 0, 1) := by decide +kernel
theorem u_24_77 {G : aG} {S : Nat → Bool} {f : Nat} {st : List Value} {ls : aL} {h : aH} {k n : Nat} (hs : S 77 = false) : WP 24 G S (f + 1) 77 ls st h k n = (oA (lget ls 0) (WP 24 G S f) 78 ls st h k n) := by rw [wp_s dd_24_77 rfl hs]; rfl
theorem dd_24_78 : decode (mB 24) 78 = .ok (.getfield 9, 3) := by decide +kernel
theorem u_24_78 {G : aG} {S : Nat → Bool} {f : Nat} {st : List Value} {ls : aL} {h : aH} {k n : Nat} {a : Nat} (hs : S 78 = false) : WP 24 G S (f + 1) 78 ls (.ref a :: st) h k n = (oV (fget h a 5 0) (WP 24 G S f) 81 ls st h k n) := by rw [wp_s dd_24_78 rfl hs]; rfl
theorem dd_24_81 : decode (mB 24) 81 = .ok (.iload_n 1, 1) := by decide +kernel
theorem u_24_81 {G : aG} {S : Nat → Bool} {f : Nat} {st : List Value} {ls : aL} {h : aH} {k n : Nat} (hs : S 81 = false) : WP 24 G S (f + 1) 81 ls st h k n = (oI (lget ls 1) (WP 24 G S f) 82 ls st h k n) := by rw [wp_s dd_24_81 rfl hs]; rfl
theorem dd_24_82 : decode (mB 24) 82 = .ok (.iaload, 1) := by decide +kernel
theorem u_24_82 {G : aG} {S : Nat → Bool} {f : Nat} {st : List Value} {ls : aL} {h : aH} {k n : Nat} {i : Int32} {a : Nat} (hs : S 82 = false) : WP 24 G S (f + 1) 82 ls (.int i :: .ref a :: st) h k n = (oIld (iget h a 1) i (WP 24 G S f) 83 ls st h k n) := by rw [wp_s dd_24_82 rfl hs]; rfl
theorem dd_24_83 : decode (mB 24) 83 = .ok (.bipush 12, 2) := by decide +kernel
theorem u_24_83 {G : aG} {S : Nat → Bool} {f : Nat} {st : List Value} {ls : aL} {h : aH} {k n : Nat} (hs : S 83 = false) : WP 24 G S (f + 1) 83 ls st h k n = (WP 24 G S f 85 ls (.int (nI 12) :: st) h k n) := by rw [wp_s dd_24_83 rfl hs]; rfl
theorem dd_24_85 : decode (mB 24) 85 = .ok (.if_icmp .ne 16, 3) := by decide +kernel
theorem u_24_85 {G : aG} {S : Nat → Bool} {f : Nat} {st : List Value} {ls : aL} {h : aH} {k n : Nat} {x y : Int32} (hs : S 85 = false) : WP 24 G S (f + 1) 85 ls (.int y :: .int x :: st) h k n = (if x = y then WP 24 G S f 88 ls st h k n else WP 24 G S f 101 ls st h k n) := by rw [wp_s dd_24_85 rfl hs]; exact br_iten (c := x = y)
theorem dd_24_88 : decode (mB 24) 88 = .ok (.aload_n 0, 1) := by decide +kernel
theorem u_24_88 {G : aG} {S : Nat → Bool} {f : Nat} {st : List Value} {ls : aL} {h : aH} {k n : Nat} (hs : S 88 = false) : WP 24 G S (f + 1) 88 ls st h k n = (oA (lget ls 0) (WP 24 G S f) 89 ls st h k n) := by rw [wp_s dd_24_88 rfl hs]; rfl
theorem dd_24_89 : decode (mB 24) 89 = .ok (.iload 6, 2) := by decide +kernel
theorem u_24_89 {G : aG} {S : Nat → Bool} {f : Nat} {st : List Value} {ls : aL} {h : aH} {k n : Nat} (hs : S 89 = false) : WP 24 G S (f + 1) 89 ls st h k n = (oI (lget ls 6) (WP 24 G S f) 91 ls st h k n) := by rw [wp_s dd_24_89 rfl hs]; rfl
theorem dd_24_91 : decode (mB 24) 91 = .ok (.iload_n 2, 1) := by decide +kernel
theorem u_24_91 {G : aG} {S : Nat → Bool} {f : Nat} {st : List Value} {ls : aL} {h : aH} {k n : Nat} (hs : S 91 = false) : WP 24 G S (f + 1) 91 ls st h k n = (oI (lget ls 2) (WP 24 G S f) 92 ls st h k n) := by rw [wp_s dd_24_91 rfl hs]; rfl
theorem dd_24_92 : decode (mB 24) 92 = .ok (.invokevirtual 59, 3) := by decide +kernel
theorem u_24_92 {G : aG} {S : Nat → Bool} {f : Nat} {st : List Value} {ls : aL} {h : aH} {k n : Nat} {v1 v2 : Value} {b : Nat} (hs : S 92 = false) : WP 24 G S (f + 1) 92 ls (v2 :: v1 :: .ref b :: st) h k n = (rcv (hget h b) 5 ∧ CAL G (WP 24 G S f) 17 [.ref b, v1, v2] 95 ls st h k n) := by rw [wp_s dd_24_92 rfl hs]; rfl
theorem dd_24_95 : decode (mB 24) 95 = .ok (.ifCond .eq 20, 3) := by decide +kernel
theorem u_24_95 {G : aG} {S : Nat → Bool} {f : Nat} {st : List Value} {ls : aL} {h : aH} {k n : Nat} {x : Int32} (hs : S 95 = false) : WP 24 G S (f + 1) 95 ls (.int x :: st) h k n = (if x = nI 0 then WP 24 G S f 115 ls st h k n else WP 24 G S f 98 ls st h k n) := by rw [wp_s dd_24_95 rfl hs]; exact br_ite (c := x = nI 0)
theorem dd_24_98 : decode (mB 24) 98 = .ok (.goto 7, 3) := by decide +kernel
theorem u_24_98 {G : aG} {S : Nat → Bool} {f : Nat} {st : List Value} {ls : aL} {h : aH} {k n : Nat} (hs : S 98 = false) : WP 24 G S (f + 1) 98 ls st h k n = (WP 24 G S f 105 ls st h k n) := by rw [wp_s dd_24_98 rfl hs]; rfl
theorem dd_24_101 : decode (mB 24) 101 = .ok (.iload_n 2, 1) := by decide +kernel
theorem u_24_101 {G : aG} {S : Nat → Bool} {f : Nat} {st : List Value} {ls : aL} {h : aH} {k n : Nat} (hs : S 101 = false) : WP 24 G S (f + 1) 101 ls st h k n = (oI (lget ls 2) (WP 24 G S f) 102 ls st h k n) := by rw [wp_s dd_24_101 rfl hs]; rfl
theorem dd_24_102 : decode (mB 24) 102 = .ok (.ifCond .ne 13, 3) := by decide +kernel
theorem u_24_102 {G : aG} {S : Nat → Bool} {f : Nat} {st : List Value} {ls : aL} {h : aH} {k n : Nat} {x : Int32} (hs : S 102 = false) : WP 24 G S (f + 1) 102 ls (.int x :: st) h k n = (if x = nI 0 then WP 24 G S f 105 ls st h k n else WP 24 G S f 115 ls st h k n) := by rw [wp_s dd_24_102 rfl hs]; exact br_iten (c := x = nI 0)
theorem dd_24_105 : decode (mB 24) 105 = .ok (.aload_n 0, 1) := by decide +kernel
theorem u_24_105 {G : aG} {S : Nat → Bool} {f : Nat} {st : List Value} {ls : aL} {h : aH} {k n : Nat} (hs : S 105 = false) : WP 24 G S (f + 1) 105 ls st h k n = (oA (lget ls 0) (WP 24 G S f) 106 ls st h k n) := by rw [wp_s dd_24_105 rfl hs]; rfl
theorem dd_24_106 : decode (mB 24) 106 = .ok (.iload 5, 2) := by decide +kernel
theorem u_24_106 {G : aG} {S : Nat → Bool} {f : Nat} {st : List Value} {ls : aL} {h : aH} {k n : Nat} (hs : S 106 = false) : WP 24 G S (f + 1) 106 ls st h k n = (oI (lget ls 5) (WP 24 G S f) 108 ls st h k n) := by rw [wp_s dd_24_106 rfl hs]; rfl
theorem dd_24_108 : decode (mB 24) 108 = .ok (.iconst 0, 1) := by decide +kernel
theorem u_24_108 {G : aG} {S : Nat → Bool} {f : Nat} {st : List Value} {ls : aL} {h : aH} {k n : Nat} (hs : S 108 = false) : WP 24 G S (f + 1) 108 ls st h k n = (WP 24 G S f 109 ls (.int (nI 0) :: st) h k n) := by rw [wp_s dd_24_108 rfl hs]; rfl
theorem dd_24_109 : decode (mB 24) 109 = .ok (.iload_n 3, 1) := by decide +kernel
theorem u_24_109 {G : aG} {S : Nat → Bool} {f : Nat} {st : List Value} {ls : aL} {h : aH} {k n : Nat} (hs : S 109 = false) : WP 24 G S (f + 1) 109 ls st h k n = (oI (lget ls 3) (WP 24 G S f) 110 ls st h k n) := by rw [wp_s dd_24_109 rfl hs]; rfl
theorem dd_24_110 : decode (mB 24) 110 = .ok (.iload 7, 2) := by decide +kernel
theorem u_24_110 {G : aG} {S : Nat → Bool} {f : Nat} {st : List Value} {ls : aL} {h : aH} {k n : Nat} (hs : S 110 = false) : WP 24 G S (f + 1) 110 ls st h k n = (oI (lget ls 7) (WP 24 G S f) 112 ls st h k n) := by rw [wp_s dd_24_110 rfl hs]; rfl
theorem dd_24_112 : decode (mB 24) 112 = .ok (.invokevirtual 69, 3) := by decide +kernel
theorem u_24_112 {G : aG} {S : Nat → Bool} {f : Nat} {st : List Value} {ls : aL} {h : aH} {k n : Nat} {v1 v2 v3 v4 : Value} {b : Nat} (hs : S 112 = false) : WP 24 G S (f + 1) 112 ls (v4 :: v3 :: v2 :: v1 :: .ref b :: st) h k n = (rcv (hget h b) 5 ∧ CAL G (WP 24 G S f) 19 [.ref b, v1, v2, v3, v4] 115 ls st h k n) := by rw [wp_s dd_24_112 rfl hs]; rfl
theorem dd_24_115 : decode (mB 24) 115 = .ok (.return_, 1) := by decide +kernel
theorem u_24_115 {G : aG} {S : Nat → Bool} {f : Nat} {ls : aL} {h : aH} {k n : Nat} (hs : S 115 = false) : WP 24 G S (f + 1) 115 ls [] h k n = (RET G none h k n) := by rw [wp_s dd_24_115 rfl hs]; rfl
theorem dd_63_0 : decode (mB 63) 0 = .ok (.aload_n 0, 1) := by decide +kernel
theorem u_63_0 {G : aG} {S : Nat → Bool} {f : Nat} {st : List Value} {ls : aL} {h : aH} {k n : Nat} (hs : S 0 = false) : WP 63 G S (f + 1) 0 ls st h k n = (oA (lget ls 0) (WP 63 G S f) 1 ls st h k n) := by rw [wp_s dd_63_0 rfl hs]; rfl
theorem dd_63_1 : decode (mB 63) 1 = .ok (.getfield 39, 3) := by decide +kernel
theorem u_63_1 {G : aG} {S : Nat → Bool} {f : Nat} {st : List Value} {ls : aL} {h : aH} {k n : Nat} {a : Nat} (hs : S 1 = false) : WP 63 G S (f + 1) 1 ls (.ref a :: st) h k n = (oV (fget h a 5 5) (WP 63 G S f) 4 ls st h k n) := by rw [wp_s dd_63_1 rfl hs]; rfl
theorem dd_63_4 : decode (mB 63) 4 = .ok (.ifCond .lt 15, 3) := by decide +kernel
theorem u_63_4 {G : aG} {S : Nat → Bool} {f : Nat} {st : List Value} {ls : aL} {h : aH} {k n : Nat} {x : Int32} (hs : S 4 = false) : WP 63 G S (f + 1) 4 ls (.int x :: st) h k n = (if x < nI 0 then WP 63 G S f 19 ls st h k n else WP 63 G S f 7 ls st h k n) := by rw [wp_s dd_63_4 rfl hs]; exact br_ite (c := x < nI 0)
theorem dd_63_7 : decode (mB 63) 7 = .ok (.aload_n 0, 1) := by decide +kernel
theorem u_63_7 {G : aG} {S : Nat → Bool} {f : Nat} {st : List Value} {ls : aL} {h : aH} {k n : Nat} (hs : S 7 = false) : WP 63 G S (f + 1) 7 ls st h k n = (oA (lget ls 0) (WP 63 G S f) 8 ls st h k n) := by rw [wp_s dd_63_7 rfl hs]; rfl
theorem dd_63_8 : decode (mB 63) 8 = .ok (.getfield 24, 3) := by decide +kernel
theorem u_63_8 {G : aG} {S : Nat → Bool} {f : Nat} {st : List Value} {ls : aL} {h : aH} {k n : Nat} {a : Nat} (hs : S 8 = false) : WP 63 G S (f + 1) 8 ls (.ref a :: st) h k n = (oV (fget h a 5 4) (WP 63 G S f) 11 ls st h k n) := by rw [wp_s dd_63_8 rfl hs]; rfl
theorem dd_63_11 : decode (mB 63) 11 = .ok (.aload_n 0, 1) := by decide +kernel
theorem u_63_11 {G : aG} {S : Nat → Bool} {f : Nat} {st : List Value} {ls : aL} {h : aH} {k n : Nat} (hs : S 11 = false) : WP 63 G S (f + 1) 11 ls st h k n = (oA (lget ls 0) (WP 63 G S f) 12 ls st h k n) := by rw [wp_s dd_63_11 rfl hs]; rfl
theorem dd_63_12 : decode (mB 63) 12 = .ok (.getfield 39, 3) := by decide +kernel
theorem u_63_12 {G : aG} {S : Nat → Bool} {f : Nat} {st : List Value} {ls : aL} {h : aH} {k n : Nat} {a : Nat} (hs : S 12 = false) : WP 63 G S (f + 1) 12 ls (.ref a :: st) h k n = (oV (fget h a 5 5) (WP 63 G S f) 15 ls st h k n) := by rw [wp_s dd_63_12 rfl hs]; rfl
theorem dd_63_15 : decode (mB 63) 15 = .ok (.iaload, 1) := by decide +kernel
theorem u_63_15 {G : aG} {S : Nat → Bool} {f : Nat} {st : List Value} {ls : aL} {h : aH} {k n : Nat} {i : Int32} {a : Nat} (hs : S 15 = false) : WP 63 G S (f + 1) 15 ls (.int i :: .ref a :: st) h k n = (oIld (iget h a 1) i (WP 63 G S f) 16 ls st h k n) := by rw [wp_s dd_63_15 rfl hs]; rfl
theorem dd_63_16 : decode (mB 63) 16 = .ok (.goto 4, 3) := by decide +kernel
theorem u_63_16 {G : aG} {S : Nat → Bool} {f : Nat} {st : List Value} {ls : aL} {h : aH} {k n : Nat} (hs : S 16 = false) : WP 63 G S (f + 1) 16 ls st h k n = (WP 63 G S f 20 ls st h k n) := by rw [wp_s dd_63_16 rfl hs]; rfl
theorem dd_63_19 : decode (mB 63) 19 = .ok (.iconst 0, 1) := by decide +kernel
theorem u_63_19 {G : aG} {S : Nat → Bool} {f : Nat} {st : List Value} {ls : aL} {h : aH} {k n : Nat} (hs : S 19 = false) : WP 63 G S (f + 1) 19 ls st h k n = (WP 63 G S f 20 ls (.int (nI 0) :: st) h k n) := by rw [wp_s dd_63_19 rfl hs]; rfl
theorem dd_63_20 : decode (mB 63) 20 = .ok (.ireturn, 1) := by decide +kernel
theorem u_63_20 {G : aG} {S : Nat → Bool} {f : Nat} {ls : aL} {h : aH} {k n : Nat} {x : Int32} (hs : S 20 = false) : WP 63 G S (f + 1) 20 ls [.int x] h k n = (RET G (some (.int x)) h k n) := by rw [wp_s dd_63_20 rfl hs]; rfl
theorem dd_74_0 : decode (mB 74) 0 = .ok (.iconst 0, 1) := by decide +kernel
theorem u_74_0 {G : aG} {S : Nat → Bool} {f : Nat} {st : List Value} {ls : aL} {h : aH} {k n : Nat} (hs : S 0 = false) : WP 74 G S (f + 1) 0 ls st h k n = (WP 74 G S f 1 ls (.int (nI 0) :: st) h k n) := by rw [wp_s dd_74_0 rfl hs]; rfl
theorem dd_74_1 : decode (mB 74) 1 = .ok (.istore 4, 2) := by decide +kernel
theorem u_74_1 {G : aG} {S : Nat → Bool} {f : Nat} {st : List Value} {ls : aL} {h : aH} {k n : Nat} {x : Int32} (hs : S 1 = false) : WP 74 G S (f + 1) 1 ls (.int x :: st) h k n = (WP 74 G S f 3 (lput1 ls 4 (.int x)) st h k n) := by rw [wp_s dd_74_1 rfl hs]; rfl
theorem dd_74_3 : decode (mB 74) 3 = .ok (.iload_n 1, 1) := by decide +kernel
theorem u_74_3 {G : aG} {S : Nat → Bool} {f : Nat} {st : List Value} {ls : aL} {h : aH} {k n : Nat} (hs : S 3 = false) : WP 74 G S (f + 1) 3 ls st h k n = (oI (lget ls 1) (WP 74 G S f) 4 ls st h k n) := by rw [wp_s dd_74_3 rfl hs]; rfl
theorem dd_74_4 : decode (mB 74) 4 = .ok (.ifCond .lt 11, 3) := by decide +kernel
theorem u_74_4 {G : aG} {S : Nat → Bool} {f : Nat} {st : List Value} {ls : aL} {h : aH} {k n : Nat} {x : Int32} (hs : S 4 = false) : WP 74 G S (f + 1) 4 ls (.int x :: st) h k n = (if x < nI 0 then WP 74 G S f 15 ls st h k n else WP 74 G S f 7 ls st h k n) := by rw [wp_s dd_74_4 rfl hs]; exact br_ite (c := x < nI 0)
theorem dd_74_7 : decode (mB 74) 7 = .ok (.iload_n 1, 1) := by decide +kernel
theorem u_74_7 {G : aG} {S : Nat → Bool} {f : Nat} {st : List Value} {ls : aL} {h : aH} {k n : Nat} (hs : S 7 = false) : WP 74 G S (f + 1) 7 ls st h k n = (oI (lget ls 1) (WP 74 G S f) 8 ls st h k n) := by rw [wp_s dd_74_7 rfl hs]; rfl
theorem dd_74_8 : decode (mB 74) 8 = .ok (.aload_n 0, 1) := by decide +kernel
theorem u_74_8 {G : aG} {S : Nat → Bool} {f : Nat} {st : List Value} {ls : aL} {h : aH} {k n : Nat} (hs : S 8 = false) : WP 74 G S (f + 1) 8 ls st h k n = (oA (lget ls 0) (WP 74 G S f) 9 ls st h k n) := by rw [wp_s dd_74_8 rfl hs]; rfl
theorem dd_74_9 : decode (mB 74) 9 = .ok (.getfield 56, 3) := by decide +kernel
theorem u_74_9 {G : aG} {S : Nat → Bool} {f : Nat} {st : List Value} {ls : aL} {h : aH} {k n : Nat} {a : Nat} (hs : S 9 = false) : WP 74 G S (f + 1) 9 ls (.ref a :: st) h k n = (oV (fget h a 5 6) (WP 74 G S f) 12 ls st h k n) := by rw [wp_s dd_74_9 rfl hs]; rfl
theorem dd_74_12 : decode (mB 74) 12 = .ok (.if_icmp .lt 6, 3) := by decide +kernel
theorem u_74_12 {G : aG} {S : Nat → Bool} {f : Nat} {st : List Value} {ls : aL} {h : aH} {k n : Nat} {x y : Int32} (hs : S 12 = false) : WP 74 G S (f + 1) 12 ls (.int y :: .int x :: st) h k n = (if x < y then WP 74 G S f 18 ls st h k n else WP 74 G S f 15 ls st h k n) := by rw [wp_s dd_74_12 rfl hs]; exact br_ite (c := x < y)
theorem dd_74_15 : decode (mB 74) 15 = .ok (.iload 4, 2) := by decide +kernel
theorem u_74_15 {G : aG} {S : Nat → Bool} {f : Nat} {st : List Value} {ls : aL} {h : aH} {k n : Nat} (hs : S 15 = false) : WP 74 G S (f + 1) 15 ls st h k n = (oI (lget ls 4) (WP 74 G S f) 17 ls st h k n) := by rw [wp_s dd_74_15 rfl hs]; rfl
theorem dd_74_17 : decode (mB 74) 17 = .ok (.ireturn, 1) := by decide +kernel
theorem u_74_17 {G : aG} {S : Nat → Bool} {f : Nat} {ls : aL} {h : aH} {k n : Nat} {x : Int32} (hs : S 17 = false) : WP 74 G S (f + 1) 17 ls [.int x] h k n = (RET G (some (.int x)) h k n) := by rw [wp_s dd_74_17 rfl hs]; rfl
theorem dd_74_18 : decode (mB 74) 18 = .ok (.aload_n 0, 1) := by decide +kernel
theorem u_74_18 {G : aG} {S : Nat → Bool} {f : Nat} {st : List Value} {ls : aL} {h : aH} {k n : Nat} (hs : S 18 = false) : WP 74 G S (f + 1) 18 ls st h k n = (oA (lget ls 0) (WP 74 G S f) 19 ls st h k n) := by rw [wp_s dd_74_18 rfl hs]; rfl
theorem dd_74_19 : decode (mB 74) 19 = .ok (.getfield 33, 3) := by decide +kernel
theorem u_74_19 {G : aG} {S : Nat → Bool} {f : Nat} {st : List Value} {ls : aL} {h : aH} {k n : Nat} {a : Nat} (hs : S 19 = false) : WP 74 G S (f + 1) 19 ls (.ref a :: st) h k n = (oV (fget h a 5 10) (WP 74 G S f) 22 ls st h k n) := by rw [wp_s dd_74_19 rfl hs]; rfl
theorem dd_74_22 : decode (mB 74) 22 = .ok (.iload_n 1, 1) := by decide +kernel
theorem u_74_22 {G : aG} {S : Nat → Bool} {f : Nat} {st : List Value} {ls : aL} {h : aH} {k n : Nat} (hs : S 22 = false) : WP 74 G S (f + 1) 22 ls st h k n = (oI (lget ls 1) (WP 74 G S f) 23 ls st h k n) := by rw [wp_s dd_74_22 rfl hs]; rfl
theorem dd_74_23 : decode (mB 74) 23 = .ok (.iaload, 1) := by decide +kernel
theorem u_74_23 {G : aG} {S : Nat → Bool} {f : Nat} {st : List Value} {ls : aL} {h : aH} {k n : Nat} {i : Int32} {a : Nat} (hs : S 23 = false) : WP 74 G S (f + 1) 23 ls (.int i :: .ref a :: st) h k n = (oIld (iget h a 1) i (WP 74 G S f) 24 ls st h k n) := by rw [wp_s dd_74_23 rfl hs]; rfl
theorem dd_74_24 : decode (mB 74) 24 = .ok (.istore 5, 2) := by decide +kernel
theorem u_74_24 {G : aG} {S : Nat → Bool} {f : Nat} {st : List Value} {ls : aL} {h : aH} {k n : Nat} {x : Int32} (hs : S 24 = false) : WP 74 G S (f + 1) 24 ls (.int x :: st) h k n = (WP 74 G S f 26 (lput1 ls 5 (.int x)) st h k n) := by rw [wp_s dd_74_24 rfl hs]; rfl
theorem dd_74_26 : decode (mB 74) 26 = .ok (.iload 5, 2) := by decide +kernel
theorem u_74_26 {G : aG} {S : Nat → Bool} {f : Nat} {st : List Value} {ls : aL} {h : aH} {k n : Nat} (hs : S 26 = false) : WP 74 G S (f + 1) 26 ls st h k n = (oI (lget ls 5) (WP 74 G S f) 28 ls st h k n) := by rw [wp_s dd_74_26 rfl hs]; rfl
theorem v_74_26 {G : aG} {S : Nat → Bool} {f : Nat} {st : List Value} {ls : aL} {h : aH} {k n : Nat} : WQ 74 G S f 26 ls st h k n = (oI (lget ls 5) (WP 74 G S f) 28 ls st h k n) := by rw [wq_s dd_74_26 rfl]; rfl
theorem dd_74_28 : decode (mB 74) 28 = .ok (.aload_n 0, 1) := by decide +kernel
theorem u_74_28 {G : aG} {S : Nat → Bool} {f : Nat} {st : List Value} {ls : aL} {h : aH} {k n : Nat} (hs : S 28 = false) : WP 74 G S (f + 1) 28 ls st h k n = (oA (lget ls 0) (WP 74 G S f) 29 ls st h k n) := by rw [wp_s dd_74_28 rfl hs]; rfl
theorem dd_74_29 : decode (mB 74) 29 = .ok (.getfield 36, 3) := by decide +kernel
theorem u_74_29 {G : aG} {S : Nat → Bool} {f : Nat} {st : List Value} {ls : aL} {h : aH} {k n : Nat} {a : Nat} (hs : S 29 = false) : WP 74 G S (f + 1) 29 ls (.ref a :: st) h k n = (oV (fget h a 5 11) (WP 74 G S f) 32 ls st h k n) := by rw [wp_s dd_74_29 rfl hs]; rfl
theorem dd_74_32 : decode (mB 74) 32 = .ok (.iload_n 1, 1) := by decide +kernel
theorem u_74_32 {G : aG} {S : Nat → Bool} {f : Nat} {st : List Value} {ls : aL} {h : aH} {k n : Nat} (hs : S 32 = false) : WP 74 G S (f + 1) 32 ls st h k n = (oI (lget ls 1) (WP 74 G S f) 33 ls st h k n) := by rw [wp_s dd_74_32 rfl hs]; rfl
theorem dd_74_33 : decode (mB 74) 33 = .ok (.iaload, 1) := by decide +kernel
theorem u_74_33 {G : aG} {S : Nat → Bool} {f : Nat} {st : List Value} {ls : aL} {h : aH} {k n : Nat} {i : Int32} {a : Nat} (hs : S 33 = false) : WP 74 G S (f + 1) 33 ls (.int i :: .ref a :: st) h k n = (oIld (iget h a 1) i (WP 74 G S f) 34 ls st h k n) := by rw [wp_s dd_74_33 rfl hs]; rfl
theorem dd_74_34 : decode (mB 74) 34 = .ok (.if_icmp .ge 84, 3) := by decide +kernel
theorem u_74_34 {G : aG} {S : Nat → Bool} {f : Nat} {st : List Value} {ls : aL} {h : aH} {k n : Nat} {x y : Int32} (hs : S 34 = false) : WP 74 G S (f + 1) 34 ls (.int y :: .int x :: st) h k n = (if y ≤ x then WP 74 G S f 118 ls st h k n else WP 74 G S f 37 ls st h k n) := by rw [wp_s dd_74_34 rfl hs]; exact br_ite (c := y ≤ x)
theorem dd_74_37 : decode (mB 74) 37 = .ok (.aload_n 0, 1) := by decide +kernel
theorem u_74_37 {G : aG} {S : Nat → Bool} {f : Nat} {st : List Value} {ls : aL} {h : aH} {k n : Nat} (hs : S 37 = false) : WP 74 G S (f + 1) 37 ls st h k n = (oA (lget ls 0) (WP 74 G S f) 38 ls st h k n) := by rw [wp_s dd_74_37 rfl hs]; rfl
theorem dd_74_38 : decode (mB 74) 38 = .ok (.getfield 30, 3) := by decide +kernel
theorem u_74_38 {G : aG} {S : Nat → Bool} {f : Nat} {st : List Value} {ls : aL} {h : aH} {k n : Nat} {a : Nat} (hs : S 38 = false) : WP 74 G S (f + 1) 38 ls (.ref a :: st) h k n = (oV (fget h a 5 9) (WP 74 G S f) 41 ls st h k n) := by rw [wp_s dd_74_38 rfl hs]; rfl
theorem dd_74_41 : decode (mB 74) 41 = .ok (.iload 5, 2) := by decide +kernel
theorem u_74_41 {G : aG} {S : Nat → Bool} {f : Nat} {st : List Value} {ls : aL} {h : aH} {k n : Nat} (hs : S 41 = false) : WP 74 G S (f + 1) 41 ls st h k n = (oI (lget ls 5) (WP 74 G S f) 43 ls st h k n) := by rw [wp_s dd_74_41 rfl hs]; rfl
theorem dd_74_43 : decode (mB 74) 43 = .ok (.iaload, 1) := by decide +kernel
theorem u_74_43 {G : aG} {S : Nat → Bool} {f : Nat} {st : List Value} {ls : aL} {h : aH} {k n : Nat} {i : Int32} {a : Nat} (hs : S 43 = false) : WP 74 G S (f + 1) 43 ls (.int i :: .ref a :: st) h k n = (oIld (iget h a 1) i (WP 74 G S f) 44 ls st h k n) := by rw [wp_s dd_74_43 rfl hs]; rfl
theorem dd_74_44 : decode (mB 74) 44 = .ok (.sipush 255, 3) := by decide +kernel
theorem u_74_44 {G : aG} {S : Nat → Bool} {f : Nat} {st : List Value} {ls : aL} {h : aH} {k n : Nat} (hs : S 44 = false) : WP 74 G S (f + 1) 44 ls st h k n = (WP 74 G S f 47 ls (.int (nI 255) :: st) h k n) := by rw [wp_s dd_74_44 rfl hs]; rfl
theorem dd_74_47 : decode (mB 74) 47 = .ok (.iand, 1) := by decide +kernel
theorem u_74_47 {G : aG} {S : Nat → Bool} {f : Nat} {st : List Value} {ls : aL} {h : aH} {k n : Nat} {x y : Int32} (hs : S 47 = false) : WP 74 G S (f + 1) 47 ls (.int y :: .int x :: st) h k n = (WP 74 G S f 48 ls (.int (x &&& y) :: st) h k n) := by rw [wp_s dd_74_47 rfl hs]; rfl
theorem dd_74_48 : decode (mB 74) 48 = .ok (.istore 6, 2) := by decide +kernel
theorem u_74_48 {G : aG} {S : Nat → Bool} {f : Nat} {st : List Value} {ls : aL} {h : aH} {k n : Nat} {x : Int32} (hs : S 48 = false) : WP 74 G S (f + 1) 48 ls (.int x :: st) h k n = (WP 74 G S f 50 (lput1 ls 6 (.int x)) st h k n) := by rw [wp_s dd_74_48 rfl hs]; rfl
theorem dd_74_50 : decode (mB 74) 50 = .ok (.aload_n 0, 1) := by decide +kernel
theorem u_74_50 {G : aG} {S : Nat → Bool} {f : Nat} {st : List Value} {ls : aL} {h : aH} {k n : Nat} (hs : S 50 = false) : WP 74 G S (f + 1) 50 ls st h k n = (oA (lget ls 0) (WP 74 G S f) 51 ls st h k n) := by rw [wp_s dd_74_50 rfl hs]; rfl
theorem dd_74_51 : decode (mB 74) 51 = .ok (.getfield 30, 3) := by decide +kernel
theorem u_74_51 {G : aG} {S : Nat → Bool} {f : Nat} {st : List Value} {ls : aL} {h : aH} {k n : Nat} {a : Nat} (hs : S 51 = false) : WP 74 G S (f + 1) 51 ls (.ref a :: st) h k n = (oV (fget h a 5 9) (WP 74 G S f) 54 ls st h k n) := by rw [wp_s dd_74_51 rfl hs]; rfl
theorem dd_74_54 : decode (mB 74) 54 = .ok (.iload 5, 2) := by decide +kernel
theorem u_74_54 {G : aG} {S : Nat → Bool} {f : Nat} {st : List Value} {ls : aL} {h : aH} {k n : Nat} (hs : S 54 = false) : WP 74 G S (f + 1) 54 ls st h k n = (oI (lget ls 5) (WP 74 G S f) 56 ls st h k n) := by rw [wp_s dd_74_54 rfl hs]; rfl
theorem dd_74_56 : decode (mB 74) 56 = .ok (.iaload, 1) := by decide +kernel
theorem u_74_56 {G : aG} {S : Nat → Bool} {f : Nat} {st : List Value} {ls : aL} {h : aH} {k n : Nat} {i : Int32} {a : Nat} (hs : S 56 = false) : WP 74 G S (f + 1) 56 ls (.int i :: .ref a :: st) h k n = (oIld (iget h a 1) i (WP 74 G S f) 57 ls st h k n) := by rw [wp_s dd_74_56 rfl hs]; rfl
theorem dd_74_57 : decode (mB 74) 57 = .ok (.bipush 8, 2) := by decide +kernel
theorem u_74_57 {G : aG} {S : Nat → Bool} {f : Nat} {st : List Value} {ls : aL} {h : aH} {k n : Nat} (hs : S 57 = false) : WP 74 G S (f + 1) 57 ls st h k n = (WP 74 G S f 59 ls (.int (nI 8) :: st) h k n) := by rw [wp_s dd_74_57 rfl hs]; rfl
theorem dd_74_59 : decode (mB 74) 59 = .ok (.ishr, 1) := by decide +kernel
theorem u_74_59 {G : aG} {S : Nat → Bool} {f : Nat} {st : List Value} {ls : aL} {h : aH} {k n : Nat} {x y : Int32} (hs : S 59 = false) : WP 74 G S (f + 1) 59 ls (.int y :: .int x :: st) h k n = (WP 74 G S f 60 ls (.int (x >>> (y &&& 31)) :: st) h k n) := by rw [wp_s dd_74_59 rfl hs]; rfl
theorem dd_74_60 : decode (mB 74) 60 = .ok (.iload_n 2, 1) := by decide +kernel
theorem u_74_60 {G : aG} {S : Nat → Bool} {f : Nat} {st : List Value} {ls : aL} {h : aH} {k n : Nat} (hs : S 60 = false) : WP 74 G S (f + 1) 60 ls st h k n = (oI (lget ls 2) (WP 74 G S f) 61 ls st h k n) := by rw [wp_s dd_74_60 rfl hs]; rfl
theorem dd_74_61 : decode (mB 74) 61 = .ok (.if_icmp .ne 51, 3) := by decide +kernel
theorem u_74_61 {G : aG} {S : Nat → Bool} {f : Nat} {st : List Value} {ls : aL} {h : aH} {k n : Nat} {x y : Int32} (hs : S 61 = false) : WP 74 G S (f + 1) 61 ls (.int y :: .int x :: st) h k n = (if x = y then WP 74 G S f 64 ls st h k n else WP 74 G S f 112 ls st h k n) := by rw [wp_s dd_74_61 rfl hs]; exact br_iten (c := x = y)
theorem dd_74_64 : decode (mB 74) 64 = .ok (.iload 6, 2) := by decide +kernel
theorem u_74_64 {G : aG} {S : Nat → Bool} {f : Nat} {st : List Value} {ls : aL} {h : aH} {k n : Nat} (hs : S 64 = false) : WP 74 G S (f + 1) 64 ls st h k n = (oI (lget ls 6) (WP 74 G S f) 66 ls st h k n) := by rw [wp_s dd_74_64 rfl hs]; rfl
theorem dd_74_66 : decode (mB 74) 66 = .ok (.aload_n 0, 1) := by decide +kernel
theorem u_74_66 {G : aG} {S : Nat → Bool} {f : Nat} {st : List Value} {ls : aL} {h : aH} {k n : Nat} (hs : S 66 = false) : WP 74 G S (f + 1) 66 ls st h k n = (oA (lget ls 0) (WP 74 G S f) 67 ls st h k n) := by rw [wp_s dd_74_66 rfl hs]; rfl
theorem dd_74_67 : decode (mB 74) 67 = .ok (.getfield 56, 3) := by decide +kernel
theorem u_74_67 {G : aG} {S : Nat → Bool} {f : Nat} {st : List Value} {ls : aL} {h : aH} {k n : Nat} {a : Nat} (hs : S 67 = false) : WP 74 G S (f + 1) 67 ls (.ref a :: st) h k n = (oV (fget h a 5 6) (WP 74 G S f) 70 ls st h k n) := by rw [wp_s dd_74_67 rfl hs]; rfl
theorem dd_74_70 : decode (mB 74) 70 = .ok (.if_icmp .ge 42, 3) := by decide +kernel
theorem u_74_70 {G : aG} {S : Nat → Bool} {f : Nat} {st : List Value} {ls : aL} {h : aH} {k n : Nat} {x y : Int32} (hs : S 70 = false) : WP 74 G S (f + 1) 70 ls (.int y :: .int x :: st) h k n = (if y ≤ x then WP 74 G S f 112 ls st h k n else WP 74 G S f 73 ls st h k n) := by rw [wp_s dd_74_70 rfl hs]; exact br_ite (c := y ≤ x)
theorem dd_74_73 : decode (mB 74) 73 = .ok (.iload 6, 2) := by decide +kernel
theorem u_74_73 {G : aG} {S : Nat → Bool} {f : Nat} {st : List Value} {ls : aL} {h : aH} {k n : Nat} (hs : S 73 = false) : WP 74 G S (f + 1) 73 ls st h k n = (oI (lget ls 6) (WP 74 G S f) 75 ls st h k n) := by rw [wp_s dd_74_73 rfl hs]; rfl
theorem dd_74_75 : decode (mB 74) 75 = .ok (.bipush 6, 2) := by decide +kernel
theorem u_74_75 {G : aG} {S : Nat → Bool} {f : Nat} {st : List Value} {ls : aL} {h : aH} {k n : Nat} (hs : S 75 = false) : WP 74 G S (f + 1) 75 ls st h k n = (WP 74 G S f 77 ls (.int (nI 6) :: st) h k n) := by rw [wp_s dd_74_75 rfl hs]; rfl
theorem dd_74_77 : decode (mB 74) 77 = .ok (.ishr, 1) := by decide +kernel
theorem u_74_77 {G : aG} {S : Nat → Bool} {f : Nat} {st : List Value} {ls : aL} {h : aH} {k n : Nat} {x y : Int32} (hs : S 77 = false) : WP 74 G S (f + 1) 77 ls (.int y :: .int x :: st) h k n = (WP 74 G S f 78 ls (.int (x >>> (y &&& 31)) :: st) h k n) := by rw [wp_s dd_74_77 rfl hs]; rfl
theorem dd_74_78 : decode (mB 74) 78 = .ok (.aload_n 3, 1) := by decide +kernel
theorem u_74_78 {G : aG} {S : Nat → Bool} {f : Nat} {st : List Value} {ls : aL} {h : aH} {k n : Nat} (hs : S 78 = false) : WP 74 G S (f + 1) 78 ls st h k n = (oA (lget ls 3) (WP 74 G S f) 79 ls st h k n) := by rw [wp_s dd_74_78 rfl hs]; rfl
theorem dd_74_79 : decode (mB 74) 79 = .ok (.arraylength, 1) := by decide +kernel
theorem u_74_79 {G : aG} {S : Nat → Bool} {f : Nat} {st : List Value} {ls : aL} {h : aH} {k n : Nat} {a : Nat} (hs : S 79 = false) : WP 74 G S (f + 1) 79 ls (.ref a :: st) h k n = (oLen (alen h a) (WP 74 G S f) 80 ls st h k n) := by rw [wp_s dd_74_79 rfl hs]; rfl
theorem dd_74_80 : decode (mB 74) 80 = .ok (.if_icmp .ge 32, 3) := by decide +kernel
theorem u_74_80 {G : aG} {S : Nat → Bool} {f : Nat} {st : List Value} {ls : aL} {h : aH} {k n : Nat} {x y : Int32} (hs : S 80 = false) : WP 74 G S (f + 1) 80 ls (.int y :: .int x :: st) h k n = (if y ≤ x then WP 74 G S f 112 ls st h k n else WP 74 G S f 83 ls st h k n) := by rw [wp_s dd_74_80 rfl hs]; exact br_ite (c := y ≤ x)
theorem dd_74_83 : decode (mB 74) 83 = .ok (.aload_n 3, 1) := by decide +kernel
theorem u_74_83 {G : aG} {S : Nat → Bool} {f : Nat} {st : List Value} {ls : aL} {h : aH} {k n : Nat} (hs : S 83 = false) : WP 74 G S (f + 1) 83 ls st h k n = (oA (lget ls 3) (WP 74 G S f) 84 ls st h k n) := by rw [wp_s dd_74_83 rfl hs]; rfl
theorem dd_74_84 : decode (mB 74) 84 = .ok (.iload 6, 2) := by decide +kernel
theorem u_74_84 {G : aG} {S : Nat → Bool} {f : Nat} {st : List Value} {ls : aL} {h : aH} {k n : Nat} (hs : S 84 = false) : WP 74 G S (f + 1) 84 ls st h k n = (oI (lget ls 6) (WP 74 G S f) 86 ls st h k n) := by rw [wp_s dd_74_84 rfl hs]; rfl
theorem dd_74_86 : decode (mB 74) 86 = .ok (.bipush 6, 2) := by decide +kernel
theorem u_74_86 {G : aG} {S : Nat → Bool} {f : Nat} {st : List Value} {ls : aL} {h : aH} {k n : Nat} (hs : S 86 = false) : WP 74 G S (f + 1) 86 ls st h k n = (WP 74 G S f 88 ls (.int (nI 6) :: st) h k n) := by rw [wp_s dd_74_86 rfl hs]; rfl
theorem dd_74_88 : decode (mB 74) 88 = .ok (.ishr, 1) := by decide +kernel
theorem u_74_88 {G : aG} {S : Nat → Bool} {f : Nat} {st : List Value} {ls : aL} {h : aH} {k n : Nat} {x y : Int32} (hs : S 88 = false) : WP 74 G S (f + 1) 88 ls (.int y :: .int x :: st) h k n = (WP 74 G S f 89 ls (.int (x >>> (y &&& 31)) :: st) h k n) := by rw [wp_s dd_74_88 rfl hs]; rfl
theorem dd_74_89 : decode (mB 74) 89 = .ok (.dup2, 1) := by decide +kernel
theorem u_74_89 {G : aG} {S : Nat → Bool} {f : Nat} {st : List Value} {ls : aL} {h : aH} {k n : Nat} {v v2 : Value} (hs : S 89 = false) : WP 74 G S (f + 1) 89 ls (v :: v2 :: st) h k n = (cond (cat1 v && cat1 v2) (WP 74 G S f 90 ls (v :: v2 :: v :: v2 :: st) h k n) False) := by rw [wp_s dd_74_89 rfl hs]; rfl
theorem dd_74_90 : decode (mB 74) 90 = .ok (.laload, 1) := by decide +kernel
theorem u_74_90 {G : aG} {S : Nat → Bool} {f : Nat} {st : List Value} {ls : aL} {h : aH} {k n : Nat} {i : Int32} {a : Nat} (hs : S 90 = false) : WP 74 G S (f + 1) 90 ls (.int i :: .ref a :: st) h k n = (oJld (jget h a) i (WP 74 G S f) 91 ls st h k n) := by rw [wp_s dd_74_90 rfl hs]; rfl
theorem dd_74_91 : decode (mB 74) 91 = .ok (.lconst 1, 1) := by decide +kernel
theorem u_74_91 {G : aG} {S : Nat → Bool} {f : Nat} {st : List Value} {ls : aL} {h : aH} {k n : Nat} (hs : S 91 = false) : WP 74 G S (f + 1) 91 ls st h k n = (WP 74 G S f 92 ls (.long (lN 1) :: st) h k n) := by rw [wp_s dd_74_91 rfl hs]; rfl
theorem dd_74_92 : decode (mB 74) 92 = .ok (.iload 6, 2) := by decide +kernel
theorem u_74_92 {G : aG} {S : Nat → Bool} {f : Nat} {st : List Value} {ls : aL} {h : aH} {k n : Nat} (hs : S 92 = false) : WP 74 G S (f + 1) 92 ls st h k n = (oI (lget ls 6) (WP 74 G S f) 94 ls st h k n) := by rw [wp_s dd_74_92 rfl hs]; rfl
theorem dd_74_94 : decode (mB 74) 94 = .ok (.bipush 63, 2) := by decide +kernel
theorem u_74_94 {G : aG} {S : Nat → Bool} {f : Nat} {st : List Value} {ls : aL} {h : aH} {k n : Nat} (hs : S 94 = false) : WP 74 G S (f + 1) 94 ls st h k n = (WP 74 G S f 96 ls (.int (nI 63) :: st) h k n) := by rw [wp_s dd_74_94 rfl hs]; rfl
theorem dd_74_96 : decode (mB 74) 96 = .ok (.iand, 1) := by decide +kernel
theorem u_74_96 {G : aG} {S : Nat → Bool} {f : Nat} {st : List Value} {ls : aL} {h : aH} {k n : Nat} {x y : Int32} (hs : S 96 = false) : WP 74 G S (f + 1) 96 ls (.int y :: .int x :: st) h k n = (WP 74 G S f 97 ls (.int (x &&& y) :: st) h k n) := by rw [wp_s dd_74_96 rfl hs]; rfl
theorem dd_74_97 : decode (mB 74) 97 = .ok (.lshl, 1) := by decide +kernel
theorem u_74_97 {G : aG} {S : Nat → Bool} {f : Nat} {st : List Value} {ls : aL} {h : aH} {k n : Nat} {x : Int64} {y : Int32} (hs : S 97 = false) : WP 74 G S (f + 1) 97 ls (.int y :: .long x :: st) h k n = (WP 74 G S f 98 ls (.long (x <<< (y.toInt64 &&& 63)) :: st) h k n) := by rw [wp_s dd_74_97 rfl hs]; rfl
theorem dd_74_98 : decode (mB 74) 98 = .ok (.lor, 1) := by decide +kernel
theorem u_74_98 {G : aG} {S : Nat → Bool} {f : Nat} {st : List Value} {ls : aL} {h : aH} {k n : Nat} {x y : Int64} (hs : S 98 = false) : WP 74 G S (f + 1) 98 ls (.long y :: .long x :: st) h k n = (WP 74 G S f 99 ls (.long (x ||| y) :: st) h k n) := by rw [wp_s dd_74_98 rfl hs]; rfl
theorem dd_74_99 : decode (mB 74) 99 = .ok (.lastore, 1) := by decide +kernel
theorem u_74_99 {G : aG} {S : Nat → Bool} {f : Nat} {st : List Value} {ls : aL} {h : aH} {k n : Nat} {i : Int32} {x : Int64} {a : Nat} (hs : S 99 = false) : WP 74 G S (f + 1) 99 ls (.long x :: .int i :: .ref a :: st) h k n = (oJst (jget h a) a i x (WP 74 G S f) 100 ls st h k n) := by rw [wp_s dd_74_99 rfl hs]; rfl
theorem dd_74_100 : decode (mB 74) 100 = .ok (.iload 4, 2) := by decide +kernel
theorem u_74_100 {G : aG} {S : Nat → Bool} {f : Nat} {st : List Value} {ls : aL} {h : aH} {k n : Nat} (hs : S 100 = false) : WP 74 G S (f + 1) 100 ls st h k n = (oI (lget ls 4) (WP 74 G S f) 102 ls st h k n) := by rw [wp_s dd_74_100 rfl hs]; rfl
theorem dd_74_102 : decode (mB 74) 102 = .ok (.aload_n 0, 1) := by decide +kernel
theorem u_74_102 {G : aG} {S : Nat → Bool} {f : Nat} {st : List Value} {ls : aL} {h : aH} {k n : Nat} (hs : S 102 = false) : WP 74 G S (f + 1) 102 ls st h k n = (oA (lget ls 0) (WP 74 G S f) 103 ls st h k n) := by rw [wp_s dd_74_102 rfl hs]; rfl
theorem dd_74_103 : decode (mB 74) 103 = .ok (.getfield 27, 3) := by decide +kernel
theorem u_74_103 {G : aG} {S : Nat → Bool} {f : Nat} {st : List Value} {ls : aL} {h : aH} {k n : Nat} {a : Nat} (hs : S 103 = false) : WP 74 G S (f + 1) 103 ls (.ref a :: st) h k n = (oV (fget h a 5 8) (WP 74 G S f) 106 ls st h k n) := by rw [wp_s dd_74_103 rfl hs]; rfl
theorem dd_74_106 : decode (mB 74) 106 = .ok (.iload 6, 2) := by decide +kernel
theorem u_74_106 {G : aG} {S : Nat → Bool} {f : Nat} {st : List Value} {ls : aL} {h : aH} {k n : Nat} (hs : S 106 = false) : WP 74 G S (f + 1) 106 ls st h k n = (oI (lget ls 6) (WP 74 G S f) 108 ls st h k n) := by rw [wp_s dd_74_106 rfl hs]; rfl
theorem dd_74_108 : decode (mB 74) 108 = .ok (.iaload, 1) := by decide +kernel
theorem u_74_108 {G : aG} {S : Nat → Bool} {f : Nat} {st : List Value} {ls : aL} {h : aH} {k n : Nat} {i : Int32} {a : Nat} (hs : S 108 = false) : WP 74 G S (f + 1) 108 ls (.int i :: .ref a :: st) h k n = (oIld (iget h a 1) i (WP 74 G S f) 109 ls st h k n) := by rw [wp_s dd_74_108 rfl hs]; rfl
theorem dd_74_109 : decode (mB 74) 109 = .ok (.ior, 1) := by decide +kernel
theorem u_74_109 {G : aG} {S : Nat → Bool} {f : Nat} {st : List Value} {ls : aL} {h : aH} {k n : Nat} {x y : Int32} (hs : S 109 = false) : WP 74 G S (f + 1) 109 ls (.int y :: .int x :: st) h k n = (WP 74 G S f 110 ls (.int (x ||| y) :: st) h k n) := by rw [wp_s dd_74_109 rfl hs]; rfl
theorem dd_74_110 : decode (mB 74) 110 = .ok (.istore 4, 2) := by decide +kernel
theorem u_74_110 {G : aG} {S : Nat → Bool} {f : Nat} {st : List Value} {ls : aL} {h : aH} {k n : Nat} {x : Int32} (hs : S 110 = false) : WP 74 G S (f + 1) 110 ls (.int x :: st) h k n = (WP 74 G S f 112 (lput1 ls 4 (.int x)) st h k n) := by rw [wp_s dd_74_110 rfl hs]; rfl
theorem dd_74_112 : decode (mB 74) 112 = .ok (.iinc 5 1, 3) := by decide +kernel
theorem u_74_112 {G : aG} {S : Nat → Bool} {f : Nat} {st : List Value} {ls : aL} {h : aH} {k n : Nat} (hs : S 112 = false) : WP 74 G S (f + 1) 112 ls st h k n = (oInc (lget ls 5) (nI 1) (WP 74 G S f) 5 115 ls st h k n) := by rw [wp_s dd_74_112 rfl hs]; rfl
theorem dd_74_115 : decode (mB 74) 115 = .ok (.goto (-89), 3) := by decide +kernel
theorem u_74_115 {G : aG} {S : Nat → Bool} {f : Nat} {st : List Value} {ls : aL} {h : aH} {k n : Nat} (hs : S 115 = false) : WP 74 G S (f + 1) 115 ls st h k n = (WP 74 G S f 26 ls st h k n) := by rw [wp_s dd_74_115 rfl hs]; rfl
theorem dd_74_118 : decode (mB 74) 118 = .ok (.iload 4, 2) := by decide +kernel
theorem u_74_118 {G : aG} {S : Nat → Bool} {f : Nat} {st : List Value} {ls : aL} {h : aH} {k n : Nat} (hs : S 118 = false) : WP 74 G S (f + 1) 118 ls st h k n = (oI (lget ls 4) (WP 74 G S f) 120 ls st h k n) := by rw [wp_s dd_74_118 rfl hs]; rfl
theorem dd_74_120 : decode (mB 74) 120 = .ok (.ireturn, 1) := by decide +kernel
theorem u_74_120 {G : aG} {S : Nat → Bool} {f : Nat} {ls : aL} {h : aH} {k n : Nat} {x : Int32} (hs : S 120 = false) : WP 74 G S (f + 1) 120 ls [.int x] h k n = (RET G (some (.int x)) h k n) := by rw [wp_s dd_74_120 rfl hs]; rfl
