/-! rows of 8 Plan.init, 10 Plan.findNodes, 11 Plan.measure, 13 Plan.findPlaces, 14 Plan.allows, 15 Plan.findMoves, 16 Plan.leave, 17 Plan.keepMove, 19 Plan.leaveTimes, 20 Plan.leaveMix, 21 Plan.leavePair, 63 Plan.shortestRow, 74 Plan.addTargets -/
theorem dd_8_0 : decode (mB 8) 0 = .ok (.aload_n 0, 1) := by decide +kernel
theorem u_8_0 {G : aG} {S : Nat → Bool} {f : Nat} {st : List Value} {ls : aL} {h : aH} {k n : Nat} (hs : S 0 = false) : WP 8 G S (f + 1) 0 ls st h k n = (oA (lget ls 0) (WP 8 G S f) 1 ls st h k n) := by rw [wp_s dd_8_0 rfl hs]; rfl
theorem dd_8_1 : decode (mB 8) 1 = .ok (.invokespecial 3, 3) := by decide +kernel
theorem u_8_1 {G : aG} {S : Nat → Bool} {f : Nat} {st : List Value} {ls : aL} {h : aH} {k n : Nat} {a : Nat} (hs : S 1 = false) : WP 8 G S (f + 1) 1 ls (.ref a :: st) h k n = ((st.map fun v => v.category).sum ≤ 8 ∧ 1 ≤ gD G ∧ WP 8 G S f 4 ls st h k n) := by rw [wp_s dd_8_1 rfl hs]; rfl
theorem dd_8_4 : decode (mB 8) 4 = .ok (.aload_n 0, 1) := by decide +kernel
theorem u_8_4 {G : aG} {S : Nat → Bool} {f : Nat} {st : List Value} {ls : aL} {h : aH} {k n : Nat} (hs : S 4 = false) : WP 8 G S (f + 1) 4 ls st h k n = (oA (lget ls 0) (WP 8 G S f) 5 ls st h k n) := by rw [wp_s dd_8_4 rfl hs]; rfl
theorem dd_8_5 : decode (mB 8) 5 = .ok (.bipush 16, 2) := by decide +kernel
theorem u_8_5 {G : aG} {S : Nat → Bool} {f : Nat} {st : List Value} {ls : aL} {h : aH} {k n : Nat} (hs : S 5 = false) : WP 8 G S (f + 1) 5 ls st h k n = (WP 8 G S f 7 ls (.int (nI 16) :: st) h k n) := by rw [wp_s dd_8_5 rfl hs]; rfl
theorem dd_8_7 : decode (mB 8) 7 = .ok (.newarray .int, 2) := by decide +kernel
theorem u_8_7 {G : aG} {S : Nat → Bool} {f : Nat} {st : List Value} {ls : aL} {h : aH} {k n : Nat} {x : Int32} (hs : S 7 = false) : WP 8 G S (f + 1) 7 ls (.int x :: st) h k n = (¬ x < 0 ∧ x.toNatClampNeg * 4 ≤ 536870912 ∧ oNew G (cI x.toNatClampNeg) x.toNatClampNeg (WP 8 G S f) 9 ls st h k n) := by rw [wp_s dd_8_7 rfl hs]; rfl
theorem dd_8_9 : decode (mB 8) 9 = .ok (.putfield 9, 3) := by decide +kernel
theorem u_8_9 {G : aG} {S : Nat → Bool} {f : Nat} {st : List Value} {ls : aL} {h : aH} {k n : Nat} {a : Nat} {x : Nat} (hs : S 9 = false) : WP 8 G S (f + 1) 9 ls (.ref x :: .ref a :: st) h k n = (oH (fput h a 5 0 (.ref x)) (WP 8 G S f) 12 ls st k n) := by rw [wp_s dd_8_9 rfl hs]; rfl
theorem dd_8_12 : decode (mB 8) 12 = .ok (.aload_n 0, 1) := by decide +kernel
theorem u_8_12 {G : aG} {S : Nat → Bool} {f : Nat} {st : List Value} {ls : aL} {h : aH} {k n : Nat} (hs : S 12 = false) : WP 8 G S (f + 1) 12 ls st h k n = (oA (lget ls 0) (WP 8 G S f) 13 ls st h k n) := by rw [wp_s dd_8_12 rfl hs]; rfl
theorem dd_8_13 : decode (mB 8) 13 = .ok (.bipush 16, 2) := by decide +kernel
theorem u_8_13 {G : aG} {S : Nat → Bool} {f : Nat} {st : List Value} {ls : aL} {h : aH} {k n : Nat} (hs : S 13 = false) : WP 8 G S (f + 1) 13 ls st h k n = (WP 8 G S f 15 ls (.int (nI 16) :: st) h k n) := by rw [wp_s dd_8_13 rfl hs]; rfl
theorem dd_8_15 : decode (mB 8) 15 = .ok (.newarray .int, 2) := by decide +kernel
theorem u_8_15 {G : aG} {S : Nat → Bool} {f : Nat} {st : List Value} {ls : aL} {h : aH} {k n : Nat} {x : Int32} (hs : S 15 = false) : WP 8 G S (f + 1) 15 ls (.int x :: st) h k n = (¬ x < 0 ∧ x.toNatClampNeg * 4 ≤ 536870912 ∧ oNew G (cI x.toNatClampNeg) x.toNatClampNeg (WP 8 G S f) 17 ls st h k n) := by rw [wp_s dd_8_15 rfl hs]; rfl
theorem dd_8_17 : decode (mB 8) 17 = .ok (.putfield 15, 3) := by decide +kernel
theorem u_8_17 {G : aG} {S : Nat → Bool} {f : Nat} {st : List Value} {ls : aL} {h : aH} {k n : Nat} {a : Nat} {x : Nat} (hs : S 17 = false) : WP 8 G S (f + 1) 17 ls (.ref x :: .ref a :: st) h k n = (oH (fput h a 5 1 (.ref x)) (WP 8 G S f) 20 ls st k n) := by rw [wp_s dd_8_17 rfl hs]; rfl
theorem dd_8_20 : decode (mB 8) 20 = .ok (.aload_n 0, 1) := by decide +kernel
theorem u_8_20 {G : aG} {S : Nat → Bool} {f : Nat} {st : List Value} {ls : aL} {h : aH} {k n : Nat} (hs : S 20 = false) : WP 8 G S (f + 1) 20 ls st h k n = (oA (lget ls 0) (WP 8 G S f) 21 ls st h k n) := by rw [wp_s dd_8_20 rfl hs]; rfl
theorem dd_8_21 : decode (mB 8) 21 = .ok (.bipush 16, 2) := by decide +kernel
theorem u_8_21 {G : aG} {S : Nat → Bool} {f : Nat} {st : List Value} {ls : aL} {h : aH} {k n : Nat} (hs : S 21 = false) : WP 8 G S (f + 1) 21 ls st h k n = (WP 8 G S f 23 ls (.int (nI 16) :: st) h k n) := by rw [wp_s dd_8_21 rfl hs]; rfl
theorem dd_8_23 : decode (mB 8) 23 = .ok (.newarray .int, 2) := by decide +kernel
theorem u_8_23 {G : aG} {S : Nat → Bool} {f : Nat} {st : List Value} {ls : aL} {h : aH} {k n : Nat} {x : Int32} (hs : S 23 = false) : WP 8 G S (f + 1) 23 ls (.int x :: st) h k n = (¬ x < 0 ∧ x.toNatClampNeg * 4 ≤ 536870912 ∧ oNew G (cI x.toNatClampNeg) x.toNatClampNeg (WP 8 G S f) 25 ls st h k n) := by rw [wp_s dd_8_23 rfl hs]; rfl
theorem dd_8_25 : decode (mB 8) 25 = .ok (.putfield 18, 3) := by decide +kernel
theorem u_8_25 {G : aG} {S : Nat → Bool} {f : Nat} {st : List Value} {ls : aL} {h : aH} {k n : Nat} {a : Nat} {x : Nat} (hs : S 25 = false) : WP 8 G S (f + 1) 25 ls (.ref x :: .ref a :: st) h k n = (oH (fput h a 5 2 (.ref x)) (WP 8 G S f) 28 ls st k n) := by rw [wp_s dd_8_25 rfl hs]; rfl
theorem dd_8_28 : decode (mB 8) 28 = .ok (.aload_n 0, 1) := by decide +kernel
theorem u_8_28 {G : aG} {S : Nat → Bool} {f : Nat} {st : List Value} {ls : aL} {h : aH} {k n : Nat} (hs : S 28 = false) : WP 8 G S (f + 1) 28 ls st h k n = (oA (lget ls 0) (WP 8 G S f) 29 ls st h k n) := by rw [wp_s dd_8_28 rfl hs]; rfl
theorem dd_8_29 : decode (mB 8) 29 = .ok (.bipush 16, 2) := by decide +kernel
theorem u_8_29 {G : aG} {S : Nat → Bool} {f : Nat} {st : List Value} {ls : aL} {h : aH} {k n : Nat} (hs : S 29 = false) : WP 8 G S (f + 1) 29 ls st h k n = (WP 8 G S f 31 ls (.int (nI 16) :: st) h k n) := by rw [wp_s dd_8_29 rfl hs]; rfl
theorem dd_8_31 : decode (mB 8) 31 = .ok (.newarray .int, 2) := by decide +kernel
theorem u_8_31 {G : aG} {S : Nat → Bool} {f : Nat} {st : List Value} {ls : aL} {h : aH} {k n : Nat} {x : Int32} (hs : S 31 = false) : WP 8 G S (f + 1) 31 ls (.int x :: st) h k n = (¬ x < 0 ∧ x.toNatClampNeg * 4 ≤ 536870912 ∧ oNew G (cI x.toNatClampNeg) x.toNatClampNeg (WP 8 G S f) 33 ls st h k n) := by rw [wp_s dd_8_31 rfl hs]; rfl
theorem dd_8_33 : decode (mB 8) 33 = .ok (.putfield 21, 3) := by decide +kernel
theorem u_8_33 {G : aG} {S : Nat → Bool} {f : Nat} {st : List Value} {ls : aL} {h : aH} {k n : Nat} {a : Nat} {x : Nat} (hs : S 33 = false) : WP 8 G S (f + 1) 33 ls (.ref x :: .ref a :: st) h k n = (oH (fput h a 5 3 (.ref x)) (WP 8 G S f) 36 ls st k n) := by rw [wp_s dd_8_33 rfl hs]; rfl
theorem dd_8_36 : decode (mB 8) 36 = .ok (.aload_n 0, 1) := by decide +kernel
theorem u_8_36 {G : aG} {S : Nat → Bool} {f : Nat} {st : List Value} {ls : aL} {h : aH} {k n : Nat} (hs : S 36 = false) : WP 8 G S (f + 1) 36 ls st h k n = (oA (lget ls 0) (WP 8 G S f) 37 ls st h k n) := by rw [wp_s dd_8_36 rfl hs]; rfl
theorem dd_8_37 : decode (mB 8) 37 = .ok (.bipush 16, 2) := by decide +kernel
theorem u_8_37 {G : aG} {S : Nat → Bool} {f : Nat} {st : List Value} {ls : aL} {h : aH} {k n : Nat} (hs : S 37 = false) : WP 8 G S (f + 1) 37 ls st h k n = (WP 8 G S f 39 ls (.int (nI 16) :: st) h k n) := by rw [wp_s dd_8_37 rfl hs]; rfl
theorem dd_8_39 : decode (mB 8) 39 = .ok (.newarray .int, 2) := by decide +kernel
theorem u_8_39 {G : aG} {S : Nat → Bool} {f : Nat} {st : List Value} {ls : aL} {h : aH} {k n : Nat} {x : Int32} (hs : S 39 = false) : WP 8 G S (f + 1) 39 ls (.int x :: st) h k n = (¬ x < 0 ∧ x.toNatClampNeg * 4 ≤ 536870912 ∧ oNew G (cI x.toNatClampNeg) x.toNatClampNeg (WP 8 G S f) 41 ls st h k n) := by rw [wp_s dd_8_39 rfl hs]; rfl
theorem dd_8_41 : decode (mB 8) 41 = .ok (.putfield 24, 3) := by decide +kernel
theorem u_8_41 {G : aG} {S : Nat → Bool} {f : Nat} {st : List Value} {ls : aL} {h : aH} {k n : Nat} {a : Nat} {x : Nat} (hs : S 41 = false) : WP 8 G S (f + 1) 41 ls (.ref x :: .ref a :: st) h k n = (oH (fput h a 5 4 (.ref x)) (WP 8 G S f) 44 ls st k n) := by rw [wp_s dd_8_41 rfl hs]; rfl
theorem dd_8_44 : decode (mB 8) 44 = .ok (.aload_n 0, 1) := by decide +kernel
theorem u_8_44 {G : aG} {S : Nat → Bool} {f : Nat} {st : List Value} {ls : aL} {h : aH} {k n : Nat} (hs : S 44 = false) : WP 8 G S (f + 1) 44 ls st h k n = (oA (lget ls 0) (WP 8 G S f) 45 ls st h k n) := by rw [wp_s dd_8_44 rfl hs]; rfl
theorem dd_8_45 : decode (mB 8) 45 = .ok (.iconst 4, 1) := by decide +kernel
theorem u_8_45 {G : aG} {S : Nat → Bool} {f : Nat} {st : List Value} {ls : aL} {h : aH} {k n : Nat} (hs : S 45 = false) : WP 8 G S (f + 1) 45 ls st h k n = (WP 8 G S f 46 ls (.int (nI 4) :: st) h k n) := by rw [wp_s dd_8_45 rfl hs]; rfl
theorem dd_8_46 : decode (mB 8) 46 = .ok (.newarray .int, 2) := by decide +kernel
theorem u_8_46 {G : aG} {S : Nat → Bool} {f : Nat} {st : List Value} {ls : aL} {h : aH} {k n : Nat} {x : Int32} (hs : S 46 = false) : WP 8 G S (f + 1) 46 ls (.int x :: st) h k n = (¬ x < 0 ∧ x.toNatClampNeg * 4 ≤ 536870912 ∧ oNew G (cI x.toNatClampNeg) x.toNatClampNeg (WP 8 G S f) 48 ls st h k n) := by rw [wp_s dd_8_46 rfl hs]; rfl
theorem dd_8_48 : decode (mB 8) 48 = .ok (.putfield 27, 3) := by decide +kernel
theorem u_8_48 {G : aG} {S : Nat → Bool} {f : Nat} {st : List Value} {ls : aL} {h : aH} {k n : Nat} {a : Nat} {x : Nat} (hs : S 48 = false) : WP 8 G S (f + 1) 48 ls (.ref x :: .ref a :: st) h k n = (oH (fput h a 5 8 (.ref x)) (WP 8 G S f) 51 ls st k n) := by rw [wp_s dd_8_48 rfl hs]; rfl
theorem dd_8_51 : decode (mB 8) 51 = .ok (.aload_n 0, 1) := by decide +kernel
theorem u_8_51 {G : aG} {S : Nat → Bool} {f : Nat} {st : List Value} {ls : aL} {h : aH} {k n : Nat} (hs : S 51 = false) : WP 8 G S (f + 1) 51 ls st h k n = (oA (lget ls 0) (WP 8 G S f) 52 ls st h k n) := by rw [wp_s dd_8_51 rfl hs]; rfl
theorem dd_8_52 : decode (mB 8) 52 = .ok (.iconst 4, 1) := by decide +kernel
theorem u_8_52 {G : aG} {S : Nat → Bool} {f : Nat} {st : List Value} {ls : aL} {h : aH} {k n : Nat} (hs : S 52 = false) : WP 8 G S (f + 1) 52 ls st h k n = (WP 8 G S f 53 ls (.int (nI 4) :: st) h k n) := by rw [wp_s dd_8_52 rfl hs]; rfl
theorem dd_8_53 : decode (mB 8) 53 = .ok (.newarray .int, 2) := by decide +kernel
theorem u_8_53 {G : aG} {S : Nat → Bool} {f : Nat} {st : List Value} {ls : aL} {h : aH} {k n : Nat} {x : Int32} (hs : S 53 = false) : WP 8 G S (f + 1) 53 ls (.int x :: st) h k n = (¬ x < 0 ∧ x.toNatClampNeg * 4 ≤ 536870912 ∧ oNew G (cI x.toNatClampNeg) x.toNatClampNeg (WP 8 G S f) 55 ls st h k n) := by rw [wp_s dd_8_53 rfl hs]; rfl
theorem dd_8_55 : decode (mB 8) 55 = .ok (.putfield 30, 3) := by decide +kernel
theorem u_8_55 {G : aG} {S : Nat → Bool} {f : Nat} {st : List Value} {ls : aL} {h : aH} {k n : Nat} {a : Nat} {x : Nat} (hs : S 55 = false) : WP 8 G S (f + 1) 55 ls (.ref x :: .ref a :: st) h k n = (oH (fput h a 5 9 (.ref x)) (WP 8 G S f) 58 ls st k n) := by rw [wp_s dd_8_55 rfl hs]; rfl
theorem dd_8_58 : decode (mB 8) 58 = .ok (.aload_n 0, 1) := by decide +kernel
theorem u_8_58 {G : aG} {S : Nat → Bool} {f : Nat} {st : List Value} {ls : aL} {h : aH} {k n : Nat} (hs : S 58 = false) : WP 8 G S (f + 1) 58 ls st h k n = (oA (lget ls 0) (WP 8 G S f) 59 ls st h k n) := by rw [wp_s dd_8_58 rfl hs]; rfl
theorem dd_8_59 : decode (mB 8) 59 = .ok (.iconst 4, 1) := by decide +kernel
theorem u_8_59 {G : aG} {S : Nat → Bool} {f : Nat} {st : List Value} {ls : aL} {h : aH} {k n : Nat} (hs : S 59 = false) : WP 8 G S (f + 1) 59 ls st h k n = (WP 8 G S f 60 ls (.int (nI 4) :: st) h k n) := by rw [wp_s dd_8_59 rfl hs]; rfl
theorem dd_8_60 : decode (mB 8) 60 = .ok (.newarray .int, 2) := by decide +kernel
theorem u_8_60 {G : aG} {S : Nat → Bool} {f : Nat} {st : List Value} {ls : aL} {h : aH} {k n : Nat} {x : Int32} (hs : S 60 = false) : WP 8 G S (f + 1) 60 ls (.int x :: st) h k n = (¬ x < 0 ∧ x.toNatClampNeg * 4 ≤ 536870912 ∧ oNew G (cI x.toNatClampNeg) x.toNatClampNeg (WP 8 G S f) 62 ls st h k n) := by rw [wp_s dd_8_60 rfl hs]; rfl
theorem dd_8_62 : decode (mB 8) 62 = .ok (.putfield 33, 3) := by decide +kernel
theorem u_8_62 {G : aG} {S : Nat → Bool} {f : Nat} {st : List Value} {ls : aL} {h : aH} {k n : Nat} {a : Nat} {x : Nat} (hs : S 62 = false) : WP 8 G S (f + 1) 62 ls (.ref x :: .ref a :: st) h k n = (oH (fput h a 5 10 (.ref x)) (WP 8 G S f) 65 ls st k n) := by rw [wp_s dd_8_62 rfl hs]; rfl
theorem dd_8_65 : decode (mB 8) 65 = .ok (.aload_n 0, 1) := by decide +kernel
theorem u_8_65 {G : aG} {S : Nat → Bool} {f : Nat} {st : List Value} {ls : aL} {h : aH} {k n : Nat} (hs : S 65 = false) : WP 8 G S (f + 1) 65 ls st h k n = (oA (lget ls 0) (WP 8 G S f) 66 ls st h k n) := by rw [wp_s dd_8_65 rfl hs]; rfl
theorem dd_8_66 : decode (mB 8) 66 = .ok (.iconst 4, 1) := by decide +kernel
theorem u_8_66 {G : aG} {S : Nat → Bool} {f : Nat} {st : List Value} {ls : aL} {h : aH} {k n : Nat} (hs : S 66 = false) : WP 8 G S (f + 1) 66 ls st h k n = (WP 8 G S f 67 ls (.int (nI 4) :: st) h k n) := by rw [wp_s dd_8_66 rfl hs]; rfl
theorem dd_8_67 : decode (mB 8) 67 = .ok (.newarray .int, 2) := by decide +kernel
theorem u_8_67 {G : aG} {S : Nat → Bool} {f : Nat} {st : List Value} {ls : aL} {h : aH} {k n : Nat} {x : Int32} (hs : S 67 = false) : WP 8 G S (f + 1) 67 ls (.int x :: st) h k n = (¬ x < 0 ∧ x.toNatClampNeg * 4 ≤ 536870912 ∧ oNew G (cI x.toNatClampNeg) x.toNatClampNeg (WP 8 G S f) 69 ls st h k n) := by rw [wp_s dd_8_67 rfl hs]; rfl
theorem dd_8_69 : decode (mB 8) 69 = .ok (.putfield 36, 3) := by decide +kernel
theorem u_8_69 {G : aG} {S : Nat → Bool} {f : Nat} {st : List Value} {ls : aL} {h : aH} {k n : Nat} {a : Nat} {x : Nat} (hs : S 69 = false) : WP 8 G S (f + 1) 69 ls (.ref x :: .ref a :: st) h k n = (oH (fput h a 5 11 (.ref x)) (WP 8 G S f) 72 ls st k n) := by rw [wp_s dd_8_69 rfl hs]; rfl
theorem dd_8_72 : decode (mB 8) 72 = .ok (.return_, 1) := by decide +kernel
theorem u_8_72 {G : aG} {S : Nat → Bool} {f : Nat} {ls : aL} {h : aH} {k n : Nat} (hs : S 72 = false) : WP 8 G S (f + 1) 72 ls [] h k n = (RET G none h k n) := by rw [wp_s dd_8_72 rfl hs]; rfl
theorem dd_10_0 : decode (mB 10) 0 = .ok (.aload_n 0, 1) := by decide +kernel
theorem u_10_0 {G : aG} {S : Nat → Bool} {f : Nat} {st : List Value} {ls : aL} {h : aH} {k n : Nat} (hs : S 0 = false) : WP 10 G S (f + 1) 0 ls st h k n = (oA (lget ls 0) (WP 10 G S f) 1 ls st h k n) := by rw [wp_s dd_10_0 rfl hs]; rfl
theorem dd_10_1 : decode (mB 10) 1 = .ok (.iconst (-1), 1) := by decide +kernel
theorem u_10_1 {G : aG} {S : Nat → Bool} {f : Nat} {st : List Value} {ls : aL} {h : aH} {k n : Nat} (hs : S 1 = false) : WP 10 G S (f + 1) 1 ls st h k n = (WP 10 G S f 2 ls (.int (-1) :: st) h k n) := by rw [wp_s dd_10_1 rfl hs]; rfl
theorem dd_10_2 : decode (mB 10) 2 = .ok (.putfield 39, 3) := by decide +kernel
theorem u_10_2 {G : aG} {S : Nat → Bool} {f : Nat} {st : List Value} {ls : aL} {h : aH} {k n : Nat} {a : Nat} {x : Int32} (hs : S 2 = false) : WP 10 G S (f + 1) 2 ls (.int x :: .ref a :: st) h k n = (oH (fput h a 5 5 (.int x)) (WP 10 G S f) 5 ls st k n) := by rw [wp_s dd_10_2 rfl hs]; rfl
theorem dd_10_5 : decode (mB 10) 5 = .ok (.aload_n 0, 1) := by decide +kernel
theorem u_10_5 {G : aG} {S : Nat → Bool} {f : Nat} {st : List Value} {ls : aL} {h : aH} {k n : Nat} (hs : S 5 = false) : WP 10 G S (f + 1) 5 ls st h k n = (oA (lget ls 0) (WP 10 G S f) 6 ls st h k n) := by rw [wp_s dd_10_5 rfl hs]; rfl
theorem dd_10_6 : decode (mB 10) 6 = .ok (.iconst 0, 1) := by decide +kernel
theorem u_10_6 {G : aG} {S : Nat → Bool} {f : Nat} {st : List Value} {ls : aL} {h : aH} {k n : Nat} (hs : S 6 = false) : WP 10 G S (f + 1) 6 ls st h k n = (WP 10 G S f 7 ls (.int (nI 0) :: st) h k n) := by rw [wp_s dd_10_6 rfl hs]; rfl
theorem dd_10_7 : decode (mB 10) 7 = .ok (.putfield 43, 3) := by decide +kernel
theorem u_10_7 {G : aG} {S : Nat → Bool} {f : Nat} {st : List Value} {ls : aL} {h : aH} {k n : Nat} {a : Nat} {x : Int32} (hs : S 7 = false) : WP 10 G S (f + 1) 7 ls (.int x :: .ref a :: st) h k n = (oH (fput h a 5 7 (.int x)) (WP 10 G S f) 10 ls st k n) := by rw [wp_s dd_10_7 rfl hs]; rfl
theorem dd_10_10 : decode (mB 10) 10 = .ok (.iconst 0, 1) := by decide +kernel
theorem u_10_10 {G : aG} {S : Nat → Bool} {f : Nat} {st : List Value} {ls : aL} {h : aH} {k n : Nat} (hs : S 10 = false) : WP 10 G S (f + 1) 10 ls st h k n = (WP 10 G S f 11 ls (.int (nI 0) :: st) h k n) := by rw [wp_s dd_10_10 rfl hs]; rfl
theorem dd_10_11 : decode (mB 10) 11 = .ok (.istore_n 3, 1) := by decide +kernel
theorem u_10_11 {G : aG} {S : Nat → Bool} {f : Nat} {st : List Value} {ls : aL} {h : aH} {k n : Nat} {x : Int32} (hs : S 11 = false) : WP 10 G S (f + 1) 11 ls (.int x :: st) h k n = (WP 10 G S f 12 (lput1 ls 3 (.int x)) st h k n) := by rw [wp_s dd_10_11 rfl hs]; rfl
theorem dd_10_12 : decode (mB 10) 12 = .ok (.iload_n 3, 1) := by decide +kernel
theorem u_10_12 {G : aG} {S : Nat → Bool} {f : Nat} {st : List Value} {ls : aL} {h : aH} {k n : Nat} (hs : S 12 = false) : WP 10 G S (f + 1) 12 ls st h k n = (oI (lget ls 3) (WP 10 G S f) 13 ls st h k n) := by rw [wp_s dd_10_12 rfl hs]; rfl
theorem v_10_12 {G : aG} {S : Nat → Bool} {f : Nat} {st : List Value} {ls : aL} {h : aH} {k n : Nat} : WQ 10 G S f 12 ls st h k n = (oI (lget ls 3) (WP 10 G S f) 13 ls st h k n) := by rw [wq_s dd_10_12 rfl]; rfl
theorem dd_10_13 : decode (mB 10) 13 = .ok (.bipush 16, 2) := by decide +kernel
theorem u_10_13 {G : aG} {S : Nat → Bool} {f : Nat} {st : List Value} {ls : aL} {h : aH} {k n : Nat} (hs : S 13 = false) : WP 10 G S (f + 1) 13 ls st h k n = (WP 10 G S f 15 ls (.int (nI 16) :: st) h k n) := by rw [wp_s dd_10_13 rfl hs]; rfl
theorem dd_10_15 : decode (mB 10) 15 = .ok (.if_icmp .ge 46, 3) := by decide +kernel
theorem u_10_15 {G : aG} {S : Nat → Bool} {f : Nat} {st : List Value} {ls : aL} {h : aH} {k n : Nat} {x y : Int32} (hs : S 15 = false) : WP 10 G S (f + 1) 15 ls (.int y :: .int x :: st) h k n = (if y ≤ x then WP 10 G S f 61 ls st h k n else WP 10 G S f 18 ls st h k n) := by rw [wp_s dd_10_15 rfl hs]; exact br_ite (c := y ≤ x)
theorem dd_10_18 : decode (mB 10) 18 = .ok (.lload_n 1, 1) := by decide +kernel
theorem u_10_18 {G : aG} {S : Nat → Bool} {f : Nat} {st : List Value} {ls : aL} {h : aH} {k n : Nat} (hs : S 18 = false) : WP 10 G S (f + 1) 18 ls st h k n = (oJ (lget ls 1) (WP 10 G S f) 19 ls st h k n) := by rw [wp_s dd_10_18 rfl hs]; rfl
theorem dd_10_19 : decode (mB 10) 19 = .ok (.iconst 4, 1) := by decide +kernel
theorem u_10_19 {G : aG} {S : Nat → Bool} {f : Nat} {st : List Value} {ls : aL} {h : aH} {k n : Nat} (hs : S 19 = false) : WP 10 G S (f + 1) 19 ls st h k n = (WP 10 G S f 20 ls (.int (nI 4) :: st) h k n) := by rw [wp_s dd_10_19 rfl hs]; rfl
theorem dd_10_20 : decode (mB 10) 20 = .ok (.iload_n 3, 1) := by decide +kernel
theorem u_10_20 {G : aG} {S : Nat → Bool} {f : Nat} {st : List Value} {ls : aL} {h : aH} {k n : Nat} (hs : S 20 = false) : WP 10 G S (f + 1) 20 ls st h k n = (oI (lget ls 3) (WP 10 G S f) 21 ls st h k n) := by rw [wp_s dd_10_20 rfl hs]; rfl
theorem dd_10_21 : decode (mB 10) 21 = .ok (.imul, 1) := by decide +kernel
theorem u_10_21 {G : aG} {S : Nat → Bool} {f : Nat} {st : List Value} {ls : aL} {h : aH} {k n : Nat} {x y : Int32} (hs : S 21 = false) : WP 10 G S (f + 1) 21 ls (.int y :: .int x :: st) h k n = (WP 10 G S f 22 ls (.int (x * y) :: st) h k n) := by rw [wp_s dd_10_21 rfl hs]; rfl
theorem dd_10_22 : decode (mB 10) 22 = .ok (.lushr, 1) := by decide +kernel
theorem u_10_22 {G : aG} {S : Nat → Bool} {f : Nat} {st : List Value} {ls : aL} {h : aH} {k n : Nat} {x : Int64} {y : Int32} (hs : S 22 = false) : WP 10 G S (f + 1) 22 ls (.int y :: .long x :: st) h k n = (WP 10 G S f 23 ls (.long ((x.toUInt64 >>> (y.toInt64.toUInt64 &&& Int64.toUInt64 63)).toInt64) :: st) h k n) := by rw [wp_s dd_10_22 rfl hs]; rfl
theorem dd_10_23 : decode (mB 10) 23 = .ok (.l2i, 1) := by decide +kernel
theorem u_10_23 {G : aG} {S : Nat → Bool} {f : Nat} {st : List Value} {ls : aL} {h : aH} {k n : Nat} {x : Int64} (hs : S 23 = false) : WP 10 G S (f + 1) 23 ls (.long x :: st) h k n = (WP 10 G S f 24 ls (.int x.toInt32 :: st) h k n) := by rw [wp_s dd_10_23 rfl hs]; rfl
theorem dd_10_24 : decode (mB 10) 24 = .ok (.bipush 15, 2) := by decide +kernel
theorem u_10_24 {G : aG} {S : Nat → Bool} {f : Nat} {st : List Value} {ls : aL} {h : aH} {k n : Nat} (hs : S 24 = false) : WP 10 G S (f + 1) 24 ls st h k n = (WP 10 G S f 26 ls (.int (nI 15) :: st) h k n) := by rw [wp_s dd_10_24 rfl hs]; rfl
theorem dd_10_26 : decode (mB 10) 26 = .ok (.iand, 1) := by decide +kernel
theorem u_10_26 {G : aG} {S : Nat → Bool} {f : Nat} {st : List Value} {ls : aL} {h : aH} {k n : Nat} {x y : Int32} (hs : S 26 = false) : WP 10 G S (f + 1) 26 ls (.int y :: .int x :: st) h k n = (WP 10 G S f 27 ls (.int (x &&& y) :: st) h k n) := by rw [wp_s dd_10_26 rfl hs]; rfl
theorem dd_10_27 : decode (mB 10) 27 = .ok (.istore 4, 2) := by decide +kernel
theorem u_10_27 {G : aG} {S : Nat → Bool} {f : Nat} {st : List Value} {ls : aL} {h : aH} {k n : Nat} {x : Int32} (hs : S 27 = false) : WP 10 G S (f + 1) 27 ls (.int x :: st) h k n = (WP 10 G S f 29 (lput1 ls 4 (.int x)) st h k n) := by rw [wp_s dd_10_27 rfl hs]; rfl
theorem dd_10_29 : decode (mB 10) 29 = .ok (.iload 4, 2) := by decide +kernel
theorem u_10_29 {G : aG} {S : Nat → Bool} {f : Nat} {st : List Value} {ls : aL} {h : aH} {k n : Nat} (hs : S 29 = false) : WP 10 G S (f + 1) 29 ls st h k n = (oI (lget ls 4) (WP 10 G S f) 31 ls st h k n) := by rw [wp_s dd_10_29 rfl hs]; rfl
theorem dd_10_31 : decode (mB 10) 31 = .ok (.ifCond .ne 6, 3) := by decide +kernel
theorem u_10_31 {G : aG} {S : Nat → Bool} {f : Nat} {st : List Value} {ls : aL} {h : aH} {k n : Nat} {x : Int32} (hs : S 31 = false) : WP 10 G S (f + 1) 31 ls (.int x :: st) h k n = (if x = nI 0 then WP 10 G S f 34 ls st h k n else WP 10 G S f 37 ls st h k n) := by rw [wp_s dd_10_31 rfl hs]; exact br_iten (c := x = nI 0)
theorem dd_10_34 : decode (mB 10) 34 = .ok (.goto 27, 3) := by decide +kernel
theorem u_10_34 {G : aG} {S : Nat → Bool} {f : Nat} {st : List Value} {ls : aL} {h : aH} {k n : Nat} (hs : S 34 = false) : WP 10 G S (f + 1) 34 ls st h k n = (WP 10 G S f 61 ls st h k n) := by rw [wp_s dd_10_34 rfl hs]; rfl
theorem dd_10_37 : decode (mB 10) 37 = .ok (.aload_n 0, 1) := by decide +kernel
theorem u_10_37 {G : aG} {S : Nat → Bool} {f : Nat} {st : List Value} {ls : aL} {h : aH} {k n : Nat} (hs : S 37 = false) : WP 10 G S (f + 1) 37 ls st h k n = (oA (lget ls 0) (WP 10 G S f) 38 ls st h k n) := by rw [wp_s dd_10_37 rfl hs]; rfl
theorem dd_10_38 : decode (mB 10) 38 = .ok (.getfield 9, 3) := by decide +kernel
theorem u_10_38 {G : aG} {S : Nat → Bool} {f : Nat} {st : List Value} {ls : aL} {h : aH} {k n : Nat} {a : Nat} (hs : S 38 = false) : WP 10 G S (f + 1) 38 ls (.ref a :: st) h k n = (oV (fget h a 5 0) (WP 10 G S f) 41 ls st h k n) := by rw [wp_s dd_10_38 rfl hs]; rfl
theorem dd_10_41 : decode (mB 10) 41 = .ok (.iload_n 3, 1) := by decide +kernel
theorem u_10_41 {G : aG} {S : Nat → Bool} {f : Nat} {st : List Value} {ls : aL} {h : aH} {k n : Nat} (hs : S 41 = false) : WP 10 G S (f + 1) 41 ls st h k n = (oI (lget ls 3) (WP 10 G S f) 42 ls st h k n) := by rw [wp_s dd_10_41 rfl hs]; rfl
theorem dd_10_42 : decode (mB 10) 42 = .ok (.iload 4, 2) := by decide +kernel
theorem u_10_42 {G : aG} {S : Nat → Bool} {f : Nat} {st : List Value} {ls : aL} {h : aH} {k n : Nat} (hs : S 42 = false) : WP 10 G S (f + 1) 42 ls st h k n = (oI (lget ls 4) (WP 10 G S f) 44 ls st h k n) := by rw [wp_s dd_10_42 rfl hs]; rfl
theorem dd_10_44 : decode (mB 10) 44 = .ok (.iastore, 1) := by decide +kernel
theorem u_10_44 {G : aG} {S : Nat → Bool} {f : Nat} {st : List Value} {ls : aL} {h : aH} {k n : Nat} {i x : Int32} {a : Nat} (hs : S 44 = false) : WP 10 G S (f + 1) 44 ls (.int x :: .int i :: .ref a :: st) h k n = (oIst (iget h a 1) a i x (WP 10 G S f) 45 ls st h k n) := by rw [wp_s dd_10_44 rfl hs]; rfl
theorem dd_10_45 : decode (mB 10) 45 = .ok (.aload_n 0, 1) := by decide +kernel
theorem u_10_45 {G : aG} {S : Nat → Bool} {f : Nat} {st : List Value} {ls : aL} {h : aH} {k n : Nat} (hs : S 45 = false) : WP 10 G S (f + 1) 45 ls st h k n = (oA (lget ls 0) (WP 10 G S f) 46 ls st h k n) := by rw [wp_s dd_10_45 rfl hs]; rfl
theorem dd_10_46 : decode (mB 10) 46 = .ok (.iload_n 3, 1) := by decide +kernel
theorem u_10_46 {G : aG} {S : Nat → Bool} {f : Nat} {st : List Value} {ls : aL} {h : aH} {k n : Nat} (hs : S 46 = false) : WP 10 G S (f + 1) 46 ls st h k n = (oI (lget ls 3) (WP 10 G S f) 47 ls st h k n) := by rw [wp_s dd_10_46 rfl hs]; rfl
theorem dd_10_47 : decode (mB 10) 47 = .ok (.invokevirtual 46, 3) := by decide +kernel
theorem u_10_47 {G : aG} {S : Nat → Bool} {f : Nat} {st : List Value} {ls : aL} {h : aH} {k n : Nat} {v1 : Value} {b : Nat} (hs : S 47 = false) : WP 10 G S (f + 1) 47 ls (v1 :: .ref b :: st) h k n = (rcv (hget h b) 5 ∧ CAL G (WP 10 G S f) 11 [.ref b, v1] 50 ls st h k n) := by rw [wp_s dd_10_47 rfl hs]; rfl
theorem dd_10_50 : decode (mB 10) 50 = .ok (.aload_n 0, 1) := by decide +kernel
theorem u_10_50 {G : aG} {S : Nat → Bool} {f : Nat} {st : List Value} {ls : aL} {h : aH} {k n : Nat} (hs : S 50 = false) : WP 10 G S (f + 1) 50 ls st h k n = (oA (lget ls 0) (WP 10 G S f) 51 ls st h k n) := by rw [wp_s dd_10_50 rfl hs]; rfl
theorem dd_10_51 : decode (mB 10) 51 = .ok (.iload_n 3, 1) := by decide +kernel
theorem u_10_51 {G : aG} {S : Nat → Bool} {f : Nat} {st : List Value} {ls : aL} {h : aH} {k n : Nat} (hs : S 51 = false) : WP 10 G S (f + 1) 51 ls st h k n = (oI (lget ls 3) (WP 10 G S f) 52 ls st h k n) := by rw [wp_s dd_10_51 rfl hs]; rfl
theorem dd_10_52 : decode (mB 10) 52 = .ok (.putfield 39, 3) := by decide +kernel
theorem u_10_52 {G : aG} {S : Nat → Bool} {f : Nat} {st : List Value} {ls : aL} {h : aH} {k n : Nat} {a : Nat} {x : Int32} (hs : S 52 = false) : WP 10 G S (f + 1) 52 ls (.int x :: .ref a :: st) h k n = (oH (fput h a 5 5 (.int x)) (WP 10 G S f) 55 ls st k n) := by rw [wp_s dd_10_52 rfl hs]; rfl
theorem dd_10_55 : decode (mB 10) 55 = .ok (.iinc 3 1, 3) := by decide +kernel
theorem u_10_55 {G : aG} {S : Nat → Bool} {f : Nat} {st : List Value} {ls : aL} {h : aH} {k n : Nat} (hs : S 55 = false) : WP 10 G S (f + 1) 55 ls st h k n = (oInc (lget ls 3) (nI 1) (WP 10 G S f) 3 58 ls st h k n) := by rw [wp_s dd_10_55 rfl hs]; rfl
theorem dd_10_58 : decode (mB 10) 58 = .ok (.goto (-46), 3) := by decide +kernel
theorem u_10_58 {G : aG} {S : Nat → Bool} {f : Nat} {st : List Value} {ls : aL} {h : aH} {k n : Nat} (hs : S 58 = false) : WP 10 G S (f + 1) 58 ls st h k n = (WP 10 G S f 12 ls st h k n) := by rw [wp_s dd_10_58 rfl hs]; rfl
theorem dd_10_61 : decode (mB 10) 61 = .ok (.return_, 1) := by decide +kernel
theorem u_10_61 {G : aG} {S : Nat → Bool} {f : Nat} {ls : aL} {h : aH} {k n : Nat} (hs : S 61 = false) : WP 10 G S (f + 1) 61 ls [] h k n = (RET G none h k n) := by rw [wp_s dd_10_61 rfl hs]; rfl
theorem dd_11_0 : decode (mB 11) 0 = .ok (.aload_n 0, 1) := by decide +kernel
theorem u_11_0 {G : aG} {S : Nat → Bool} {f : Nat} {st : List Value} {ls : aL} {h : aH} {k n : Nat} (hs : S 0 = false) : WP 11 G S (f + 1) 0 ls st h k n = (oA (lget ls 0) (WP 11 G S f) 1 ls st h k n) := by rw [wp_s dd_11_0 rfl hs]; rfl
theorem dd_11_1 : decode (mB 11) 1 = .ok (.getfield 9, 3) := by decide +kernel
theorem u_11_1 {G : aG} {S : Nat → Bool} {f : Nat} {st : List Value} {ls : aL} {h : aH} {k n : Nat} {a : Nat} (hs : S 1 = false) : WP 11 G S (f + 1) 1 ls (.ref a :: st) h k n = (oV (fget h a 5 0) (WP 11 G S f) 4 ls st h k n) := by rw [wp_s dd_11_1 rfl hs]; rfl
theorem dd_11_4 : decode (mB 11) 4 = .ok (.iload_n 1, 1) := by decide +kernel
theorem u_11_4 {G : aG} {S : Nat → Bool} {f : Nat} {st : List Value} {ls : aL} {h : aH} {k n : Nat} (hs : S 4 = false) : WP 11 G S (f + 1) 4 ls st h k n = (oI (lget ls 1) (WP 11 G S f) 5 ls st h k n) := by rw [wp_s dd_11_4 rfl hs]; rfl
theorem dd_11_5 : decode (mB 11) 5 = .ok (.iaload, 1) := by decide +kernel
theorem u_11_5 {G : aG} {S : Nat → Bool} {f : Nat} {st : List Value} {ls : aL} {h : aH} {k n : Nat} {i : Int32} {a : Nat} (hs : S 5 = false) : WP 11 G S (f + 1) 5 ls (.int i :: .ref a :: st) h k n = (oIld (iget h a 1) i (WP 11 G S f) 6 ls st h k n) := by rw [wp_s dd_11_5 rfl hs]; rfl
theorem dd_11_6 : decode (mB 11) 6 = .ok (.istore_n 2, 1) := by decide +kernel
theorem u_11_6 {G : aG} {S : Nat → Bool} {f : Nat} {st : List Value} {ls : aL} {h : aH} {k n : Nat} {x : Int32} (hs : S 6 = false) : WP 11 G S (f + 1) 6 ls (.int x :: st) h k n = (WP 11 G S f 7 (lput1 ls 2 (.int x)) st h k n) := by rw [wp_s dd_11_6 rfl hs]; rfl
theorem dd_11_7 : decode (mB 11) 7 = .ok (.iload_n 1, 1) := by decide +kernel
theorem u_11_7 {G : aG} {S : Nat → Bool} {f : Nat} {st : List Value} {ls : aL} {h : aH} {k n : Nat} (hs : S 7 = false) : WP 11 G S (f + 1) 7 ls st h k n = (oI (lget ls 1) (WP 11 G S f) 8 ls st h k n) := by rw [wp_s dd_11_7 rfl hs]; rfl
theorem dd_11_8 : decode (mB 11) 8 = .ok (.iconst 1, 1) := by decide +kernel
theorem u_11_8 {G : aG} {S : Nat → Bool} {f : Nat} {st : List Value} {ls : aL} {h : aH} {k n : Nat} (hs : S 8 = false) : WP 11 G S (f + 1) 8 ls st h k n = (WP 11 G S f 9 ls (.int (nI 1) :: st) h k n) := by rw [wp_s dd_11_8 rfl hs]; rfl
theorem dd_11_9 : decode (mB 11) 9 = .ok (.isub, 1) := by decide +kernel
theorem u_11_9 {G : aG} {S : Nat → Bool} {f : Nat} {st : List Value} {ls : aL} {h : aH} {k n : Nat} {x y : Int32} (hs : S 9 = false) : WP 11 G S (f + 1) 9 ls (.int y :: .int x :: st) h k n = (WP 11 G S f 10 ls (.int (x - y) :: st) h k n) := by rw [wp_s dd_11_9 rfl hs]; rfl
theorem dd_11_10 : decode (mB 11) 10 = .ok (.istore_n 3, 1) := by decide +kernel
theorem u_11_10 {G : aG} {S : Nat → Bool} {f : Nat} {st : List Value} {ls : aL} {h : aH} {k n : Nat} {x : Int32} (hs : S 10 = false) : WP 11 G S (f + 1) 10 ls (.int x :: st) h k n = (WP 11 G S f 11 (lput1 ls 3 (.int x)) st h k n) := by rw [wp_s dd_11_10 rfl hs]; rfl
theorem dd_11_11 : decode (mB 11) 11 = .ok (.iload_n 3, 1) := by decide +kernel
theorem u_11_11 {G : aG} {S : Nat → Bool} {f : Nat} {st : List Value} {ls : aL} {h : aH} {k n : Nat} (hs : S 11 = false) : WP 11 G S (f + 1) 11 ls st h k n = (oI (lget ls 3) (WP 11 G S f) 12 ls st h k n) := by rw [wp_s dd_11_11 rfl hs]; rfl
theorem dd_11_12 : decode (mB 11) 12 = .ok (.ifCond .lt 14, 3) := by decide +kernel
theorem u_11_12 {G : aG} {S : Nat → Bool} {f : Nat} {st : List Value} {ls : aL} {h : aH} {k n : Nat} {x : Int32} (hs : S 12 = false) : WP 11 G S (f + 1) 12 ls (.int x :: st) h k n = (if x < nI 0 then WP 11 G S f 26 ls st h k n else WP 11 G S f 15 ls st h k n) := by rw [wp_s dd_11_12 rfl hs]; exact br_ite (c := x < nI 0)
theorem dd_11_15 : decode (mB 11) 15 = .ok (.aload_n 0, 1) := by decide +kernel
theorem u_11_15 {G : aG} {S : Nat → Bool} {f : Nat} {st : List Value} {ls : aL} {h : aH} {k n : Nat} (hs : S 15 = false) : WP 11 G S (f + 1) 15 ls st h k n = (oA (lget ls 0) (WP 11 G S f) 16 ls st h k n) := by rw [wp_s dd_11_15 rfl hs]; rfl
theorem dd_11_16 : decode (mB 11) 16 = .ok (.getfield 15, 3) := by decide +kernel
theorem u_11_16 {G : aG} {S : Nat → Bool} {f : Nat} {st : List Value} {ls : aL} {h : aH} {k n : Nat} {a : Nat} (hs : S 16 = false) : WP 11 G S (f + 1) 16 ls (.ref a :: st) h k n = (oV (fget h a 5 1) (WP 11 G S f) 19 ls st h k n) := by rw [wp_s dd_11_16 rfl hs]; rfl
theorem dd_11_19 : decode (mB 11) 19 = .ok (.iload_n 3, 1) := by decide +kernel
theorem u_11_19 {G : aG} {S : Nat → Bool} {f : Nat} {st : List Value} {ls : aL} {h : aH} {k n : Nat} (hs : S 19 = false) : WP 11 G S (f + 1) 19 ls st h k n = (oI (lget ls 3) (WP 11 G S f) 20 ls st h k n) := by rw [wp_s dd_11_19 rfl hs]; rfl
theorem dd_11_20 : decode (mB 11) 20 = .ok (.iaload, 1) := by decide +kernel
theorem u_11_20 {G : aG} {S : Nat → Bool} {f : Nat} {st : List Value} {ls : aL} {h : aH} {k n : Nat} {i : Int32} {a : Nat} (hs : S 20 = false) : WP 11 G S (f + 1) 20 ls (.int i :: .ref a :: st) h k n = (oIld (iget h a 1) i (WP 11 G S f) 21 ls st h k n) := by rw [wp_s dd_11_20 rfl hs]; rfl
theorem dd_11_21 : decode (mB 11) 21 = .ok (.iconst 1, 1) := by decide +kernel
theorem u_11_21 {G : aG} {S : Nat → Bool} {f : Nat} {st : List Value} {ls : aL} {h : aH} {k n : Nat} (hs : S 21 = false) : WP 11 G S (f + 1) 21 ls st h k n = (WP 11 G S f 22 ls (.int (nI 1) :: st) h k n) := by rw [wp_s dd_11_21 rfl hs]; rfl
theorem dd_11_22 : decode (mB 11) 22 = .ok (.isub, 1) := by decide +kernel
theorem u_11_22 {G : aG} {S : Nat → Bool} {f : Nat} {st : List Value} {ls : aL} {h : aH} {k n : Nat} {x y : Int32} (hs : S 22 = false) : WP 11 G S (f + 1) 22 ls (.int y :: .int x :: st) h k n = (WP 11 G S f 23 ls (.int (x - y) :: st) h k n) := by rw [wp_s dd_11_22 rfl hs]; rfl
theorem dd_11_23 : decode (mB 11) 23 = .ok (.goto 4, 3) := by decide +kernel
theorem u_11_23 {G : aG} {S : Nat → Bool} {f : Nat} {st : List Value} {ls : aL} {h : aH} {k n : Nat} (hs : S 23 = false) : WP 11 G S (f + 1) 23 ls st h k n = (WP 11 G S f 27 ls st h k n) := by rw [wp_s dd_11_23 rfl hs]; rfl
theorem dd_11_26 : decode (mB 11) 26 = .ok (.iconst (-1), 1) := by decide +kernel
theorem u_11_26 {G : aG} {S : Nat → Bool} {f : Nat} {st : List Value} {ls : aL} {h : aH} {k n : Nat} (hs : S 26 = false) : WP 11 G S (f + 1) 26 ls st h k n = (WP 11 G S f 27 ls (.int (-1) :: st) h k n) := by rw [wp_s dd_11_26 rfl hs]; rfl
theorem dd_11_27 : decode (mB 11) 27 = .ok (.istore 4, 2) := by decide +kernel
theorem u_11_27 {G : aG} {S : Nat → Bool} {f : Nat} {st : List Value} {ls : aL} {h : aH} {k n : Nat} {x : Int32} (hs : S 27 = false) : WP 11 G S (f + 1) 27 ls (.int x :: st) h k n = (WP 11 G S f 29 (lput1 ls 4 (.int x)) st h k n) := by rw [wp_s dd_11_27 rfl hs]; rfl
theorem dd_11_29 : decode (mB 11) 29 = .ok (.aload_n 0, 1) := by decide +kernel
theorem u_11_29 {G : aG} {S : Nat → Bool} {f : Nat} {st : List Value} {ls : aL} {h : aH} {k n : Nat} (hs : S 29 = false) : WP 11 G S (f + 1) 29 ls st h k n = (oA (lget ls 0) (WP 11 G S f) 30 ls st h k n) := by rw [wp_s dd_11_29 rfl hs]; rfl
theorem dd_11_30 : decode (mB 11) 30 = .ok (.getfield 18, 3) := by decide +kernel
theorem u_11_30 {G : aG} {S : Nat → Bool} {f : Nat} {st : List Value} {ls : aL} {h : aH} {k n : Nat} {a : Nat} (hs : S 30 = false) : WP 11 G S (f + 1) 30 ls (.ref a :: st) h k n = (oV (fget h a 5 2) (WP 11 G S f) 33 ls st h k n) := by rw [wp_s dd_11_30 rfl hs]; rfl
theorem dd_11_33 : decode (mB 11) 33 = .ok (.iload_n 1, 1) := by decide +kernel
theorem u_11_33 {G : aG} {S : Nat → Bool} {f : Nat} {st : List Value} {ls : aL} {h : aH} {k n : Nat} (hs : S 33 = false) : WP 11 G S (f + 1) 33 ls st h k n = (oI (lget ls 1) (WP 11 G S f) 34 ls st h k n) := by rw [wp_s dd_11_33 rfl hs]; rfl
theorem dd_11_34 : decode (mB 11) 34 = .ok (.iload 4, 2) := by decide +kernel
theorem u_11_34 {G : aG} {S : Nat → Bool} {f : Nat} {st : List Value} {ls : aL} {h : aH} {k n : Nat} (hs : S 34 = false) : WP 11 G S (f + 1) 34 ls st h k n = (oI (lget ls 4) (WP 11 G S f) 36 ls st h k n) := by rw [wp_s dd_11_34 rfl hs]; rfl
theorem dd_11_36 : decode (mB 11) 36 = .ok (.iastore, 1) := by decide +kernel
theorem u_11_36 {G : aG} {S : Nat → Bool} {f : Nat} {st : List Value} {ls : aL} {h : aH} {k n : Nat} {i x : Int32} {a : Nat} (hs : S 36 = false) : WP 11 G S (f + 1) 36 ls (.int x :: .int i :: .ref a :: st) h k n = (oIst (iget h a 1) a i x (WP 11 G S f) 37 ls st h k n) := by rw [wp_s dd_11_36 rfl hs]; rfl
theorem dd_11_37 : decode (mB 11) 37 = .ok (.iload_n 2, 1) := by decide +kernel
theorem u_11_37 {G : aG} {S : Nat → Bool} {f : Nat} {st : List Value} {ls : aL} {h : aH} {k n : Nat} (hs : S 37 = false) : WP 11 G S (f + 1) 37 ls st h k n = (oI (lget ls 2) (WP 11 G S f) 38 ls st h k n) := by rw [wp_s dd_11_37 rfl hs]; rfl
theorem dd_11_38 : decode (mB 11) 38 = .ok (.bipush 9, 2) := by decide +kernel
theorem u_11_38 {G : aG} {S : Nat → Bool} {f : Nat} {st : List Value} {ls : aL} {h : aH} {k n : Nat} (hs : S 38 = false) : WP 11 G S (f + 1) 38 ls st h k n = (WP 11 G S f 40 ls (.int (nI 9) :: st) h k n) := by rw [wp_s dd_11_38 rfl hs]; rfl
theorem dd_11_40 : decode (mB 11) 40 = .ok (.if_icmp .le 7, 3) := by decide +kernel
theorem u_11_40 {G : aG} {S : Nat → Bool} {f : Nat} {st : List Value} {ls : aL} {h : aH} {k n : Nat} {x y : Int32} (hs : S 40 = false) : WP 11 G S (f + 1) 40 ls (.int y :: .int x :: st) h k n = (if x ≤ y then WP 11 G S f 47 ls st h k n else WP 11 G S f 43 ls st h k n) := by rw [wp_s dd_11_40 rfl hs]; exact br_ite (c := x ≤ y)
theorem dd_11_43 : decode (mB 11) 43 = .ok (.iload_n 3, 1) := by decide +kernel
theorem u_11_43 {G : aG} {S : Nat → Bool} {f : Nat} {st : List Value} {ls : aL} {h : aH} {k n : Nat} (hs : S 43 = false) : WP 11 G S (f + 1) 43 ls st h k n = (oI (lget ls 3) (WP 11 G S f) 44 ls st h k n) := by rw [wp_s dd_11_43 rfl hs]; rfl
theorem dd_11_44 : decode (mB 11) 44 = .ok (.ifCond .ge 71, 3) := by decide +kernel
theorem u_11_44 {G : aG} {S : Nat → Bool} {f : Nat} {st : List Value} {ls : aL} {h : aH} {k n : Nat} {x : Int32} (hs : S 44 = false) : WP 11 G S (f + 1) 44 ls (.int x :: st) h k n = (if nI 0 ≤ x then WP 11 G S f 115 ls st h k n else WP 11 G S f 47 ls st h k n) := by rw [wp_s dd_11_44 rfl hs]; exact br_ite (c := nI 0 ≤ x)
theorem dd_11_47 : decode (mB 11) 47 = .ok (.aload_n 0, 1) := by decide +kernel
theorem u_11_47 {G : aG} {S : Nat → Bool} {f : Nat} {st : List Value} {ls : aL} {h : aH} {k n : Nat} (hs : S 47 = false) : WP 11 G S (f + 1) 47 ls st h k n = (oA (lget ls 0) (WP 11 G S f) 48 ls st h k n) := by rw [wp_s dd_11_47 rfl hs]; rfl
theorem dd_11_48 : decode (mB 11) 48 = .ok (.getfield 15, 3) := by decide +kernel
theorem u_11_48 {G : aG} {S : Nat → Bool} {f : Nat} {st : List Value} {ls : aL} {h : aH} {k n : Nat} {a : Nat} (hs : S 48 = false) : WP 11 G S (f + 1) 48 ls (.ref a :: st) h k n = (oV (fget h a 5 1) (WP 11 G S f) 51 ls st h k n) := by rw [wp_s dd_11_48 rfl hs]; rfl
theorem dd_11_51 : decode (mB 11) 51 = .ok (.iload_n 1, 1) := by decide +kernel
theorem u_11_51 {G : aG} {S : Nat → Bool} {f : Nat} {st : List Value} {ls : aL} {h : aH} {k n : Nat} (hs : S 51 = false) : WP 11 G S (f + 1) 51 ls st h k n = (oI (lget ls 1) (WP 11 G S f) 52 ls st h k n) := by rw [wp_s dd_11_51 rfl hs]; rfl
theorem dd_11_52 : decode (mB 11) 52 = .ok (.iload_n 1, 1) := by decide +kernel
theorem u_11_52 {G : aG} {S : Nat → Bool} {f : Nat} {st : List Value} {ls : aL} {h : aH} {k n : Nat} (hs : S 52 = false) : WP 11 G S (f + 1) 52 ls st h k n = (oI (lget ls 1) (WP 11 G S f) 53 ls st h k n) := by rw [wp_s dd_11_52 rfl hs]; rfl
theorem dd_11_53 : decode (mB 11) 53 = .ok (.iastore, 1) := by decide +kernel
theorem u_11_53 {G : aG} {S : Nat → Bool} {f : Nat} {st : List Value} {ls : aL} {h : aH} {k n : Nat} {i x : Int32} {a : Nat} (hs : S 53 = false) : WP 11 G S (f + 1) 53 ls (.int x :: .int i :: .ref a :: st) h k n = (oIst (iget h a 1) a i x (WP 11 G S f) 54 ls st h k n) := by rw [wp_s dd_11_53 rfl hs]; rfl
theorem dd_11_54 : decode (mB 11) 54 = .ok (.aload_n 0, 1) := by decide +kernel
theorem u_11_54 {G : aG} {S : Nat → Bool} {f : Nat} {st : List Value} {ls : aL} {h : aH} {k n : Nat} (hs : S 54 = false) : WP 11 G S (f + 1) 54 ls st h k n = (oA (lget ls 0) (WP 11 G S f) 55 ls st h k n) := by rw [wp_s dd_11_54 rfl hs]; rfl
theorem dd_11_55 : decode (mB 11) 55 = .ok (.getfield 21, 3) := by decide +kernel
theorem u_11_55 {G : aG} {S : Nat → Bool} {f : Nat} {st : List Value} {ls : aL} {h : aH} {k n : Nat} {a : Nat} (hs : S 55 = false) : WP 11 G S (f + 1) 55 ls (.ref a :: st) h k n = (oV (fget h a 5 3) (WP 11 G S f) 58 ls st h k n) := by rw [wp_s dd_11_55 rfl hs]; rfl
theorem dd_11_58 : decode (mB 11) 58 = .ok (.iload_n 1, 1) := by decide +kernel
theorem u_11_58 {G : aG} {S : Nat → Bool} {f : Nat} {st : List Value} {ls : aL} {h : aH} {k n : Nat} (hs : S 58 = false) : WP 11 G S (f + 1) 58 ls st h k n = (oI (lget ls 1) (WP 11 G S f) 59 ls st h k n) := by rw [wp_s dd_11_58 rfl hs]; rfl
theorem dd_11_59 : decode (mB 11) 59 = .ok (.iload_n 2, 1) := by decide +kernel
theorem u_11_59 {G : aG} {S : Nat → Bool} {f : Nat} {st : List Value} {ls : aL} {h : aH} {k n : Nat} (hs : S 59 = false) : WP 11 G S (f + 1) 59 ls st h k n = (oI (lget ls 2) (WP 11 G S f) 60 ls st h k n) := by rw [wp_s dd_11_59 rfl hs]; rfl
theorem dd_11_60 : decode (mB 11) 60 = .ok (.bipush 8, 2) := by decide +kernel
theorem u_11_60 {G : aG} {S : Nat → Bool} {f : Nat} {st : List Value} {ls : aL} {h : aH} {k n : Nat} (hs : S 60 = false) : WP 11 G S (f + 1) 60 ls st h k n = (WP 11 G S f 62 ls (.int (nI 8) :: st) h k n) := by rw [wp_s dd_11_60 rfl hs]; rfl
theorem dd_11_62 : decode (mB 11) 62 = .ok (.if_icmp .gt 7, 3) := by decide +kernel
theorem u_11_62 {G : aG} {S : Nat → Bool} {f : Nat} {st : List Value} {ls : aL} {h : aH} {k n : Nat} {x y : Int32} (hs : S 62 = false) : WP 11 G S (f + 1) 62 ls (.int y :: .int x :: st) h k n = (if y < x then WP 11 G S f 69 ls st h k n else WP 11 G S f 65 ls st h k n) := by rw [wp_s dd_11_62 rfl hs]; exact br_ite (c := y < x)
theorem dd_11_65 : decode (mB 11) 65 = .ok (.iconst 2, 1) := by decide +kernel
theorem u_11_65 {G : aG} {S : Nat → Bool} {f : Nat} {st : List Value} {ls : aL} {h : aH} {k n : Nat} (hs : S 65 = false) : WP 11 G S (f + 1) 65 ls st h k n = (WP 11 G S f 66 ls (.int (nI 2) :: st) h k n) := by rw [wp_s dd_11_65 rfl hs]; rfl
theorem dd_11_66 : decode (mB 11) 66 = .ok (.goto 4, 3) := by decide +kernel
theorem u_11_66 {G : aG} {S : Nat → Bool} {f : Nat} {st : List Value} {ls : aL} {h : aH} {k n : Nat} (hs : S 66 = false) : WP 11 G S (f + 1) 66 ls st h k n = (WP 11 G S f 70 ls st h k n) := by rw [wp_s dd_11_66 rfl hs]; rfl
theorem dd_11_69 : decode (mB 11) 69 = .ok (.iconst 1, 1) := by decide +kernel
theorem u_11_69 {G : aG} {S : Nat → Bool} {f : Nat} {st : List Value} {ls : aL} {h : aH} {k n : Nat} (hs : S 69 = false) : WP 11 G S (f + 1) 69 ls st h k n = (WP 11 G S f 70 ls (.int (nI 1) :: st) h k n) := by rw [wp_s dd_11_69 rfl hs]; rfl
theorem dd_11_70 : decode (mB 11) 70 = .ok (.iastore, 1) := by decide +kernel
theorem u_11_70 {G : aG} {S : Nat → Bool} {f : Nat} {st : List Value} {ls : aL} {h : aH} {k n : Nat} {i x : Int32} {a : Nat} (hs : S 70 = false) : WP 11 G S (f + 1) 70 ls (.int x :: .int i :: .ref a :: st) h k n = (oIst (iget h a 1) a i x (WP 11 G S f) 71 ls st h k n) := by rw [wp_s dd_11_70 rfl hs]; rfl
theorem dd_11_71 : decode (mB 11) 71 = .ok (.aload_n 0, 1) := by decide +kernel
theorem u_11_71 {G : aG} {S : Nat → Bool} {f : Nat} {st : List Value} {ls : aL} {h : aH} {k n : Nat} (hs : S 71 = false) : WP 11 G S (f + 1) 71 ls st h k n = (oA (lget ls 0) (WP 11 G S f) 72 ls st h k n) := by rw [wp_s dd_11_71 rfl hs]; rfl
theorem dd_11_72 : decode (mB 11) 72 = .ok (.getfield 24, 3) := by decide +kernel
theorem u_11_72 {G : aG} {S : Nat → Bool} {f : Nat} {st : List Value} {ls : aL} {h : aH} {k n : Nat} {a : Nat} (hs : S 72 = false) : WP 11 G S (f + 1) 72 ls (.ref a :: st) h k n = (oV (fget h a 5 4) (WP 11 G S f) 75 ls st h k n) := by rw [wp_s dd_11_72 rfl hs]; rfl
theorem dd_11_75 : decode (mB 11) 75 = .ok (.iload_n 1, 1) := by decide +kernel
theorem u_11_75 {G : aG} {S : Nat → Bool} {f : Nat} {st : List Value} {ls : aL} {h : aH} {k n : Nat} (hs : S 75 = false) : WP 11 G S (f + 1) 75 ls st h k n = (oI (lget ls 1) (WP 11 G S f) 76 ls st h k n) := by rw [wp_s dd_11_75 rfl hs]; rfl
theorem dd_11_76 : decode (mB 11) 76 = .ok (.iload_n 2, 1) := by decide +kernel
theorem u_11_76 {G : aG} {S : Nat → Bool} {f : Nat} {st : List Value} {ls : aL} {h : aH} {k n : Nat} (hs : S 76 = false) : WP 11 G S (f + 1) 76 ls st h k n = (oI (lget ls 2) (WP 11 G S f) 77 ls st h k n) := by rw [wp_s dd_11_76 rfl hs]; rfl
theorem dd_11_77 : decode (mB 11) 77 = .ok (.bipush 8, 2) := by decide +kernel
theorem u_11_77 {G : aG} {S : Nat → Bool} {f : Nat} {st : List Value} {ls : aL} {h : aH} {k n : Nat} (hs : S 77 = false) : WP 11 G S (f + 1) 77 ls st h k n = (WP 11 G S f 79 ls (.int (nI 8) :: st) h k n) := by rw [wp_s dd_11_77 rfl hs]; rfl
theorem dd_11_79 : decode (mB 11) 79 = .ok (.if_icmp .gt 7, 3) := by decide +kernel
theorem u_11_79 {G : aG} {S : Nat → Bool} {f : Nat} {st : List Value} {ls : aL} {h : aH} {k n : Nat} {x y : Int32} (hs : S 79 = false) : WP 11 G S (f + 1) 79 ls (.int y :: .int x :: st) h k n = (if y < x then WP 11 G S f 86 ls st h k n else WP 11 G S f 82 ls st h k n) := by rw [wp_s dd_11_79 rfl hs]; exact br_ite (c := y < x)
theorem dd_11_82 : decode (mB 11) 82 = .ok (.iconst 1, 1) := by decide +kernel
theorem u_11_82 {G : aG} {S : Nat → Bool} {f : Nat} {st : List Value} {ls : aL} {h : aH} {k n : Nat} (hs : S 82 = false) : WP 11 G S (f + 1) 82 ls st h k n = (WP 11 G S f 83 ls (.int (nI 1) :: st) h k n) := by rw [wp_s dd_11_82 rfl hs]; rfl
theorem dd_11_83 : decode (mB 11) 83 = .ok (.goto 4, 3) := by decide +kernel
theorem u_11_83 {G : aG} {S : Nat → Bool} {f : Nat} {st : List Value} {ls : aL} {h : aH} {k n : Nat} (hs : S 83 = false) : WP 11 G S (f + 1) 83 ls st h k n = (WP 11 G S f 87 ls st h k n) := by rw [wp_s dd_11_83 rfl hs]; rfl
theorem dd_11_86 : decode (mB 11) 86 = .ok (.iconst 0, 1) := by decide +kernel
theorem u_11_86 {G : aG} {S : Nat → Bool} {f : Nat} {st : List Value} {ls : aL} {h : aH} {k n : Nat} (hs : S 86 = false) : WP 11 G S (f + 1) 86 ls st h k n = (WP 11 G S f 87 ls (.int (nI 0) :: st) h k n) := by rw [wp_s dd_11_86 rfl hs]; rfl
theorem dd_11_87 : decode (mB 11) 87 = .ok (.iastore, 1) := by decide +kernel
theorem u_11_87 {G : aG} {S : Nat → Bool} {f : Nat} {st : List Value} {ls : aL} {h : aH} {k n : Nat} {i x : Int32} {a : Nat} (hs : S 87 = false) : WP 11 G S (f + 1) 87 ls (.int x :: .int i :: .ref a :: st) h k n = (oIst (iget h a 1) a i x (WP 11 G S f) 88 ls st h k n) := by rw [wp_s dd_11_87 rfl hs]; rfl
theorem dd_11_88 : decode (mB 11) 88 = .ok (.aload_n 0, 1) := by decide +kernel
theorem u_11_88 {G : aG} {S : Nat → Bool} {f : Nat} {st : List Value} {ls : aL} {h : aH} {k n : Nat} (hs : S 88 = false) : WP 11 G S (f + 1) 88 ls st h k n = (oA (lget ls 0) (WP 11 G S f) 89 ls st h k n) := by rw [wp_s dd_11_88 rfl hs]; rfl
theorem dd_11_89 : decode (mB 11) 89 = .ok (.dup, 1) := by decide +kernel
theorem u_11_89 {G : aG} {S : Nat → Bool} {f : Nat} {st : List Value} {ls : aL} {h : aH} {k n : Nat} {v : Value} (hs : S 89 = false) : WP 11 G S (f + 1) 89 ls (v :: st) h k n = (cond (cat1 v) (WP 11 G S f 90 ls (v :: v :: st) h k n) False) := by rw [wp_s dd_11_89 rfl hs]; rfl
theorem dd_11_90 : decode (mB 11) 90 = .ok (.getfield 43, 3) := by decide +kernel
theorem u_11_90 {G : aG} {S : Nat → Bool} {f : Nat} {st : List Value} {ls : aL} {h : aH} {k n : Nat} {a : Nat} (hs : S 90 = false) : WP 11 G S (f + 1) 90 ls (.ref a :: st) h k n = (oV (fget h a 5 7) (WP 11 G S f) 93 ls st h k n) := by rw [wp_s dd_11_90 rfl hs]; rfl
theorem dd_11_93 : decode (mB 11) 93 = .ok (.iload_n 2, 1) := by decide +kernel
theorem u_11_93 {G : aG} {S : Nat → Bool} {f : Nat} {st : List Value} {ls : aL} {h : aH} {k n : Nat} (hs : S 93 = false) : WP 11 G S (f + 1) 93 ls st h k n = (oI (lget ls 2) (WP 11 G S f) 94 ls st h k n) := by rw [wp_s dd_11_93 rfl hs]; rfl
theorem dd_11_94 : decode (mB 11) 94 = .ok (.bipush 8, 2) := by decide +kernel
theorem u_11_94 {G : aG} {S : Nat → Bool} {f : Nat} {st : List Value} {ls : aL} {h : aH} {k n : Nat} (hs : S 94 = false) : WP 11 G S (f + 1) 94 ls st h k n = (WP 11 G S f 96 ls (.int (nI 8) :: st) h k n) := by rw [wp_s dd_11_94 rfl hs]; rfl
theorem dd_11_96 : decode (mB 11) 96 = .ok (.if_icmp .gt 11, 3) := by decide +kernel
theorem u_11_96 {G : aG} {S : Nat → Bool} {f : Nat} {st : List Value} {ls : aL} {h : aH} {k n : Nat} {x y : Int32} (hs : S 96 = false) : WP 11 G S (f + 1) 96 ls (.int y :: .int x :: st) h k n = (if y < x then WP 11 G S f 107 ls st h k n else WP 11 G S f 99 ls st h k n) := by rw [wp_s dd_11_96 rfl hs]; exact br_ite (c := y < x)
theorem dd_11_99 : decode (mB 11) 99 = .ok (.iconst 1, 1) := by decide +kernel
theorem u_11_99 {G : aG} {S : Nat → Bool} {f : Nat} {st : List Value} {ls : aL} {h : aH} {k n : Nat} (hs : S 99 = false) : WP 11 G S (f + 1) 99 ls st h k n = (WP 11 G S f 100 ls (.int (nI 1) :: st) h k n) := by rw [wp_s dd_11_99 rfl hs]; rfl
theorem dd_11_100 : decode (mB 11) 100 = .ok (.iload_n 2, 1) := by decide +kernel
theorem u_11_100 {G : aG} {S : Nat → Bool} {f : Nat} {st : List Value} {ls : aL} {h : aH} {k n : Nat} (hs : S 100 = false) : WP 11 G S (f + 1) 100 ls st h k n = (oI (lget ls 2) (WP 11 G S f) 101 ls st h k n) := by rw [wp_s dd_11_100 rfl hs]; rfl
theorem dd_11_101 : decode (mB 11) 101 = .ok (.iconst 1, 1) := by decide +kernel
theorem u_11_101 {G : aG} {S : Nat → Bool} {f : Nat} {st : List Value} {ls : aL} {h : aH} {k n : Nat} (hs : S 101 = false) : WP 11 G S (f + 1) 101 ls st h k n = (WP 11 G S f 102 ls (.int (nI 1) :: st) h k n) := by rw [wp_s dd_11_101 rfl hs]; rfl
theorem dd_11_102 : decode (mB 11) 102 = .ok (.isub, 1) := by decide +kernel
theorem u_11_102 {G : aG} {S : Nat → Bool} {f : Nat} {st : List Value} {ls : aL} {h : aH} {k n : Nat} {x y : Int32} (hs : S 102 = false) : WP 11 G S (f + 1) 102 ls (.int y :: .int x :: st) h k n = (WP 11 G S f 103 ls (.int (x - y) :: st) h k n) := by rw [wp_s dd_11_102 rfl hs]; rfl
theorem dd_11_103 : decode (mB 11) 103 = .ok (.ishl, 1) := by decide +kernel
theorem u_11_103 {G : aG} {S : Nat → Bool} {f : Nat} {st : List Value} {ls : aL} {h : aH} {k n : Nat} {x y : Int32} (hs : S 103 = false) : WP 11 G S (f + 1) 103 ls (.int y :: .int x :: st) h k n = (WP 11 G S f 104 ls (.int (x <<< (y &&& 31)) :: st) h k n) := by rw [wp_s dd_11_103 rfl hs]; rfl
theorem dd_11_104 : decode (mB 11) 104 = .ok (.goto 4, 3) := by decide +kernel
theorem u_11_104 {G : aG} {S : Nat → Bool} {f : Nat} {st : List Value} {ls : aL} {h : aH} {k n : Nat} (hs : S 104 = false) : WP 11 G S (f + 1) 104 ls st h k n = (WP 11 G S f 108 ls st h k n) := by rw [wp_s dd_11_104 rfl hs]; rfl
theorem dd_11_107 : decode (mB 11) 107 = .ok (.iconst 0, 1) := by decide +kernel
theorem u_11_107 {G : aG} {S : Nat → Bool} {f : Nat} {st : List Value} {ls : aL} {h : aH} {k n : Nat} (hs : S 107 = false) : WP 11 G S (f + 1) 107 ls st h k n = (WP 11 G S f 108 ls (.int (nI 0) :: st) h k n) := by rw [wp_s dd_11_107 rfl hs]; rfl
theorem dd_11_108 : decode (mB 11) 108 = .ok (.ior, 1) := by decide +kernel
theorem u_11_108 {G : aG} {S : Nat → Bool} {f : Nat} {st : List Value} {ls : aL} {h : aH} {k n : Nat} {x y : Int32} (hs : S 108 = false) : WP 11 G S (f + 1) 108 ls (.int y :: .int x :: st) h k n = (WP 11 G S f 109 ls (.int (x ||| y) :: st) h k n) := by rw [wp_s dd_11_108 rfl hs]; rfl
theorem dd_11_109 : decode (mB 11) 109 = .ok (.putfield 43, 3) := by decide +kernel
theorem u_11_109 {G : aG} {S : Nat → Bool} {f : Nat} {st : List Value} {ls : aL} {h : aH} {k n : Nat} {a : Nat} {x : Int32} (hs : S 109 = false) : WP 11 G S (f + 1) 109 ls (.int x :: .ref a :: st) h k n = (oH (fput h a 5 7 (.int x)) (WP 11 G S f) 112 ls st k n) := by rw [wp_s dd_11_109 rfl hs]; rfl
theorem dd_11_112 : decode (mB 11) 112 = .ok (.goto 166, 3) := by decide +kernel
theorem u_11_112 {G : aG} {S : Nat → Bool} {f : Nat} {st : List Value} {ls : aL} {h : aH} {k n : Nat} (hs : S 112 = false) : WP 11 G S (f + 1) 112 ls st h k n = (WP 11 G S f 278 ls st h k n) := by rw [wp_s dd_11_112 rfl hs]; rfl
theorem dd_11_115 : decode (mB 11) 115 = .ok (.iload_n 2, 1) := by decide +kernel
theorem u_11_115 {G : aG} {S : Nat → Bool} {f : Nat} {st : List Value} {ls : aL} {h : aH} {k n : Nat} (hs : S 115 = false) : WP 11 G S (f + 1) 115 ls st h k n = (oI (lget ls 2) (WP 11 G S f) 116 ls st h k n) := by rw [wp_s dd_11_115 rfl hs]; rfl
theorem dd_11_116 : decode (mB 11) 116 = .ok (.bipush 13, 2) := by decide +kernel
theorem u_11_116 {G : aG} {S : Nat → Bool} {f : Nat} {st : List Value} {ls : aL} {h : aH} {k n : Nat} (hs : S 116 = false) : WP 11 G S (f + 1) 116 ls st h k n = (WP 11 G S f 118 ls (.int (nI 13) :: st) h k n) := by rw [wp_s dd_11_116 rfl hs]; rfl
theorem dd_11_118 : decode (mB 11) 118 = .ok (.if_icmp .ge 8, 3) := by decide +kernel
theorem u_11_118 {G : aG} {S : Nat → Bool} {f : Nat} {st : List Value} {ls : aL} {h : aH} {k n : Nat} {x y : Int32} (hs : S 118 = false) : WP 11 G S (f + 1) 118 ls (.int y :: .int x :: st) h k n = (if y ≤ x then WP 11 G S f 126 ls st h k n else WP 11 G S f 121 ls st h k n) := by rw [wp_s dd_11_118 rfl hs]; exact br_ite (c := y ≤ x)
theorem dd_11_121 : decode (mB 11) 121 = .ok (.iload 4, 2) := by decide +kernel
theorem u_11_121 {G : aG} {S : Nat → Bool} {f : Nat} {st : List Value} {ls : aL} {h : aH} {k n : Nat} (hs : S 121 = false) : WP 11 G S (f + 1) 121 ls st h k n = (oI (lget ls 4) (WP 11 G S f) 123 ls st h k n) := by rw [wp_s dd_11_121 rfl hs]; rfl
theorem dd_11_123 : decode (mB 11) 123 = .ok (.ifCond .ge 52, 3) := by decide +kernel
theorem u_11_123 {G : aG} {S : Nat → Bool} {f : Nat} {st : List Value} {ls : aL} {h : aH} {k n : Nat} {x : Int32} (hs : S 123 = false) : WP 11 G S (f + 1) 123 ls (.int x :: st) h k n = (if nI 0 ≤ x then WP 11 G S f 175 ls st h k n else WP 11 G S f 126 ls st h k n) := by rw [wp_s dd_11_123 rfl hs]; exact br_ite (c := nI 0 ≤ x)
theorem dd_11_126 : decode (mB 11) 126 = .ok (.aload_n 0, 1) := by decide +kernel
theorem u_11_126 {G : aG} {S : Nat → Bool} {f : Nat} {st : List Value} {ls : aL} {h : aH} {k n : Nat} (hs : S 126 = false) : WP 11 G S (f + 1) 126 ls st h k n = (oA (lget ls 0) (WP 11 G S f) 127 ls st h k n) := by rw [wp_s dd_11_126 rfl hs]; rfl
theorem dd_11_127 : decode (mB 11) 127 = .ok (.getfield 15, 3) := by decide +kernel
theorem u_11_127 {G : aG} {S : Nat → Bool} {f : Nat} {st : List Value} {ls : aL} {h : aH} {k n : Nat} {a : Nat} (hs : S 127 = false) : WP 11 G S (f + 1) 127 ls (.ref a :: st) h k n = (oV (fget h a 5 1) (WP 11 G S f) 130 ls st h k n) := by rw [wp_s dd_11_127 rfl hs]; rfl
theorem dd_11_130 : decode (mB 11) 130 = .ok (.iload_n 1, 1) := by decide +kernel
theorem u_11_130 {G : aG} {S : Nat → Bool} {f : Nat} {st : List Value} {ls : aL} {h : aH} {k n : Nat} (hs : S 130 = false) : WP 11 G S (f + 1) 130 ls st h k n = (oI (lget ls 1) (WP 11 G S f) 131 ls st h k n) := by rw [wp_s dd_11_130 rfl hs]; rfl
theorem dd_11_131 : decode (mB 11) 131 = .ok (.aload_n 0, 1) := by decide +kernel
theorem u_11_131 {G : aG} {S : Nat → Bool} {f : Nat} {st : List Value} {ls : aL} {h : aH} {k n : Nat} (hs : S 131 = false) : WP 11 G S (f + 1) 131 ls st h k n = (oA (lget ls 0) (WP 11 G S f) 132 ls st h k n) := by rw [wp_s dd_11_131 rfl hs]; rfl
theorem dd_11_132 : decode (mB 11) 132 = .ok (.getfield 15, 3) := by decide +kernel
theorem u_11_132 {G : aG} {S : Nat → Bool} {f : Nat} {st : List Value} {ls : aL} {h : aH} {k n : Nat} {a : Nat} (hs : S 132 = false) : WP 11 G S (f + 1) 132 ls (.ref a :: st) h k n = (oV (fget h a 5 1) (WP 11 G S f) 135 ls st h k n) := by rw [wp_s dd_11_132 rfl hs]; rfl
theorem dd_11_135 : decode (mB 11) 135 = .ok (.iload_n 3, 1) := by decide +kernel
theorem u_11_135 {G : aG} {S : Nat → Bool} {f : Nat} {st : List Value} {ls : aL} {h : aH} {k n : Nat} (hs : S 135 = false) : WP 11 G S (f + 1) 135 ls st h k n = (oI (lget ls 3) (WP 11 G S f) 136 ls st h k n) := by rw [wp_s dd_11_135 rfl hs]; rfl
theorem dd_11_136 : decode (mB 11) 136 = .ok (.iaload, 1) := by decide +kernel
theorem u_11_136 {G : aG} {S : Nat → Bool} {f : Nat} {st : List Value} {ls : aL} {h : aH} {k n : Nat} {i : Int32} {a : Nat} (hs : S 136 = false) : WP 11 G S (f + 1) 136 ls (.int i :: .ref a :: st) h k n = (oIld (iget h a 1) i (WP 11 G S f) 137 ls st h k n) := by rw [wp_s dd_11_136 rfl hs]; rfl
theorem dd_11_137 : decode (mB 11) 137 = .ok (.iastore, 1) := by decide +kernel
theorem u_11_137 {G : aG} {S : Nat → Bool} {f : Nat} {st : List Value} {ls : aL} {h : aH} {k n : Nat} {i x : Int32} {a : Nat} (hs : S 137 = false) : WP 11 G S (f + 1) 137 ls (.int x :: .int i :: .ref a :: st) h k n = (oIst (iget h a 1) a i x (WP 11 G S f) 138 ls st h k n) := by rw [wp_s dd_11_137 rfl hs]; rfl
theorem dd_11_138 : decode (mB 11) 138 = .ok (.aload_n 0, 1) := by decide +kernel
theorem u_11_138 {G : aG} {S : Nat → Bool} {f : Nat} {st : List Value} {ls : aL} {h : aH} {k n : Nat} (hs : S 138 = false) : WP 11 G S (f + 1) 138 ls st h k n = (oA (lget ls 0) (WP 11 G S f) 139 ls st h k n) := by rw [wp_s dd_11_138 rfl hs]; rfl
theorem dd_11_139 : decode (mB 11) 139 = .ok (.getfield 21, 3) := by decide +kernel
theorem u_11_139 {G : aG} {S : Nat → Bool} {f : Nat} {st : List Value} {ls : aL} {h : aH} {k n : Nat} {a : Nat} (hs : S 139 = false) : WP 11 G S (f + 1) 139 ls (.ref a :: st) h k n = (oV (fget h a 5 3) (WP 11 G S f) 142 ls st h k n) := by rw [wp_s dd_11_139 rfl hs]; rfl
theorem dd_11_142 : decode (mB 11) 142 = .ok (.iload_n 1, 1) := by decide +kernel
theorem u_11_142 {G : aG} {S : Nat → Bool} {f : Nat} {st : List Value} {ls : aL} {h : aH} {k n : Nat} (hs : S 142 = false) : WP 11 G S (f + 1) 142 ls st h k n = (oI (lget ls 1) (WP 11 G S f) 143 ls st h k n) := by rw [wp_s dd_11_142 rfl hs]; rfl
theorem dd_11_143 : decode (mB 11) 143 = .ok (.aload_n 0, 1) := by decide +kernel
theorem u_11_143 {G : aG} {S : Nat → Bool} {f : Nat} {st : List Value} {ls : aL} {h : aH} {k n : Nat} (hs : S 143 = false) : WP 11 G S (f + 1) 143 ls st h k n = (oA (lget ls 0) (WP 11 G S f) 144 ls st h k n) := by rw [wp_s dd_11_143 rfl hs]; rfl
theorem dd_11_144 : decode (mB 11) 144 = .ok (.getfield 21, 3) := by decide +kernel
theorem u_11_144 {G : aG} {S : Nat → Bool} {f : Nat} {st : List Value} {ls : aL} {h : aH} {k n : Nat} {a : Nat} (hs : S 144 = false) : WP 11 G S (f + 1) 144 ls (.ref a :: st) h k n = (oV (fget h a 5 3) (WP 11 G S f) 147 ls st h k n) := by rw [wp_s dd_11_144 rfl hs]; rfl
theorem dd_11_147 : decode (mB 11) 147 = .ok (.iload_n 3, 1) := by decide +kernel
theorem u_11_147 {G : aG} {S : Nat → Bool} {f : Nat} {st : List Value} {ls : aL} {h : aH} {k n : Nat} (hs : S 147 = false) : WP 11 G S (f + 1) 147 ls st h k n = (oI (lget ls 3) (WP 11 G S f) 148 ls st h k n) := by rw [wp_s dd_11_147 rfl hs]; rfl
theorem dd_11_148 : decode (mB 11) 148 = .ok (.iaload, 1) := by decide +kernel
theorem u_11_148 {G : aG} {S : Nat → Bool} {f : Nat} {st : List Value} {ls : aL} {h : aH} {k n : Nat} {i : Int32} {a : Nat} (hs : S 148 = false) : WP 11 G S (f + 1) 148 ls (.int i :: .ref a :: st) h k n = (oIld (iget h a 1) i (WP 11 G S f) 149 ls st h k n) := by rw [wp_s dd_11_148 rfl hs]; rfl
theorem dd_11_149 : decode (mB 11) 149 = .ok (.iastore, 1) := by decide +kernel
theorem u_11_149 {G : aG} {S : Nat → Bool} {f : Nat} {st : List Value} {ls : aL} {h : aH} {k n : Nat} {i x : Int32} {a : Nat} (hs : S 149 = false) : WP 11 G S (f + 1) 149 ls (.int x :: .int i :: .ref a :: st) h k n = (oIst (iget h a 1) a i x (WP 11 G S f) 150 ls st h k n) := by rw [wp_s dd_11_149 rfl hs]; rfl
theorem dd_11_150 : decode (mB 11) 150 = .ok (.aload_n 0, 1) := by decide +kernel
theorem u_11_150 {G : aG} {S : Nat → Bool} {f : Nat} {st : List Value} {ls : aL} {h : aH} {k n : Nat} (hs : S 150 = false) : WP 11 G S (f + 1) 150 ls st h k n = (oA (lget ls 0) (WP 11 G S f) 151 ls st h k n) := by rw [wp_s dd_11_150 rfl hs]; rfl
theorem dd_11_151 : decode (mB 11) 151 = .ok (.getfield 24, 3) := by decide +kernel
theorem u_11_151 {G : aG} {S : Nat → Bool} {f : Nat} {st : List Value} {ls : aL} {h : aH} {k n : Nat} {a : Nat} (hs : S 151 = false) : WP 11 G S (f + 1) 151 ls (.ref a :: st) h k n = (oV (fget h a 5 4) (WP 11 G S f) 154 ls st h k n) := by rw [wp_s dd_11_151 rfl hs]; rfl
theorem dd_11_154 : decode (mB 11) 154 = .ok (.iload_n 1, 1) := by decide +kernel
theorem u_11_154 {G : aG} {S : Nat → Bool} {f : Nat} {st : List Value} {ls : aL} {h : aH} {k n : Nat} (hs : S 154 = false) : WP 11 G S (f + 1) 154 ls st h k n = (oI (lget ls 1) (WP 11 G S f) 155 ls st h k n) := by rw [wp_s dd_11_154 rfl hs]; rfl
theorem dd_11_155 : decode (mB 11) 155 = .ok (.iload_n 2, 1) := by decide +kernel
theorem u_11_155 {G : aG} {S : Nat → Bool} {f : Nat} {st : List Value} {ls : aL} {h : aH} {k n : Nat} (hs : S 155 = false) : WP 11 G S (f + 1) 155 ls st h k n = (oI (lget ls 2) (WP 11 G S f) 156 ls st h k n) := by rw [wp_s dd_11_155 rfl hs]; rfl
theorem dd_11_156 : decode (mB 11) 156 = .ok (.bipush 15, 2) := by decide +kernel
theorem u_11_156 {G : aG} {S : Nat → Bool} {f : Nat} {st : List Value} {ls : aL} {h : aH} {k n : Nat} (hs : S 156 = false) : WP 11 G S (f + 1) 156 ls st h k n = (WP 11 G S f 158 ls (.int (nI 15) :: st) h k n) := by rw [wp_s dd_11_156 rfl hs]; rfl
theorem dd_11_158 : decode (mB 11) 158 = .ok (.if_icmp .ne 12, 3) := by decide +kernel
theorem u_11_158 {G : aG} {S : Nat → Bool} {f : Nat} {st : List Value} {ls : aL} {h : aH} {k n : Nat} {x y : Int32} (hs : S 158 = false) : WP 11 G S (f + 1) 158 ls (.int y :: .int x :: st) h k n = (if x = y then WP 11 G S f 161 ls st h k n else WP 11 G S f 170 ls st h k n) := by rw [wp_s dd_11_158 rfl hs]; exact br_iten (c := x = y)
theorem dd_11_161 : decode (mB 11) 161 = .ok (.aload_n 0, 1) := by decide +kernel
theorem u_11_161 {G : aG} {S : Nat → Bool} {f : Nat} {st : List Value} {ls : aL} {h : aH} {k n : Nat} (hs : S 161 = false) : WP 11 G S (f + 1) 161 ls st h k n = (oA (lget ls 0) (WP 11 G S f) 162 ls st h k n) := by rw [wp_s dd_11_161 rfl hs]; rfl
theorem dd_11_162 : decode (mB 11) 162 = .ok (.getfield 24, 3) := by decide +kernel
theorem u_11_162 {G : aG} {S : Nat → Bool} {f : Nat} {st : List Value} {ls : aL} {h : aH} {k n : Nat} {a : Nat} (hs : S 162 = false) : WP 11 G S (f + 1) 162 ls (.ref a :: st) h k n = (oV (fget h a 5 4) (WP 11 G S f) 165 ls st h k n) := by rw [wp_s dd_11_162 rfl hs]; rfl
theorem dd_11_165 : decode (mB 11) 165 = .ok (.iload_n 3, 1) := by decide +kernel
theorem u_11_165 {G : aG} {S : Nat → Bool} {f : Nat} {st : List Value} {ls : aL} {h : aH} {k n : Nat} (hs : S 165 = false) : WP 11 G S (f + 1) 165 ls st h k n = (oI (lget ls 3) (WP 11 G S f) 166 ls st h k n) := by rw [wp_s dd_11_165 rfl hs]; rfl
theorem dd_11_166 : decode (mB 11) 166 = .ok (.iaload, 1) := by decide +kernel
theorem u_11_166 {G : aG} {S : Nat → Bool} {f : Nat} {st : List Value} {ls : aL} {h : aH} {k n : Nat} {i : Int32} {a : Nat} (hs : S 166 = false) : WP 11 G S (f + 1) 166 ls (.int i :: .ref a :: st) h k n = (oIld (iget h a 1) i (WP 11 G S f) 167 ls st h k n) := by rw [wp_s dd_11_166 rfl hs]; rfl
theorem dd_11_167 : decode (mB 11) 167 = .ok (.goto 4, 3) := by decide +kernel
theorem u_11_167 {G : aG} {S : Nat → Bool} {f : Nat} {st : List Value} {ls : aL} {h : aH} {k n : Nat} (hs : S 167 = false) : WP 11 G S (f + 1) 167 ls st h k n = (WP 11 G S f 171 ls st h k n) := by rw [wp_s dd_11_167 rfl hs]; rfl
theorem dd_11_170 : decode (mB 11) 170 = .ok (.iconst 0, 1) := by decide +kernel
theorem u_11_170 {G : aG} {S : Nat → Bool} {f : Nat} {st : List Value} {ls : aL} {h : aH} {k n : Nat} (hs : S 170 = false) : WP 11 G S (f + 1) 170 ls st h k n = (WP 11 G S f 171 ls (.int (nI 0) :: st) h k n) := by rw [wp_s dd_11_170 rfl hs]; rfl
theorem dd_11_171 : decode (mB 11) 171 = .ok (.iastore, 1) := by decide +kernel
theorem u_11_171 {G : aG} {S : Nat → Bool} {f : Nat} {st : List Value} {ls : aL} {h : aH} {k n : Nat} {i x : Int32} {a : Nat} (hs : S 171 = false) : WP 11 G S (f + 1) 171 ls (.int x :: .int i :: .ref a :: st) h k n = (oIst (iget h a 1) a i x (WP 11 G S f) 172 ls st h k n) := by rw [wp_s dd_11_171 rfl hs]; rfl
theorem dd_11_172 : decode (mB 11) 172 = .ok (.goto 106, 3) := by decide +kernel
theorem u_11_172 {G : aG} {S : Nat → Bool} {f : Nat} {st : List Value} {ls : aL} {h : aH} {k n : Nat} (hs : S 172 = false) : WP 11 G S (f + 1) 172 ls st h k n = (WP 11 G S f 278 ls st h k n) := by rw [wp_s dd_11_172 rfl hs]; rfl
theorem dd_11_175 : decode (mB 11) 175 = .ok (.aload_n 0, 1) := by decide +kernel
theorem u_11_175 {G : aG} {S : Nat → Bool} {f : Nat} {st : List Value} {ls : aL} {h : aH} {k n : Nat} (hs : S 175 = false) : WP 11 G S (f + 1) 175 ls st h k n = (oA (lget ls 0) (WP 11 G S f) 176 ls st h k n) := by rw [wp_s dd_11_175 rfl hs]; rfl
theorem dd_11_176 : decode (mB 11) 176 = .ok (.getfield 15, 3) := by decide +kernel
theorem u_11_176 {G : aG} {S : Nat → Bool} {f : Nat} {st : List Value} {ls : aL} {h : aH} {k n : Nat} {a : Nat} (hs : S 176 = false) : WP 11 G S (f + 1) 176 ls (.ref a :: st) h k n = (oV (fget h a 5 1) (WP 11 G S f) 179 ls st h k n) := by rw [wp_s dd_11_176 rfl hs]; rfl
theorem dd_11_179 : decode (mB 11) 179 = .ok (.iload_n 1, 1) := by decide +kernel
theorem u_11_179 {G : aG} {S : Nat → Bool} {f : Nat} {st : List Value} {ls : aL} {h : aH} {k n : Nat} (hs : S 179 = false) : WP 11 G S (f + 1) 179 ls st h k n = (oI (lget ls 1) (WP 11 G S f) 180 ls st h k n) := by rw [wp_s dd_11_179 rfl hs]; rfl
theorem dd_11_180 : decode (mB 11) 180 = .ok (.aload_n 0, 1) := by decide +kernel
theorem u_11_180 {G : aG} {S : Nat → Bool} {f : Nat} {st : List Value} {ls : aL} {h : aH} {k n : Nat} (hs : S 180 = false) : WP 11 G S (f + 1) 180 ls st h k n = (oA (lget ls 0) (WP 11 G S f) 181 ls st h k n) := by rw [wp_s dd_11_180 rfl hs]; rfl
theorem dd_11_181 : decode (mB 11) 181 = .ok (.getfield 15, 3) := by decide +kernel
theorem u_11_181 {G : aG} {S : Nat → Bool} {f : Nat} {st : List Value} {ls : aL} {h : aH} {k n : Nat} {a : Nat} (hs : S 181 = false) : WP 11 G S (f + 1) 181 ls (.ref a :: st) h k n = (oV (fget h a 5 1) (WP 11 G S f) 184 ls st h k n) := by rw [wp_s dd_11_181 rfl hs]; rfl
theorem dd_11_184 : decode (mB 11) 184 = .ok (.iload 4, 2) := by decide +kernel
theorem u_11_184 {G : aG} {S : Nat → Bool} {f : Nat} {st : List Value} {ls : aL} {h : aH} {k n : Nat} (hs : S 184 = false) : WP 11 G S (f + 1) 184 ls st h k n = (oI (lget ls 4) (WP 11 G S f) 186 ls st h k n) := by rw [wp_s dd_11_184 rfl hs]; rfl
theorem dd_11_186 : decode (mB 11) 186 = .ok (.iaload, 1) := by decide +kernel
theorem u_11_186 {G : aG} {S : Nat → Bool} {f : Nat} {st : List Value} {ls : aL} {h : aH} {k n : Nat} {i : Int32} {a : Nat} (hs : S 186 = false) : WP 11 G S (f + 1) 186 ls (.int i :: .ref a :: st) h k n = (oIld (iget h a 1) i (WP 11 G S f) 187 ls st h k n) := by rw [wp_s dd_11_186 rfl hs]; rfl
theorem dd_11_187 : decode (mB 11) 187 = .ok (.iastore, 1) := by decide +kernel
theorem u_11_187 {G : aG} {S : Nat → Bool} {f : Nat} {st : List Value} {ls : aL} {h : aH} {k n : Nat} {i x : Int32} {a : Nat} (hs : S 187 = false) : WP 11 G S (f + 1) 187 ls (.int x :: .int i :: .ref a :: st) h k n = (oIst (iget h a 1) a i x (WP 11 G S f) 188 ls st h k n) := by rw [wp_s dd_11_187 rfl hs]; rfl
theorem dd_11_188 : decode (mB 11) 188 = .ok (.aload_n 0, 1) := by decide +kernel
theorem u_11_188 {G : aG} {S : Nat → Bool} {f : Nat} {st : List Value} {ls : aL} {h : aH} {k n : Nat} (hs : S 188 = false) : WP 11 G S (f + 1) 188 ls st h k n = (oA (lget ls 0) (WP 11 G S f) 189 ls st h k n) := by rw [wp_s dd_11_188 rfl hs]; rfl
theorem dd_11_189 : decode (mB 11) 189 = .ok (.getfield 21, 3) := by decide +kernel
theorem u_11_189 {G : aG} {S : Nat → Bool} {f : Nat} {st : List Value} {ls : aL} {h : aH} {k n : Nat} {a : Nat} (hs : S 189 = false) : WP 11 G S (f + 1) 189 ls (.ref a :: st) h k n = (oV (fget h a 5 3) (WP 11 G S f) 192 ls st h k n) := by rw [wp_s dd_11_189 rfl hs]; rfl
theorem dd_11_192 : decode (mB 11) 192 = .ok (.iload_n 1, 1) := by decide +kernel
theorem u_11_192 {G : aG} {S : Nat → Bool} {f : Nat} {st : List Value} {ls : aL} {h : aH} {k n : Nat} (hs : S 192 = false) : WP 11 G S (f + 1) 192 ls st h k n = (oI (lget ls 1) (WP 11 G S f) 193 ls st h k n) := by rw [wp_s dd_11_192 rfl hs]; rfl
theorem dd_11_193 : decode (mB 11) 193 = .ok (.iload_n 2, 1) := by decide +kernel
theorem u_11_193 {G : aG} {S : Nat → Bool} {f : Nat} {st : List Value} {ls : aL} {h : aH} {k n : Nat} (hs : S 193 = false) : WP 11 G S (f + 1) 193 ls st h k n = (oI (lget ls 2) (WP 11 G S f) 194 ls st h k n) := by rw [wp_s dd_11_193 rfl hs]; rfl
theorem dd_11_194 : decode (mB 11) 194 = .ok (.bipush 11, 2) := by decide +kernel
theorem u_11_194 {G : aG} {S : Nat → Bool} {f : Nat} {st : List Value} {ls : aL} {h : aH} {k n : Nat} (hs : S 194 = false) : WP 11 G S (f + 1) 194 ls st h k n = (WP 11 G S f 196 ls (.int (nI 11) :: st) h k n) := by rw [wp_s dd_11_194 rfl hs]; rfl
theorem dd_11_196 : decode (mB 11) 196 = .ok (.if_icmp .ne 20, 3) := by decide +kernel
theorem u_11_196 {G : aG} {S : Nat → Bool} {f : Nat} {st : List Value} {ls : aL} {h : aH} {k n : Nat} {x y : Int32} (hs : S 196 = false) : WP 11 G S (f + 1) 196 ls (.int y :: .int x :: st) h k n = (if x = y then WP 11 G S f 199 ls st h k n else WP 11 G S f 216 ls st h k n) := by rw [wp_s dd_11_196 rfl hs]; exact br_iten (c := x = y)
theorem dd_11_199 : decode (mB 11) 199 = .ok (.aload_n 0, 1) := by decide +kernel
theorem u_11_199 {G : aG} {S : Nat → Bool} {f : Nat} {st : List Value} {ls : aL} {h : aH} {k n : Nat} (hs : S 199 = false) : WP 11 G S (f + 1) 199 ls st h k n = (oA (lget ls 0) (WP 11 G S f) 200 ls st h k n) := by rw [wp_s dd_11_199 rfl hs]; rfl
theorem dd_11_200 : decode (mB 11) 200 = .ok (.getfield 21, 3) := by decide +kernel
theorem u_11_200 {G : aG} {S : Nat → Bool} {f : Nat} {st : List Value} {ls : aL} {h : aH} {k n : Nat} {a : Nat} (hs : S 200 = false) : WP 11 G S (f + 1) 200 ls (.ref a :: st) h k n = (oV (fget h a 5 3) (WP 11 G S f) 203 ls st h k n) := by rw [wp_s dd_11_200 rfl hs]; rfl
theorem dd_11_203 : decode (mB 11) 203 = .ok (.iload 4, 2) := by decide +kernel
theorem u_11_203 {G : aG} {S : Nat → Bool} {f : Nat} {st : List Value} {ls : aL} {h : aH} {k n : Nat} (hs : S 203 = false) : WP 11 G S (f + 1) 203 ls st h k n = (oI (lget ls 4) (WP 11 G S f) 205 ls st h k n) := by rw [wp_s dd_11_203 rfl hs]; rfl
theorem dd_11_205 : decode (mB 11) 205 = .ok (.iaload, 1) := by decide +kernel
theorem u_11_205 {G : aG} {S : Nat → Bool} {f : Nat} {st : List Value} {ls : aL} {h : aH} {k n : Nat} {i : Int32} {a : Nat} (hs : S 205 = false) : WP 11 G S (f + 1) 205 ls (.int i :: .ref a :: st) h k n = (oIld (iget h a 1) i (WP 11 G S f) 206 ls st h k n) := by rw [wp_s dd_11_205 rfl hs]; rfl
theorem dd_11_206 : decode (mB 11) 206 = .ok (.aload_n 0, 1) := by decide +kernel
theorem u_11_206 {G : aG} {S : Nat → Bool} {f : Nat} {st : List Value} {ls : aL} {h : aH} {k n : Nat} (hs : S 206 = false) : WP 11 G S (f + 1) 206 ls st h k n = (oA (lget ls 0) (WP 11 G S f) 207 ls st h k n) := by rw [wp_s dd_11_206 rfl hs]; rfl
theorem dd_11_207 : decode (mB 11) 207 = .ok (.getfield 21, 3) := by decide +kernel
theorem u_11_207 {G : aG} {S : Nat → Bool} {f : Nat} {st : List Value} {ls : aL} {h : aH} {k n : Nat} {a : Nat} (hs : S 207 = false) : WP 11 G S (f + 1) 207 ls (.ref a :: st) h k n = (oV (fget h a 5 3) (WP 11 G S f) 210 ls st h k n) := by rw [wp_s dd_11_207 rfl hs]; rfl
theorem dd_11_210 : decode (mB 11) 210 = .ok (.iload_n 3, 1) := by decide +kernel
theorem u_11_210 {G : aG} {S : Nat → Bool} {f : Nat} {st : List Value} {ls : aL} {h : aH} {k n : Nat} (hs : S 210 = false) : WP 11 G S (f + 1) 210 ls st h k n = (oI (lget ls 3) (WP 11 G S f) 211 ls st h k n) := by rw [wp_s dd_11_210 rfl hs]; rfl
theorem dd_11_211 : decode (mB 11) 211 = .ok (.iaload, 1) := by decide +kernel
theorem u_11_211 {G : aG} {S : Nat → Bool} {f : Nat} {st : List Value} {ls : aL} {h : aH} {k n : Nat} {i : Int32} {a : Nat} (hs : S 211 = false) : WP 11 G S (f + 1) 211 ls (.int i :: .ref a :: st) h k n = (oIld (iget h a 1) i (WP 11 G S f) 212 ls st h k n) := by rw [wp_s dd_11_211 rfl hs]; rfl
theorem dd_11_212 : decode (mB 11) 212 = .ok (.imul, 1) := by decide +kernel
theorem u_11_212 {G : aG} {S : Nat → Bool} {f : Nat} {st : List Value} {ls : aL} {h : aH} {k n : Nat} {x y : Int32} (hs : S 212 = false) : WP 11 G S (f + 1) 212 ls (.int y :: .int x :: st) h k n = (WP 11 G S f 213 ls (.int (x * y) :: st) h k n) := by rw [wp_s dd_11_212 rfl hs]; rfl
theorem dd_11_213 : decode (mB 11) 213 = .ok (.goto 19, 3) := by decide +kernel
theorem u_11_213 {G : aG} {S : Nat → Bool} {f : Nat} {st : List Value} {ls : aL} {h : aH} {k n : Nat} (hs : S 213 = false) : WP 11 G S (f + 1) 213 ls st h k n = (WP 11 G S f 232 ls st h k n) := by rw [wp_s dd_11_213 rfl hs]; rfl
theorem dd_11_216 : decode (mB 11) 216 = .ok (.aload_n 0, 1) := by decide +kernel
theorem u_11_216 {G : aG} {S : Nat → Bool} {f : Nat} {st : List Value} {ls : aL} {h : aH} {k n : Nat} (hs : S 216 = false) : WP 11 G S (f + 1) 216 ls st h k n = (oA (lget ls 0) (WP 11 G S f) 217 ls st h k n) := by rw [wp_s dd_11_216 rfl hs]; rfl
theorem dd_11_217 : decode (mB 11) 217 = .ok (.getfield 21, 3) := by decide +kernel
theorem u_11_217 {G : aG} {S : Nat → Bool} {f : Nat} {st : List Value} {ls : aL} {h : aH} {k n : Nat} {a : Nat} (hs : S 217 = false) : WP 11 G S (f + 1) 217 ls (.ref a :: st) h k n = (oV (fget h a 5 3) (WP 11 G S f) 220 ls st h k n) := by rw [wp_s dd_11_217 rfl hs]; rfl
theorem dd_11_220 : decode (mB 11) 220 = .ok (.iload 4, 2) := by decide +kernel
theorem u_11_220 {G : aG} {S : Nat → Bool} {f : Nat} {st : List Value} {ls : aL} {h : aH} {k n : Nat} (hs : S 220 = false) : WP 11 G S (f + 1) 220 ls st h k n = (oI (lget ls 4) (WP 11 G S f) 222 ls st h k n) := by rw [wp_s dd_11_220 rfl hs]; rfl
theorem dd_11_222 : decode (mB 11) 222 = .ok (.iaload, 1) := by decide +kernel
theorem u_11_222 {G : aG} {S : Nat → Bool} {f : Nat} {st : List Value} {ls : aL} {h : aH} {k n : Nat} {i : Int32} {a : Nat} (hs : S 222 = false) : WP 11 G S (f + 1) 222 ls (.int i :: .ref a :: st) h k n = (oIld (iget h a 1) i (WP 11 G S f) 223 ls st h k n) := by rw [wp_s dd_11_222 rfl hs]; rfl
theorem dd_11_223 : decode (mB 11) 223 = .ok (.aload_n 0, 1) := by decide +kernel
theorem u_11_223 {G : aG} {S : Nat → Bool} {f : Nat} {st : List Value} {ls : aL} {h : aH} {k n : Nat} (hs : S 223 = false) : WP 11 G S (f + 1) 223 ls st h k n = (oA (lget ls 0) (WP 11 G S f) 224 ls st h k n) := by rw [wp_s dd_11_223 rfl hs]; rfl
theorem dd_11_224 : decode (mB 11) 224 = .ok (.getfield 21, 3) := by decide +kernel
theorem u_11_224 {G : aG} {S : Nat → Bool} {f : Nat} {st : List Value} {ls : aL} {h : aH} {k n : Nat} {a : Nat} (hs : S 224 = false) : WP 11 G S (f + 1) 224 ls (.ref a :: st) h k n = (oV (fget h a 5 3) (WP 11 G S f) 227 ls st h k n) := by rw [wp_s dd_11_224 rfl hs]; rfl
theorem dd_11_227 : decode (mB 11) 227 = .ok (.iload_n 3, 1) := by decide +kernel
theorem u_11_227 {G : aG} {S : Nat → Bool} {f : Nat} {st : List Value} {ls : aL} {h : aH} {k n : Nat} (hs : S 227 = false) : WP 11 G S (f + 1) 227 ls st h k n = (oI (lget ls 3) (WP 11 G S f) 228 ls st h k n) := by rw [wp_s dd_11_227 rfl hs]; rfl
theorem dd_11_228 : decode (mB 11) 228 = .ok (.iaload, 1) := by decide +kernel
theorem u_11_228 {G : aG} {S : Nat → Bool} {f : Nat} {st : List Value} {ls : aL} {h : aH} {k n : Nat} {i : Int32} {a : Nat} (hs : S 228 = false) : WP 11 G S (f + 1) 228 ls (.int i :: .ref a :: st) h k n = (oIld (iget h a 1) i (WP 11 G S f) 229 ls st h k n) := by rw [wp_s dd_11_228 rfl hs]; rfl
theorem dd_11_229 : decode (mB 11) 229 = .ok (.iadd, 1) := by decide +kernel
theorem u_11_229 {G : aG} {S : Nat → Bool} {f : Nat} {st : List Value} {ls : aL} {h : aH} {k n : Nat} {x y : Int32} (hs : S 229 = false) : WP 11 G S (f + 1) 229 ls (.int y :: .int x :: st) h k n = (WP 11 G S f 230 ls (.int (x + y) :: st) h k n) := by rw [wp_s dd_11_229 rfl hs]; rfl
theorem dd_11_230 : decode (mB 11) 230 = .ok (.iconst 1, 1) := by decide +kernel
theorem u_11_230 {G : aG} {S : Nat → Bool} {f : Nat} {st : List Value} {ls : aL} {h : aH} {k n : Nat} (hs : S 230 = false) : WP 11 G S (f + 1) 230 ls st h k n = (WP 11 G S f 231 ls (.int (nI 1) :: st) h k n) := by rw [wp_s dd_11_230 rfl hs]; rfl
theorem dd_11_231 : decode (mB 11) 231 = .ok (.isub, 1) := by decide +kernel
theorem u_11_231 {G : aG} {S : Nat → Bool} {f : Nat} {st : List Value} {ls : aL} {h : aH} {k n : Nat} {x y : Int32} (hs : S 231 = false) : WP 11 G S (f + 1) 231 ls (.int y :: .int x :: st) h k n = (WP 11 G S f 232 ls (.int (x - y) :: st) h k n) := by rw [wp_s dd_11_231 rfl hs]; rfl
theorem dd_11_232 : decode (mB 11) 232 = .ok (.iastore, 1) := by decide +kernel
theorem u_11_232 {G : aG} {S : Nat → Bool} {f : Nat} {st : List Value} {ls : aL} {h : aH} {k n : Nat} {i x : Int32} {a : Nat} (hs : S 232 = false) : WP 11 G S (f + 1) 232 ls (.int x :: .int i :: .ref a :: st) h k n = (oIst (iget h a 1) a i x (WP 11 G S f) 233 ls st h k n) := by rw [wp_s dd_11_232 rfl hs]; rfl
theorem dd_11_233 : decode (mB 11) 233 = .ok (.aload_n 0, 1) := by decide +kernel
theorem u_11_233 {G : aG} {S : Nat → Bool} {f : Nat} {st : List Value} {ls : aL} {h : aH} {k n : Nat} (hs : S 233 = false) : WP 11 G S (f + 1) 233 ls st h k n = (oA (lget ls 0) (WP 11 G S f) 234 ls st h k n) := by rw [wp_s dd_11_233 rfl hs]; rfl
theorem dd_11_234 : decode (mB 11) 234 = .ok (.getfield 24, 3) := by decide +kernel
theorem u_11_234 {G : aG} {S : Nat → Bool} {f : Nat} {st : List Value} {ls : aL} {h : aH} {k n : Nat} {a : Nat} (hs : S 234 = false) : WP 11 G S (f + 1) 234 ls (.ref a :: st) h k n = (oV (fget h a 5 4) (WP 11 G S f) 237 ls st h k n) := by rw [wp_s dd_11_234 rfl hs]; rfl
theorem dd_11_237 : decode (mB 11) 237 = .ok (.iload_n 1, 1) := by decide +kernel
theorem u_11_237 {G : aG} {S : Nat → Bool} {f : Nat} {st : List Value} {ls : aL} {h : aH} {k n : Nat} (hs : S 237 = false) : WP 11 G S (f + 1) 237 ls st h k n = (oI (lget ls 1) (WP 11 G S f) 238 ls st h k n) := by rw [wp_s dd_11_237 rfl hs]; rfl
theorem dd_11_238 : decode (mB 11) 238 = .ok (.iload_n 2, 1) := by decide +kernel
theorem u_11_238 {G : aG} {S : Nat → Bool} {f : Nat} {st : List Value} {ls : aL} {h : aH} {k n : Nat} (hs : S 238 = false) : WP 11 G S (f + 1) 238 ls st h k n = (oI (lget ls 2) (WP 11 G S f) 239 ls st h k n) := by rw [wp_s dd_11_238 rfl hs]; rfl
theorem dd_11_239 : decode (mB 11) 239 = .ok (.bipush 10, 2) := by decide +kernel
theorem u_11_239 {G : aG} {S : Nat → Bool} {f : Nat} {st : List Value} {ls : aL} {h : aH} {k n : Nat} (hs : S 239 = false) : WP 11 G S (f + 1) 239 ls st h k n = (WP 11 G S f 241 ls (.int (nI 10) :: st) h k n) := by rw [wp_s dd_11_239 rfl hs]; rfl
theorem dd_11_241 : decode (mB 11) 241 = .ok (.if_icmp .ne 22, 3) := by decide +kernel
theorem u_11_241 {G : aG} {S : Nat → Bool} {f : Nat} {st : List Value} {ls : aL} {h : aH} {k n : Nat} {x y : Int32} (hs : S 241 = false) : WP 11 G S (f + 1) 241 ls (.int y :: .int x :: st) h k n = (if x = y then WP 11 G S f 244 ls st h k n else WP 11 G S f 263 ls st h k n) := by rw [wp_s dd_11_241 rfl hs]; exact br_iten (c := x = y)
theorem dd_11_244 : decode (mB 11) 244 = .ok (.aload_n 0, 1) := by decide +kernel
theorem u_11_244 {G : aG} {S : Nat → Bool} {f : Nat} {st : List Value} {ls : aL} {h : aH} {k n : Nat} (hs : S 244 = false) : WP 11 G S (f + 1) 244 ls st h k n = (oA (lget ls 0) (WP 11 G S f) 245 ls st h k n) := by rw [wp_s dd_11_244 rfl hs]; rfl
theorem dd_11_245 : decode (mB 11) 245 = .ok (.getfield 24, 3) := by decide +kernel
theorem u_11_245 {G : aG} {S : Nat → Bool} {f : Nat} {st : List Value} {ls : aL} {h : aH} {k n : Nat} {a : Nat} (hs : S 245 = false) : WP 11 G S (f + 1) 245 ls (.ref a :: st) h k n = (oV (fget h a 5 4) (WP 11 G S f) 248 ls st h k n) := by rw [wp_s dd_11_245 rfl hs]; rfl
theorem dd_11_248 : decode (mB 11) 248 = .ok (.iload 4, 2) := by decide +kernel
theorem u_11_248 {G : aG} {S : Nat → Bool} {f : Nat} {st : List Value} {ls : aL} {h : aH} {k n : Nat} (hs : S 248 = false) : WP 11 G S (f + 1) 248 ls st h k n = (oI (lget ls 4) (WP 11 G S f) 250 ls st h k n) := by rw [wp_s dd_11_248 rfl hs]; rfl
theorem dd_11_250 : decode (mB 11) 250 = .ok (.iaload, 1) := by decide +kernel
theorem u_11_250 {G : aG} {S : Nat → Bool} {f : Nat} {st : List Value} {ls : aL} {h : aH} {k n : Nat} {i : Int32} {a : Nat} (hs : S 250 = false) : WP 11 G S (f + 1) 250 ls (.int i :: .ref a :: st) h k n = (oIld (iget h a 1) i (WP 11 G S f) 251 ls st h k n) := by rw [wp_s dd_11_250 rfl hs]; rfl
theorem dd_11_251 : decode (mB 11) 251 = .ok (.aload_n 0, 1) := by decide +kernel
theorem u_11_251 {G : aG} {S : Nat → Bool} {f : Nat} {st : List Value} {ls : aL} {h : aH} {k n : Nat} (hs : S 251 = false) : WP 11 G S (f + 1) 251 ls st h k n = (oA (lget ls 0) (WP 11 G S f) 252 ls st h k n) := by rw [wp_s dd_11_251 rfl hs]; rfl
theorem dd_11_252 : decode (mB 11) 252 = .ok (.getfield 24, 3) := by decide +kernel
theorem u_11_252 {G : aG} {S : Nat → Bool} {f : Nat} {st : List Value} {ls : aL} {h : aH} {k n : Nat} {a : Nat} (hs : S 252 = false) : WP 11 G S (f + 1) 252 ls (.ref a :: st) h k n = (oV (fget h a 5 4) (WP 11 G S f) 255 ls st h k n) := by rw [wp_s dd_11_252 rfl hs]; rfl
theorem dd_11_255 : decode (mB 11) 255 = .ok (.iload_n 3, 1) := by decide +kernel
theorem u_11_255 {G : aG} {S : Nat → Bool} {f : Nat} {st : List Value} {ls : aL} {h : aH} {k n : Nat} (hs : S 255 = false) : WP 11 G S (f + 1) 255 ls st h k n = (oI (lget ls 3) (WP 11 G S f) 256 ls st h k n) := by rw [wp_s dd_11_255 rfl hs]; rfl
theorem dd_11_256 : decode (mB 11) 256 = .ok (.iaload, 1) := by decide +kernel
theorem u_11_256 {G : aG} {S : Nat → Bool} {f : Nat} {st : List Value} {ls : aL} {h : aH} {k n : Nat} {i : Int32} {a : Nat} (hs : S 256 = false) : WP 11 G S (f + 1) 256 ls (.int i :: .ref a :: st) h k n = (oIld (iget h a 1) i (WP 11 G S f) 257 ls st h k n) := by rw [wp_s dd_11_256 rfl hs]; rfl
theorem dd_11_257 : decode (mB 11) 257 = .ok (.invokestatic 50, 3) := by decide +kernel
theorem u_11_257 {G : aG} {S : Nat → Bool} {f : Nat} {st : List Value} {ls : aL} {h : aH} {k n : Nat} {v1 v2 : Value} (hs : S 257 = false) : WP 11 G S (f + 1) 257 ls (v2 :: v1 :: st) h k n = (CAL G (WP 11 G S f) 12 [v1, v2] 260 ls st h k n) := by rw [wp_s dd_11_257 rfl hs]; rfl
theorem dd_11_260 : decode (mB 11) 260 = .ok (.goto 17, 3) := by decide +kernel
theorem u_11_260 {G : aG} {S : Nat → Bool} {f : Nat} {st : List Value} {ls : aL} {h : aH} {k n : Nat} (hs : S 260 = false) : WP 11 G S (f + 1) 260 ls st h k n = (WP 11 G S f 277 ls st h k n) := by rw [wp_s dd_11_260 rfl hs]; rfl
theorem dd_11_263 : decode (mB 11) 263 = .ok (.aload_n 0, 1) := by decide +kernel
theorem u_11_263 {G : aG} {S : Nat → Bool} {f : Nat} {st : List Value} {ls : aL} {h : aH} {k n : Nat} (hs : S 263 = false) : WP 11 G S (f + 1) 263 ls st h k n = (oA (lget ls 0) (WP 11 G S f) 264 ls st h k n) := by rw [wp_s dd_11_263 rfl hs]; rfl
theorem dd_11_264 : decode (mB 11) 264 = .ok (.getfield 24, 3) := by decide +kernel
theorem u_11_264 {G : aG} {S : Nat → Bool} {f : Nat} {st : List Value} {ls : aL} {h : aH} {k n : Nat} {a : Nat} (hs : S 264 = false) : WP 11 G S (f + 1) 264 ls (.ref a :: st) h k n = (oV (fget h a 5 4) (WP 11 G S f) 267 ls st h k n) := by rw [wp_s dd_11_264 rfl hs]; rfl
theorem dd_11_267 : decode (mB 11) 267 = .ok (.iload 4, 2) := by decide +kernel
theorem u_11_267 {G : aG} {S : Nat → Bool} {f : Nat} {st : List Value} {ls : aL} {h : aH} {k n : Nat} (hs : S 267 = false) : WP 11 G S (f + 1) 267 ls st h k n = (oI (lget ls 4) (WP 11 G S f) 269 ls st h k n) := by rw [wp_s dd_11_267 rfl hs]; rfl
theorem dd_11_269 : decode (mB 11) 269 = .ok (.iaload, 1) := by decide +kernel
theorem u_11_269 {G : aG} {S : Nat → Bool} {f : Nat} {st : List Value} {ls : aL} {h : aH} {k n : Nat} {i : Int32} {a : Nat} (hs : S 269 = false) : WP 11 G S (f + 1) 269 ls (.int i :: .ref a :: st) h k n = (oIld (iget h a 1) i (WP 11 G S f) 270 ls st h k n) := by rw [wp_s dd_11_269 rfl hs]; rfl
theorem dd_11_270 : decode (mB 11) 270 = .ok (.aload_n 0, 1) := by decide +kernel
theorem u_11_270 {G : aG} {S : Nat → Bool} {f : Nat} {st : List Value} {ls : aL} {h : aH} {k n : Nat} (hs : S 270 = false) : WP 11 G S (f + 1) 270 ls st h k n = (oA (lget ls 0) (WP 11 G S f) 271 ls st h k n) := by rw [wp_s dd_11_270 rfl hs]; rfl
theorem dd_11_271 : decode (mB 11) 271 = .ok (.getfield 24, 3) := by decide +kernel
theorem u_11_271 {G : aG} {S : Nat → Bool} {f : Nat} {st : List Value} {ls : aL} {h : aH} {k n : Nat} {a : Nat} (hs : S 271 = false) : WP 11 G S (f + 1) 271 ls (.ref a :: st) h k n = (oV (fget h a 5 4) (WP 11 G S f) 274 ls st h k n) := by rw [wp_s dd_11_271 rfl hs]; rfl
theorem dd_11_274 : decode (mB 11) 274 = .ok (.iload_n 3, 1) := by decide +kernel
theorem u_11_274 {G : aG} {S : Nat → Bool} {f : Nat} {st : List Value} {ls : aL} {h : aH} {k n : Nat} (hs : S 274 = false) : WP 11 G S (f + 1) 274 ls st h k n = (oI (lget ls 3) (WP 11 G S f) 275 ls st h k n) := by rw [wp_s dd_11_274 rfl hs]; rfl
theorem dd_11_275 : decode (mB 11) 275 = .ok (.iaload, 1) := by decide +kernel
theorem u_11_275 {G : aG} {S : Nat → Bool} {f : Nat} {st : List Value} {ls : aL} {h : aH} {k n : Nat} {i : Int32} {a : Nat} (hs : S 275 = false) : WP 11 G S (f + 1) 275 ls (.int i :: .ref a :: st) h k n = (oIld (iget h a 1) i (WP 11 G S f) 276 ls st h k n) := by rw [wp_s dd_11_275 rfl hs]; rfl
theorem dd_11_276 : decode (mB 11) 276 = .ok (.iadd, 1) := by decide +kernel
theorem u_11_276 {G : aG} {S : Nat → Bool} {f : Nat} {st : List Value} {ls : aL} {h : aH} {k n : Nat} {x y : Int32} (hs : S 276 = false) : WP 11 G S (f + 1) 276 ls (.int y :: .int x :: st) h k n = (WP 11 G S f 277 ls (.int (x + y) :: st) h k n) := by rw [wp_s dd_11_276 rfl hs]; rfl
theorem dd_11_277 : decode (mB 11) 277 = .ok (.iastore, 1) := by decide +kernel
theorem u_11_277 {G : aG} {S : Nat → Bool} {f : Nat} {st : List Value} {ls : aL} {h : aH} {k n : Nat} {i x : Int32} {a : Nat} (hs : S 277 = false) : WP 11 G S (f + 1) 277 ls (.int x :: .int i :: .ref a :: st) h k n = (oIst (iget h a 1) a i x (WP 11 G S f) 278 ls st h k n) := by rw [wp_s dd_11_277 rfl hs]; rfl
theorem dd_11_278 : decode (mB 11) 278 = .ok (.return_, 1) := by decide +kernel
theorem u_11_278 {G : aG} {S : Nat → Bool} {f : Nat} {ls : aL} {h : aH} {k n : Nat} (hs : S 278 = false) : WP 11 G S (f + 1) 278 ls [] h k n = (RET G none h k n) := by rw [wp_s dd_11_278 rfl hs]; rfl
theorem dd_13_0 : decode (mB 13) 0 = .ok (.aload_n 0, 1) := by decide +kernel
theorem u_13_0 {G : aG} {S : Nat → Bool} {f : Nat} {st : List Value} {ls : aL} {h : aH} {k n : Nat} (hs : S 0 = false) : WP 13 G S (f + 1) 0 ls st h k n = (oA (lget ls 0) (WP 13 G S f) 1 ls st h k n) := by rw [wp_s dd_13_0 rfl hs]; rfl
theorem dd_13_1 : decode (mB 13) 1 = .ok (.aload_n 0, 1) := by decide +kernel
theorem u_13_1 {G : aG} {S : Nat → Bool} {f : Nat} {st : List Value} {ls : aL} {h : aH} {k n : Nat} (hs : S 1 = false) : WP 13 G S (f + 1) 1 ls st h k n = (oA (lget ls 0) (WP 13 G S f) 2 ls st h k n) := by rw [wp_s dd_13_1 rfl hs]; rfl
theorem dd_13_2 : decode (mB 13) 2 = .ok (.getfield 39, 3) := by decide +kernel
theorem u_13_2 {G : aG} {S : Nat → Bool} {f : Nat} {st : List Value} {ls : aL} {h : aH} {k n : Nat} {a : Nat} (hs : S 2 = false) : WP 13 G S (f + 1) 2 ls (.ref a :: st) h k n = (oV (fget h a 5 5) (WP 13 G S f) 5 ls st h k n) := by rw [wp_s dd_13_2 rfl hs]; rfl
theorem dd_13_5 : decode (mB 13) 5 = .ok (.ifCond .lt 21, 3) := by decide +kernel
theorem u_13_5 {G : aG} {S : Nat → Bool} {f : Nat} {st : List Value} {ls : aL} {h : aH} {k n : Nat} {x : Int32} (hs : S 5 = false) : WP 13 G S (f + 1) 5 ls (.int x :: st) h k n = (if x < nI 0 then WP 13 G S f 26 ls st h k n else WP 13 G S f 8 ls st h k n) := by rw [wp_s dd_13_5 rfl hs]; exact br_ite (c := x < nI 0)
theorem dd_13_8 : decode (mB 13) 8 = .ok (.aload_n 0, 1) := by decide +kernel
theorem u_13_8 {G : aG} {S : Nat → Bool} {f : Nat} {st : List Value} {ls : aL} {h : aH} {k n : Nat} (hs : S 8 = false) : WP 13 G S (f + 1) 8 ls st h k n = (oA (lget ls 0) (WP 13 G S f) 9 ls st h k n) := by rw [wp_s dd_13_8 rfl hs]; rfl
theorem dd_13_9 : decode (mB 13) 9 = .ok (.getfield 21, 3) := by decide +kernel
theorem u_13_9 {G : aG} {S : Nat → Bool} {f : Nat} {st : List Value} {ls : aL} {h : aH} {k n : Nat} {a : Nat} (hs : S 9 = false) : WP 13 G S (f + 1) 9 ls (.ref a :: st) h k n = (oV (fget h a 5 3) (WP 13 G S f) 12 ls st h k n) := by rw [wp_s dd_13_9 rfl hs]; rfl
theorem dd_13_12 : decode (mB 13) 12 = .ok (.aload_n 0, 1) := by decide +kernel
theorem u_13_12 {G : aG} {S : Nat → Bool} {f : Nat} {st : List Value} {ls : aL} {h : aH} {k n : Nat} (hs : S 12 = false) : WP 13 G S (f + 1) 12 ls st h k n = (oA (lget ls 0) (WP 13 G S f) 13 ls st h k n) := by rw [wp_s dd_13_12 rfl hs]; rfl
theorem dd_13_13 : decode (mB 13) 13 = .ok (.getfield 39, 3) := by decide +kernel
theorem u_13_13 {G : aG} {S : Nat → Bool} {f : Nat} {st : List Value} {ls : aL} {h : aH} {k n : Nat} {a : Nat} (hs : S 13 = false) : WP 13 G S (f + 1) 13 ls (.ref a :: st) h k n = (oV (fget h a 5 5) (WP 13 G S f) 16 ls st h k n) := by rw [wp_s dd_13_13 rfl hs]; rfl
theorem dd_13_16 : decode (mB 13) 16 = .ok (.iaload, 1) := by decide +kernel
theorem u_13_16 {G : aG} {S : Nat → Bool} {f : Nat} {st : List Value} {ls : aL} {h : aH} {k n : Nat} {i : Int32} {a : Nat} (hs : S 16 = false) : WP 13 G S (f + 1) 16 ls (.int i :: .ref a :: st) h k n = (oIld (iget h a 1) i (WP 13 G S f) 17 ls st h k n) := by rw [wp_s dd_13_16 rfl hs]; rfl
theorem dd_13_17 : decode (mB 13) 17 = .ok (.sipush 256, 3) := by decide +kernel
theorem u_13_17 {G : aG} {S : Nat → Bool} {f : Nat} {st : List Value} {ls : aL} {h : aH} {k n : Nat} (hs : S 17 = false) : WP 13 G S (f + 1) 17 ls st h k n = (WP 13 G S f 20 ls (.int (nI 256) :: st) h k n) := by rw [wp_s dd_13_17 rfl hs]; rfl
theorem dd_13_20 : decode (mB 13) 20 = .ok (.invokestatic 50, 3) := by decide +kernel
theorem u_13_20 {G : aG} {S : Nat → Bool} {f : Nat} {st : List Value} {ls : aL} {h : aH} {k n : Nat} {v1 v2 : Value} (hs : S 20 = false) : WP 13 G S (f + 1) 20 ls (v2 :: v1 :: st) h k n = (CAL G (WP 13 G S f) 12 [v1, v2] 23 ls st h k n) := by rw [wp_s dd_13_20 rfl hs]; rfl
theorem dd_13_23 : decode (mB 13) 23 = .ok (.goto 4, 3) := by decide +kernel
theorem u_13_23 {G : aG} {S : Nat → Bool} {f : Nat} {st : List Value} {ls : aL} {h : aH} {k n : Nat} (hs : S 23 = false) : WP 13 G S (f + 1) 23 ls st h k n = (WP 13 G S f 27 ls st h k n) := by rw [wp_s dd_13_23 rfl hs]; rfl
theorem dd_13_26 : decode (mB 13) 26 = .ok (.iconst 0, 1) := by decide +kernel
theorem u_13_26 {G : aG} {S : Nat → Bool} {f : Nat} {st : List Value} {ls : aL} {h : aH} {k n : Nat} (hs : S 26 = false) : WP 13 G S (f + 1) 26 ls st h k n = (WP 13 G S f 27 ls (.int (nI 0) :: st) h k n) := by rw [wp_s dd_13_26 rfl hs]; rfl
theorem dd_13_27 : decode (mB 13) 27 = .ok (.putfield 56, 3) := by decide +kernel
theorem u_13_27 {G : aG} {S : Nat → Bool} {f : Nat} {st : List Value} {ls : aL} {h : aH} {k n : Nat} {a : Nat} {x : Int32} (hs : S 27 = false) : WP 13 G S (f + 1) 27 ls (.int x :: .ref a :: st) h k n = (oH (fput h a 5 6 (.int x)) (WP 13 G S f) 30 ls st k n) := by rw [wp_s dd_13_27 rfl hs]; rfl
theorem dd_13_30 : decode (mB 13) 30 = .ok (.aload_n 0, 1) := by decide +kernel
theorem u_13_30 {G : aG} {S : Nat → Bool} {f : Nat} {st : List Value} {ls : aL} {h : aH} {k n : Nat} (hs : S 30 = false) : WP 13 G S (f + 1) 30 ls st h k n = (oA (lget ls 0) (WP 13 G S f) 31 ls st h k n) := by rw [wp_s dd_13_30 rfl hs]; rfl
theorem dd_13_31 : decode (mB 13) 31 = .ok (.getfield 27, 3) := by decide +kernel
theorem u_13_31 {G : aG} {S : Nat → Bool} {f : Nat} {st : List Value} {ls : aL} {h : aH} {k n : Nat} {a : Nat} (hs : S 31 = false) : WP 13 G S (f + 1) 31 ls (.ref a :: st) h k n = (oV (fget h a 5 8) (WP 13 G S f) 34 ls st h k n) := by rw [wp_s dd_13_31 rfl hs]; rfl
theorem dd_13_34 : decode (mB 13) 34 = .ok (.arraylength, 1) := by decide +kernel
theorem u_13_34 {G : aG} {S : Nat → Bool} {f : Nat} {st : List Value} {ls : aL} {h : aH} {k n : Nat} {a : Nat} (hs : S 34 = false) : WP 13 G S (f + 1) 34 ls (.ref a :: st) h k n = (oLen (alen h a) (WP 13 G S f) 35 ls st h k n) := by rw [wp_s dd_13_34 rfl hs]; rfl
theorem dd_13_35 : decode (mB 13) 35 = .ok (.aload_n 0, 1) := by decide +kernel
theorem u_13_35 {G : aG} {S : Nat → Bool} {f : Nat} {st : List Value} {ls : aL} {h : aH} {k n : Nat} (hs : S 35 = false) : WP 13 G S (f + 1) 35 ls st h k n = (oA (lget ls 0) (WP 13 G S f) 36 ls st h k n) := by rw [wp_s dd_13_35 rfl hs]; rfl
theorem dd_13_36 : decode (mB 13) 36 = .ok (.getfield 56, 3) := by decide +kernel
theorem u_13_36 {G : aG} {S : Nat → Bool} {f : Nat} {st : List Value} {ls : aL} {h : aH} {k n : Nat} {a : Nat} (hs : S 36 = false) : WP 13 G S (f + 1) 36 ls (.ref a :: st) h k n = (oV (fget h a 5 6) (WP 13 G S f) 39 ls st h k n) := by rw [wp_s dd_13_36 rfl hs]; rfl
theorem dd_13_39 : decode (mB 13) 39 = .ok (.if_icmp .ge 33, 3) := by decide +kernel
theorem u_13_39 {G : aG} {S : Nat → Bool} {f : Nat} {st : List Value} {ls : aL} {h : aH} {k n : Nat} {x y : Int32} (hs : S 39 = false) : WP 13 G S (f + 1) 39 ls (.int y :: .int x :: st) h k n = (if y ≤ x then WP 13 G S f 72 ls st h k n else WP 13 G S f 42 ls st h k n) := by rw [wp_s dd_13_39 rfl hs]; exact br_ite (c := y ≤ x)
theorem dd_13_42 : decode (mB 13) 42 = .ok (.aload_n 0, 1) := by decide +kernel
theorem u_13_42 {G : aG} {S : Nat → Bool} {f : Nat} {st : List Value} {ls : aL} {h : aH} {k n : Nat} (hs : S 42 = false) : WP 13 G S (f + 1) 42 ls st h k n = (oA (lget ls 0) (WP 13 G S f) 43 ls st h k n) := by rw [wp_s dd_13_42 rfl hs]; rfl
theorem dd_13_43 : decode (mB 13) 43 = .ok (.aload_n 0, 1) := by decide +kernel
theorem u_13_43 {G : aG} {S : Nat → Bool} {f : Nat} {st : List Value} {ls : aL} {h : aH} {k n : Nat} (hs : S 43 = false) : WP 13 G S (f + 1) 43 ls st h k n = (oA (lget ls 0) (WP 13 G S f) 44 ls st h k n) := by rw [wp_s dd_13_43 rfl hs]; rfl
theorem dd_13_44 : decode (mB 13) 44 = .ok (.getfield 56, 3) := by decide +kernel
theorem u_13_44 {G : aG} {S : Nat → Bool} {f : Nat} {st : List Value} {ls : aL} {h : aH} {k n : Nat} {a : Nat} (hs : S 44 = false) : WP 13 G S (f + 1) 44 ls (.ref a :: st) h k n = (oV (fget h a 5 6) (WP 13 G S f) 47 ls st h k n) := by rw [wp_s dd_13_44 rfl hs]; rfl
theorem dd_13_47 : decode (mB 13) 47 = .ok (.newarray .int, 2) := by decide +kernel
theorem u_13_47 {G : aG} {S : Nat → Bool} {f : Nat} {st : List Value} {ls : aL} {h : aH} {k n : Nat} {x : Int32} (hs : S 47 = false) : WP 13 G S (f + 1) 47 ls (.int x :: st) h k n = (¬ x < 0 ∧ x.toNatClampNeg * 4 ≤ 536870912 ∧ oNew G (cI x.toNatClampNeg) x.toNatClampNeg (WP 13 G S f) 49 ls st h k n) := by rw [wp_s dd_13_47 rfl hs]; rfl
theorem dd_13_49 : decode (mB 13) 49 = .ok (.putfield 27, 3) := by decide +kernel
theorem u_13_49 {G : aG} {S : Nat → Bool} {f : Nat} {st : List Value} {ls : aL} {h : aH} {k n : Nat} {a : Nat} {x : Nat} (hs : S 49 = false) : WP 13 G S (f + 1) 49 ls (.ref x :: .ref a :: st) h k n = (oH (fput h a 5 8 (.ref x)) (WP 13 G S f) 52 ls st k n) := by rw [wp_s dd_13_49 rfl hs]; rfl
theorem dd_13_52 : decode (mB 13) 52 = .ok (.aload_n 0, 1) := by decide +kernel
theorem u_13_52 {G : aG} {S : Nat → Bool} {f : Nat} {st : List Value} {ls : aL} {h : aH} {k n : Nat} (hs : S 52 = false) : WP 13 G S (f + 1) 52 ls st h k n = (oA (lget ls 0) (WP 13 G S f) 53 ls st h k n) := by rw [wp_s dd_13_52 rfl hs]; rfl
theorem dd_13_53 : decode (mB 13) 53 = .ok (.aload_n 0, 1) := by decide +kernel
theorem u_13_53 {G : aG} {S : Nat → Bool} {f : Nat} {st : List Value} {ls : aL} {h : aH} {k n : Nat} (hs : S 53 = false) : WP 13 G S (f + 1) 53 ls st h k n = (oA (lget ls 0) (WP 13 G S f) 54 ls st h k n) := by rw [wp_s dd_13_53 rfl hs]; rfl
theorem dd_13_54 : decode (mB 13) 54 = .ok (.getfield 56, 3) := by decide +kernel
theorem u_13_54 {G : aG} {S : Nat → Bool} {f : Nat} {st : List Value} {ls : aL} {h : aH} {k n : Nat} {a : Nat} (hs : S 54 = false) : WP 13 G S (f + 1) 54 ls (.ref a :: st) h k n = (oV (fget h a 5 6) (WP 13 G S f) 57 ls st h k n) := by rw [wp_s dd_13_54 rfl hs]; rfl
theorem dd_13_57 : decode (mB 13) 57 = .ok (.newarray .int, 2) := by decide +kernel
theorem u_13_57 {G : aG} {S : Nat → Bool} {f : Nat} {st : List Value} {ls : aL} {h : aH} {k n : Nat} {x : Int32} (hs : S 57 = false) : WP 13 G S (f + 1) 57 ls (.int x :: st) h k n = (¬ x < 0 ∧ x.toNatClampNeg * 4 ≤ 536870912 ∧ oNew G (cI x.toNatClampNeg) x.toNatClampNeg (WP 13 G S f) 59 ls st h k n) := by rw [wp_s dd_13_57 rfl hs]; rfl
theorem dd_13_59 : decode (mB 13) 59 = .ok (.putfield 33, 3) := by decide +kernel
theorem u_13_59 {G : aG} {S : Nat → Bool} {f : Nat} {st : List Value} {ls : aL} {h : aH} {k n : Nat} {a : Nat} {x : Nat} (hs : S 59 = false) : WP 13 G S (f + 1) 59 ls (.ref x :: .ref a :: st) h k n = (oH (fput h a 5 10 (.ref x)) (WP 13 G S f) 62 ls st k n) := by rw [wp_s dd_13_59 rfl hs]; rfl
theorem dd_13_62 : decode (mB 13) 62 = .ok (.aload_n 0, 1) := by decide +kernel
theorem u_13_62 {G : aG} {S : Nat → Bool} {f : Nat} {st : List Value} {ls : aL} {h : aH} {k n : Nat} (hs : S 62 = false) : WP 13 G S (f + 1) 62 ls st h k n = (oA (lget ls 0) (WP 13 G S f) 63 ls st h k n) := by rw [wp_s dd_13_62 rfl hs]; rfl
theorem dd_13_63 : decode (mB 13) 63 = .ok (.aload_n 0, 1) := by decide +kernel
theorem u_13_63 {G : aG} {S : Nat → Bool} {f : Nat} {st : List Value} {ls : aL} {h : aH} {k n : Nat} (hs : S 63 = false) : WP 13 G S (f + 1) 63 ls st h k n = (oA (lget ls 0) (WP 13 G S f) 64 ls st h k n) := by rw [wp_s dd_13_63 rfl hs]; rfl
theorem dd_13_64 : decode (mB 13) 64 = .ok (.getfield 56, 3) := by decide +kernel
theorem u_13_64 {G : aG} {S : Nat → Bool} {f : Nat} {st : List Value} {ls : aL} {h : aH} {k n : Nat} {a : Nat} (hs : S 64 = false) : WP 13 G S (f + 1) 64 ls (.ref a :: st) h k n = (oV (fget h a 5 6) (WP 13 G S f) 67 ls st h k n) := by rw [wp_s dd_13_64 rfl hs]; rfl
theorem dd_13_67 : decode (mB 13) 67 = .ok (.newarray .int, 2) := by decide +kernel
theorem u_13_67 {G : aG} {S : Nat → Bool} {f : Nat} {st : List Value} {ls : aL} {h : aH} {k n : Nat} {x : Int32} (hs : S 67 = false) : WP 13 G S (f + 1) 67 ls (.int x :: st) h k n = (¬ x < 0 ∧ x.toNatClampNeg * 4 ≤ 536870912 ∧ oNew G (cI x.toNatClampNeg) x.toNatClampNeg (WP 13 G S f) 69 ls st h k n) := by rw [wp_s dd_13_67 rfl hs]; rfl
theorem dd_13_69 : decode (mB 13) 69 = .ok (.putfield 36, 3) := by decide +kernel
theorem u_13_69 {G : aG} {S : Nat → Bool} {f : Nat} {st : List Value} {ls : aL} {h : aH} {k n : Nat} {a : Nat} {x : Nat} (hs : S 69 = false) : WP 13 G S (f + 1) 69 ls (.ref x :: .ref a :: st) h k n = (oH (fput h a 5 11 (.ref x)) (WP 13 G S f) 72 ls st k n) := by rw [wp_s dd_13_69 rfl hs]; rfl
theorem dd_13_72 : decode (mB 13) 72 = .ok (.iconst 0, 1) := by decide +kernel
theorem u_13_72 {G : aG} {S : Nat → Bool} {f : Nat} {st : List Value} {ls : aL} {h : aH} {k n : Nat} (hs : S 72 = false) : WP 13 G S (f + 1) 72 ls st h k n = (WP 13 G S f 73 ls (.int (nI 0) :: st) h k n) := by rw [wp_s dd_13_72 rfl hs]; rfl
theorem dd_13_73 : decode (mB 13) 73 = .ok (.istore_n 1, 1) := by decide +kernel
theorem u_13_73 {G : aG} {S : Nat → Bool} {f : Nat} {st : List Value} {ls : aL} {h : aH} {k n : Nat} {x : Int32} (hs : S 73 = false) : WP 13 G S (f + 1) 73 ls (.int x :: st) h k n = (WP 13 G S f 74 (lput1 ls 1 (.int x)) st h k n) := by rw [wp_s dd_13_73 rfl hs]; rfl
theorem dd_13_74 : decode (mB 13) 74 = .ok (.iload_n 1, 1) := by decide +kernel
theorem u_13_74 {G : aG} {S : Nat → Bool} {f : Nat} {st : List Value} {ls : aL} {h : aH} {k n : Nat} (hs : S 74 = false) : WP 13 G S (f + 1) 74 ls st h k n = (oI (lget ls 1) (WP 13 G S f) 75 ls st h k n) := by rw [wp_s dd_13_74 rfl hs]; rfl
theorem v_13_74 {G : aG} {S : Nat → Bool} {f : Nat} {st : List Value} {ls : aL} {h : aH} {k n : Nat} : WQ 13 G S f 74 ls st h k n = (oI (lget ls 1) (WP 13 G S f) 75 ls st h k n) := by rw [wq_s dd_13_74 rfl]; rfl
theorem dd_13_75 : decode (mB 13) 75 = .ok (.aload_n 0, 1) := by decide +kernel
theorem u_13_75 {G : aG} {S : Nat → Bool} {f : Nat} {st : List Value} {ls : aL} {h : aH} {k n : Nat} (hs : S 75 = false) : WP 13 G S (f + 1) 75 ls st h k n = (oA (lget ls 0) (WP 13 G S f) 76 ls st h k n) := by rw [wp_s dd_13_75 rfl hs]; rfl
theorem dd_13_76 : decode (mB 13) 76 = .ok (.getfield 56, 3) := by decide +kernel
theorem u_13_76 {G : aG} {S : Nat → Bool} {f : Nat} {st : List Value} {ls : aL} {h : aH} {k n : Nat} {a : Nat} (hs : S 76 = false) : WP 13 G S (f + 1) 76 ls (.ref a :: st) h k n = (oV (fget h a 5 6) (WP 13 G S f) 79 ls st h k n) := by rw [wp_s dd_13_76 rfl hs]; rfl
theorem dd_13_79 : decode (mB 13) 79 = .ok (.if_icmp .ge 34, 3) := by decide +kernel
theorem u_13_79 {G : aG} {S : Nat → Bool} {f : Nat} {st : List Value} {ls : aL} {h : aH} {k n : Nat} {x y : Int32} (hs : S 79 = false) : WP 13 G S (f + 1) 79 ls (.int y :: .int x :: st) h k n = (if y ≤ x then WP 13 G S f 113 ls st h k n else WP 13 G S f 82 ls st h k n) := by rw [wp_s dd_13_79 rfl hs]; exact br_ite (c := y ≤ x)
theorem dd_13_82 : decode (mB 13) 82 = .ok (.aload_n 0, 1) := by decide +kernel
theorem u_13_82 {G : aG} {S : Nat → Bool} {f : Nat} {st : List Value} {ls : aL} {h : aH} {k n : Nat} (hs : S 82 = false) : WP 13 G S (f + 1) 82 ls st h k n = (oA (lget ls 0) (WP 13 G S f) 83 ls st h k n) := by rw [wp_s dd_13_82 rfl hs]; rfl
theorem dd_13_83 : decode (mB 13) 83 = .ok (.getfield 27, 3) := by decide +kernel
theorem u_13_83 {G : aG} {S : Nat → Bool} {f : Nat} {st : List Value} {ls : aL} {h : aH} {k n : Nat} {a : Nat} (hs : S 83 = false) : WP 13 G S (f + 1) 83 ls (.ref a :: st) h k n = (oV (fget h a 5 8) (WP 13 G S f) 86 ls st h k n) := by rw [wp_s dd_13_83 rfl hs]; rfl
theorem dd_13_86 : decode (mB 13) 86 = .ok (.iload_n 1, 1) := by decide +kernel
theorem u_13_86 {G : aG} {S : Nat → Bool} {f : Nat} {st : List Value} {ls : aL} {h : aH} {k n : Nat} (hs : S 86 = false) : WP 13 G S (f + 1) 86 ls st h k n = (oI (lget ls 1) (WP 13 G S f) 87 ls st h k n) := by rw [wp_s dd_13_86 rfl hs]; rfl
theorem dd_13_87 : decode (mB 13) 87 = .ok (.aload_n 0, 1) := by decide +kernel
theorem u_13_87 {G : aG} {S : Nat → Bool} {f : Nat} {st : List Value} {ls : aL} {h : aH} {k n : Nat} (hs : S 87 = false) : WP 13 G S (f + 1) 87 ls st h k n = (oA (lget ls 0) (WP 13 G S f) 88 ls st h k n) := by rw [wp_s dd_13_87 rfl hs]; rfl
theorem dd_13_88 : decode (mB 13) 88 = .ok (.aload_n 0, 1) := by decide +kernel
theorem u_13_88 {G : aG} {S : Nat → Bool} {f : Nat} {st : List Value} {ls : aL} {h : aH} {k n : Nat} (hs : S 88 = false) : WP 13 G S (f + 1) 88 ls st h k n = (oA (lget ls 0) (WP 13 G S f) 89 ls st h k n) := by rw [wp_s dd_13_88 rfl hs]; rfl
theorem dd_13_89 : decode (mB 13) 89 = .ok (.getfield 39, 3) := by decide +kernel
theorem u_13_89 {G : aG} {S : Nat → Bool} {f : Nat} {st : List Value} {ls : aL} {h : aH} {k n : Nat} {a : Nat} (hs : S 89 = false) : WP 13 G S (f + 1) 89 ls (.ref a :: st) h k n = (oV (fget h a 5 5) (WP 13 G S f) 92 ls st h k n) := by rw [wp_s dd_13_89 rfl hs]; rfl
theorem dd_13_92 : decode (mB 13) 92 = .ok (.iload_n 1, 1) := by decide +kernel
theorem u_13_92 {G : aG} {S : Nat → Bool} {f : Nat} {st : List Value} {ls : aL} {h : aH} {k n : Nat} (hs : S 92 = false) : WP 13 G S (f + 1) 92 ls st h k n = (oI (lget ls 1) (WP 13 G S f) 93 ls st h k n) := by rw [wp_s dd_13_92 rfl hs]; rfl
theorem dd_13_93 : decode (mB 13) 93 = .ok (.invokevirtual 59, 3) := by decide +kernel
theorem u_13_93 {G : aG} {S : Nat → Bool} {f : Nat} {st : List Value} {ls : aL} {h : aH} {k n : Nat} {v1 v2 : Value} {b : Nat} (hs : S 93 = false) : WP 13 G S (f + 1) 93 ls (v2 :: v1 :: .ref b :: st) h k n = (rcv (hget h b) 5 ∧ CAL G (WP 13 G S f) 14 [.ref b, v1, v2] 96 ls st h k n) := by rw [wp_s dd_13_93 rfl hs]; rfl
theorem dd_13_96 : decode (mB 13) 96 = .ok (.ifCond .eq 9, 3) := by decide +kernel
theorem u_13_96 {G : aG} {S : Nat → Bool} {f : Nat} {st : List Value} {ls : aL} {h : aH} {k n : Nat} {x : Int32} (hs : S 96 = false) : WP 13 G S (f + 1) 96 ls (.int x :: st) h k n = (if x = nI 0 then WP 13 G S f 105 ls st h k n else WP 13 G S f 99 ls st h k n) := by rw [wp_s dd_13_96 rfl hs]; exact br_ite (c := x = nI 0)
theorem dd_13_99 : decode (mB 13) 99 = .ok (.sipush 256, 3) := by decide +kernel
theorem u_13_99 {G : aG} {S : Nat → Bool} {f : Nat} {st : List Value} {ls : aL} {h : aH} {k n : Nat} (hs : S 99 = false) : WP 13 G S (f + 1) 99 ls st h k n = (WP 13 G S f 102 ls (.int (nI 256) :: st) h k n) := by rw [wp_s dd_13_99 rfl hs]; rfl
theorem dd_13_102 : decode (mB 13) 102 = .ok (.goto 4, 3) := by decide +kernel
theorem u_13_102 {G : aG} {S : Nat → Bool} {f : Nat} {st : List Value} {ls : aL} {h : aH} {k n : Nat} (hs : S 102 = false) : WP 13 G S (f + 1) 102 ls st h k n = (WP 13 G S f 106 ls st h k n) := by rw [wp_s dd_13_102 rfl hs]; rfl
theorem dd_13_105 : decode (mB 13) 105 = .ok (.iconst 0, 1) := by decide +kernel
theorem u_13_105 {G : aG} {S : Nat → Bool} {f : Nat} {st : List Value} {ls : aL} {h : aH} {k n : Nat} (hs : S 105 = false) : WP 13 G S (f + 1) 105 ls st h k n = (WP 13 G S f 106 ls (.int (nI 0) :: st) h k n) := by rw [wp_s dd_13_105 rfl hs]; rfl
theorem dd_13_106 : decode (mB 13) 106 = .ok (.iastore, 1) := by decide +kernel
theorem u_13_106 {G : aG} {S : Nat → Bool} {f : Nat} {st : List Value} {ls : aL} {h : aH} {k n : Nat} {i x : Int32} {a : Nat} (hs : S 106 = false) : WP 13 G S (f + 1) 106 ls (.int x :: .int i :: .ref a :: st) h k n = (oIst (iget h a 1) a i x (WP 13 G S f) 107 ls st h k n) := by rw [wp_s dd_13_106 rfl hs]; rfl
theorem dd_13_107 : decode (mB 13) 107 = .ok (.iinc 1 1, 3) := by decide +kernel
theorem u_13_107 {G : aG} {S : Nat → Bool} {f : Nat} {st : List Value} {ls : aL} {h : aH} {k n : Nat} (hs : S 107 = false) : WP 13 G S (f + 1) 107 ls st h k n = (oInc (lget ls 1) (nI 1) (WP 13 G S f) 1 110 ls st h k n) := by rw [wp_s dd_13_107 rfl hs]; rfl
theorem dd_13_110 : decode (mB 13) 110 = .ok (.goto (-36), 3) := by decide +kernel
theorem u_13_110 {G : aG} {S : Nat → Bool} {f : Nat} {st : List Value} {ls : aL} {h : aH} {k n : Nat} (hs : S 110 = false) : WP 13 G S (f + 1) 110 ls st h k n = (WP 13 G S f 74 ls st h k n) := by rw [wp_s dd_13_110 rfl hs]; rfl
theorem dd_13_113 : decode (mB 13) 113 = .ok (.return_, 1) := by decide +kernel
theorem u_13_113 {G : aG} {S : Nat → Bool} {f : Nat} {ls : aL} {h : aH} {k n : Nat} (hs : S 113 = false) : WP 13 G S (f + 1) 113 ls [] h k n = (RET G none h k n) := by rw [wp_s dd_13_113 rfl hs]; rfl
theorem dd_14_0 : decode (mB 14) 0 = .ok (.iload_n 1, 1) := by decide +kernel
theorem u_14_0 {G : aG} {S : Nat → Bool} {f : Nat} {st : List Value} {ls : aL} {h : aH} {k n : Nat} (hs : S 0 = false) : WP 14 G S (f + 1) 0 ls st h k n = (oI (lget ls 1) (WP 14 G S f) 1 ls st h k n) := by rw [wp_s dd_14_0 rfl hs]; rfl
theorem dd_14_1 : decode (mB 14) 1 = .ok (.ifCond .ge 5, 3) := by decide +kernel
theorem u_14_1 {G : aG} {S : Nat → Bool} {f : Nat} {st : List Value} {ls : aL} {h : aH} {k n : Nat} {x : Int32} (hs : S 1 = false) : WP 14 G S (f + 1) 1 ls (.int x :: st) h k n = (if nI 0 ≤ x then WP 14 G S f 6 ls st h k n else WP 14 G S f 4 ls st h k n) := by rw [wp_s dd_14_1 rfl hs]; exact br_ite (c := nI 0 ≤ x)
theorem dd_14_4 : decode (mB 14) 4 = .ok (.iconst 0, 1) := by decide +kernel
theorem u_14_4 {G : aG} {S : Nat → Bool} {f : Nat} {st : List Value} {ls : aL} {h : aH} {k n : Nat} (hs : S 4 = false) : WP 14 G S (f + 1) 4 ls st h k n = (WP 14 G S f 5 ls (.int (nI 0) :: st) h k n) := by rw [wp_s dd_14_4 rfl hs]; rfl
theorem dd_14_5 : decode (mB 14) 5 = .ok (.ireturn, 1) := by decide +kernel
theorem u_14_5 {G : aG} {S : Nat → Bool} {f : Nat} {ls : aL} {h : aH} {k n : Nat} {x : Int32} (hs : S 5 = false) : WP 14 G S (f + 1) 5 ls [.int x] h k n = (cond (x == nI 0 || x == nI 1) (RET G (some (.int x)) h k n) False) := by rw [wp_s dd_14_5 rfl hs]; rfl
theorem dd_14_6 : decode (mB 14) 6 = .ok (.aload_n 0, 1) := by decide +kernel
theorem u_14_6 {G : aG} {S : Nat → Bool} {f : Nat} {st : List Value} {ls : aL} {h : aH} {k n : Nat} (hs : S 6 = false) : WP 14 G S (f + 1) 6 ls st h k n = (oA (lget ls 0) (WP 14 G S f) 7 ls st h k n) := by rw [wp_s dd_14_6 rfl hs]; rfl
theorem dd_14_7 : decode (mB 14) 7 = .ok (.getfield 9, 3) := by decide +kernel
theorem u_14_7 {G : aG} {S : Nat → Bool} {f : Nat} {st : List Value} {ls : aL} {h : aH} {k n : Nat} {a : Nat} (hs : S 7 = false) : WP 14 G S (f + 1) 7 ls (.ref a :: st) h k n = (oV (fget h a 5 0) (WP 14 G S f) 10 ls st h k n) := by rw [wp_s dd_14_7 rfl hs]; rfl
theorem dd_14_10 : decode (mB 14) 10 = .ok (.iload_n 1, 1) := by decide +kernel
theorem u_14_10 {G : aG} {S : Nat → Bool} {f : Nat} {st : List Value} {ls : aL} {h : aH} {k n : Nat} (hs : S 10 = false) : WP 14 G S (f + 1) 10 ls st h k n = (oI (lget ls 1) (WP 14 G S f) 11 ls st h k n) := by rw [wp_s dd_14_10 rfl hs]; rfl
theorem dd_14_11 : decode (mB 14) 11 = .ok (.iaload, 1) := by decide +kernel
theorem u_14_11 {G : aG} {S : Nat → Bool} {f : Nat} {st : List Value} {ls : aL} {h : aH} {k n : Nat} {i : Int32} {a : Nat} (hs : S 11 = false) : WP 14 G S (f + 1) 11 ls (.int i :: .ref a :: st) h k n = (oIld (iget h a 1) i (WP 14 G S f) 12 ls st h k n) := by rw [wp_s dd_14_11 rfl hs]; rfl
theorem dd_14_12 : decode (mB 14) 12 = .ok (.istore_n 3, 1) := by decide +kernel
theorem u_14_12 {G : aG} {S : Nat → Bool} {f : Nat} {st : List Value} {ls : aL} {h : aH} {k n : Nat} {x : Int32} (hs : S 12 = false) : WP 14 G S (f + 1) 12 ls (.int x :: st) h k n = (WP 14 G S f 13 (lput1 ls 3 (.int x)) st h k n) := by rw [wp_s dd_14_12 rfl hs]; rfl
theorem dd_14_13 : decode (mB 14) 13 = .ok (.iload_n 1, 1) := by decide +kernel
theorem u_14_13 {G : aG} {S : Nat → Bool} {f : Nat} {st : List Value} {ls : aL} {h : aH} {k n : Nat} (hs : S 13 = false) : WP 14 G S (f + 1) 13 ls st h k n = (oI (lget ls 1) (WP 14 G S f) 14 ls st h k n) := by rw [wp_s dd_14_13 rfl hs]; rfl
theorem dd_14_14 : decode (mB 14) 14 = .ok (.iconst 1, 1) := by decide +kernel
theorem u_14_14 {G : aG} {S : Nat → Bool} {f : Nat} {st : List Value} {ls : aL} {h : aH} {k n : Nat} (hs : S 14 = false) : WP 14 G S (f + 1) 14 ls st h k n = (WP 14 G S f 15 ls (.int (nI 1) :: st) h k n) := by rw [wp_s dd_14_14 rfl hs]; rfl
theorem dd_14_15 : decode (mB 14) 15 = .ok (.isub, 1) := by decide +kernel
theorem u_14_15 {G : aG} {S : Nat → Bool} {f : Nat} {st : List Value} {ls : aL} {h : aH} {k n : Nat} {x y : Int32} (hs : S 15 = false) : WP 14 G S (f + 1) 15 ls (.int y :: .int x :: st) h k n = (WP 14 G S f 16 ls (.int (x - y) :: st) h k n) := by rw [wp_s dd_14_15 rfl hs]; rfl
theorem dd_14_16 : decode (mB 14) 16 = .ok (.istore 4, 2) := by decide +kernel
theorem u_14_16 {G : aG} {S : Nat → Bool} {f : Nat} {st : List Value} {ls : aL} {h : aH} {k n : Nat} {x : Int32} (hs : S 16 = false) : WP 14 G S (f + 1) 16 ls (.int x :: st) h k n = (WP 14 G S f 18 (lput1 ls 4 (.int x)) st h k n) := by rw [wp_s dd_14_16 rfl hs]; rfl
theorem dd_14_18 : decode (mB 14) 18 = .ok (.aload_n 0, 1) := by decide +kernel
theorem u_14_18 {G : aG} {S : Nat → Bool} {f : Nat} {st : List Value} {ls : aL} {h : aH} {k n : Nat} (hs : S 18 = false) : WP 14 G S (f + 1) 18 ls st h k n = (oA (lget ls 0) (WP 14 G S f) 19 ls st h k n) := by rw [wp_s dd_14_18 rfl hs]; rfl
theorem dd_14_19 : decode (mB 14) 19 = .ok (.getfield 18, 3) := by decide +kernel
theorem u_14_19 {G : aG} {S : Nat → Bool} {f : Nat} {st : List Value} {ls : aL} {h : aH} {k n : Nat} {a : Nat} (hs : S 19 = false) : WP 14 G S (f + 1) 19 ls (.ref a :: st) h k n = (oV (fget h a 5 2) (WP 14 G S f) 22 ls st h k n) := by rw [wp_s dd_14_19 rfl hs]; rfl
theorem dd_14_22 : decode (mB 14) 22 = .ok (.iload_n 1, 1) := by decide +kernel
theorem u_14_22 {G : aG} {S : Nat → Bool} {f : Nat} {st : List Value} {ls : aL} {h : aH} {k n : Nat} (hs : S 22 = false) : WP 14 G S (f + 1) 22 ls st h k n = (oI (lget ls 1) (WP 14 G S f) 23 ls st h k n) := by rw [wp_s dd_14_22 rfl hs]; rfl
theorem dd_14_23 : decode (mB 14) 23 = .ok (.iaload, 1) := by decide +kernel
theorem u_14_23 {G : aG} {S : Nat → Bool} {f : Nat} {st : List Value} {ls : aL} {h : aH} {k n : Nat} {i : Int32} {a : Nat} (hs : S 23 = false) : WP 14 G S (f + 1) 23 ls (.int i :: .ref a :: st) h k n = (oIld (iget h a 1) i (WP 14 G S f) 24 ls st h k n) := by rw [wp_s dd_14_23 rfl hs]; rfl
theorem dd_14_24 : decode (mB 14) 24 = .ok (.istore 5, 2) := by decide +kernel
theorem u_14_24 {G : aG} {S : Nat → Bool} {f : Nat} {st : List Value} {ls : aL} {h : aH} {k n : Nat} {x : Int32} (hs : S 24 = false) : WP 14 G S (f + 1) 24 ls (.int x :: st) h k n = (WP 14 G S f 26 (lput1 ls 5 (.int x)) st h k n) := by rw [wp_s dd_14_24 rfl hs]; rfl
theorem dd_14_26 : decode (mB 14) 26 = .ok (.iload_n 3, 1) := by decide +kernel
theorem u_14_26 {G : aG} {S : Nat → Bool} {f : Nat} {st : List Value} {ls : aL} {h : aH} {k n : Nat} (hs : S 26 = false) : WP 14 G S (f + 1) 26 ls st h k n = (oI (lget ls 3) (WP 14 G S f) 27 ls st h k n) := by rw [wp_s dd_14_26 rfl hs]; rfl
theorem dd_14_27 : decode (mB 14) 27 = .ok (.bipush 9, 2) := by decide +kernel
theorem u_14_27 {G : aG} {S : Nat → Bool} {f : Nat} {st : List Value} {ls : aL} {h : aH} {k n : Nat} (hs : S 27 = false) : WP 14 G S (f + 1) 27 ls st h k n = (WP 14 G S f 29 ls (.int (nI 9) :: st) h k n) := by rw [wp_s dd_14_27 rfl hs]; rfl
theorem dd_14_29 : decode (mB 14) 29 = .ok (.if_icmp .gt 20, 3) := by decide +kernel
theorem u_14_29 {G : aG} {S : Nat → Bool} {f : Nat} {st : List Value} {ls : aL} {h : aH} {k n : Nat} {x y : Int32} (hs : S 29 = false) : WP 14 G S (f + 1) 29 ls (.int y :: .int x :: st) h k n = (if y < x then WP 14 G S f 49 ls st h k n else WP 14 G S f 32 ls st h k n) := by rw [wp_s dd_14_29 rfl hs]; exact br_ite (c := y < x)
theorem dd_14_32 : decode (mB 14) 32 = .ok (.iload_n 3, 1) := by decide +kernel
theorem u_14_32 {G : aG} {S : Nat → Bool} {f : Nat} {st : List Value} {ls : aL} {h : aH} {k n : Nat} (hs : S 32 = false) : WP 14 G S (f + 1) 32 ls st h k n = (oI (lget ls 3) (WP 14 G S f) 33 ls st h k n) := by rw [wp_s dd_14_32 rfl hs]; rfl
theorem dd_14_33 : decode (mB 14) 33 = .ok (.bipush 9, 2) := by decide +kernel
theorem u_14_33 {G : aG} {S : Nat → Bool} {f : Nat} {st : List Value} {ls : aL} {h : aH} {k n : Nat} (hs : S 33 = false) : WP 14 G S (f + 1) 33 ls st h k n = (WP 14 G S f 35 ls (.int (nI 9) :: st) h k n) := by rw [wp_s dd_14_33 rfl hs]; rfl
theorem dd_14_35 : decode (mB 14) 35 = .ok (.if_icmp .eq 8, 3) := by decide +kernel
theorem u_14_35 {G : aG} {S : Nat → Bool} {f : Nat} {st : List Value} {ls : aL} {h : aH} {k n : Nat} {x y : Int32} (hs : S 35 = false) : WP 14 G S (f + 1) 35 ls (.int y :: .int x :: st) h k n = (if x = y then WP 14 G S f 43 ls st h k n else WP 14 G S f 38 ls st h k n) := by rw [wp_s dd_14_35 rfl hs]; exact br_ite (c := x = y)
theorem dd_14_38 : decode (mB 14) 38 = .ok (.iload_n 2, 1) := by decide +kernel
theorem u_14_38 {G : aG} {S : Nat → Bool} {f : Nat} {st : List Value} {ls : aL} {h : aH} {k n : Nat} (hs : S 38 = false) : WP 14 G S (f + 1) 38 ls st h k n = (oI (lget ls 2) (WP 14 G S f) 39 ls st h k n) := by rw [wp_s dd_14_38 rfl hs]; rfl
theorem dd_14_39 : decode (mB 14) 39 = .ok (.iconst 1, 1) := by decide +kernel
theorem u_14_39 {G : aG} {S : Nat → Bool} {f : Nat} {st : List Value} {ls : aL} {h : aH} {k n : Nat} (hs : S 39 = false) : WP 14 G S (f + 1) 39 ls st h k n = (WP 14 G S f 40 ls (.int (nI 1) :: st) h k n) := by rw [wp_s dd_14_39 rfl hs]; rfl
theorem dd_14_40 : decode (mB 14) 40 = .ok (.if_icmp .ne 7, 3) := by decide +kernel
theorem u_14_40 {G : aG} {S : Nat → Bool} {f : Nat} {st : List Value} {ls : aL} {h : aH} {k n : Nat} {x y : Int32} (hs : S 40 = false) : WP 14 G S (f + 1) 40 ls (.int y :: .int x :: st) h k n = (if x = y then WP 14 G S f 43 ls st h k n else WP 14 G S f 47 ls st h k n) := by rw [wp_s dd_14_40 rfl hs]; exact br_iten (c := x = y)
theorem dd_14_43 : decode (mB 14) 43 = .ok (.iconst 1, 1) := by decide +kernel
theorem u_14_43 {G : aG} {S : Nat → Bool} {f : Nat} {st : List Value} {ls : aL} {h : aH} {k n : Nat} (hs : S 43 = false) : WP 14 G S (f + 1) 43 ls st h k n = (WP 14 G S f 44 ls (.int (nI 1) :: st) h k n) := by rw [wp_s dd_14_43 rfl hs]; rfl
theorem dd_14_44 : decode (mB 14) 44 = .ok (.goto 4, 3) := by decide +kernel
theorem u_14_44 {G : aG} {S : Nat → Bool} {f : Nat} {st : List Value} {ls : aL} {h : aH} {k n : Nat} (hs : S 44 = false) : WP 14 G S (f + 1) 44 ls st h k n = (WP 14 G S f 48 ls st h k n) := by rw [wp_s dd_14_44 rfl hs]; rfl
theorem dd_14_47 : decode (mB 14) 47 = .ok (.iconst 0, 1) := by decide +kernel
theorem u_14_47 {G : aG} {S : Nat → Bool} {f : Nat} {st : List Value} {ls : aL} {h : aH} {k n : Nat} (hs : S 47 = false) : WP 14 G S (f + 1) 47 ls st h k n = (WP 14 G S f 48 ls (.int (nI 0) :: st) h k n) := by rw [wp_s dd_14_47 rfl hs]; rfl
theorem dd_14_48 : decode (mB 14) 48 = .ok (.ireturn, 1) := by decide +kernel
theorem u_14_48 {G : aG} {S : Nat → Bool} {f : Nat} {ls : aL} {h : aH} {k n : Nat} {x : Int32} (hs : S 48 = false) : WP 14 G S (f + 1) 48 ls [.int x] h k n = (cond (x == nI 0 || x == nI 1) (RET G (some (.int x)) h k n) False) := by rw [wp_s dd_14_48 rfl hs]; rfl
theorem dd_14_49 : decode (mB 14) 49 = .ok (.iload_n 3, 1) := by decide +kernel
theorem u_14_49 {G : aG} {S : Nat → Bool} {f : Nat} {st : List Value} {ls : aL} {h : aH} {k n : Nat} (hs : S 49 = false) : WP 14 G S (f + 1) 49 ls st h k n = (oI (lget ls 3) (WP 14 G S f) 50 ls st h k n) := by rw [wp_s dd_14_49 rfl hs]; rfl
theorem dd_14_50 : decode (mB 14) 50 = .ok (.bipush 13, 2) := by decide +kernel
theorem u_14_50 {G : aG} {S : Nat → Bool} {f : Nat} {st : List Value} {ls : aL} {h : aH} {k n : Nat} (hs : S 50 = false) : WP 14 G S (f + 1) 50 ls st h k n = (WP 14 G S f 52 ls (.int (nI 13) :: st) h k n) := by rw [wp_s dd_14_50 rfl hs]; rfl
theorem dd_14_52 : decode (mB 14) 52 = .ok (.if_icmp .lt 29, 3) := by decide +kernel
theorem u_14_52 {G : aG} {S : Nat → Bool} {f : Nat} {st : List Value} {ls : aL} {h : aH} {k n : Nat} {x y : Int32} (hs : S 52 = false) : WP 14 G S (f + 1) 52 ls (.int y :: .int x :: st) h k n = (if x < y then WP 14 G S f 81 ls st h k n else WP 14 G S f 55 ls st h k n) := by rw [wp_s dd_14_52 rfl hs]; exact br_ite (c := x < y)
theorem dd_14_55 : decode (mB 14) 55 = .ok (.iload_n 2, 1) := by decide +kernel
theorem u_14_55 {G : aG} {S : Nat → Bool} {f : Nat} {st : List Value} {ls : aL} {h : aH} {k n : Nat} (hs : S 55 = false) : WP 14 G S (f + 1) 55 ls st h k n = (oI (lget ls 2) (WP 14 G S f) 56 ls st h k n) := by rw [wp_s dd_14_55 rfl hs]; rfl
theorem dd_14_56 : decode (mB 14) 56 = .ok (.ifCond .ne 9, 3) := by decide +kernel
theorem u_14_56 {G : aG} {S : Nat → Bool} {f : Nat} {st : List Value} {ls : aL} {h : aH} {k n : Nat} {x : Int32} (hs : S 56 = false) : WP 14 G S (f + 1) 56 ls (.int x :: st) h k n = (if x = nI 0 then WP 14 G S f 59 ls st h k n else WP 14 G S f 65 ls st h k n) := by rw [wp_s dd_14_56 rfl hs]; exact br_iten (c := x = nI 0)
theorem dd_14_59 : decode (mB 14) 59 = .ok (.iload_n 3, 1) := by decide +kernel
theorem u_14_59 {G : aG} {S : Nat → Bool} {f : Nat} {st : List Value} {ls : aL} {h : aH} {k n : Nat} (hs : S 59 = false) : WP 14 G S (f + 1) 59 ls st h k n = (oI (lget ls 3) (WP 14 G S f) 60 ls st h k n) := by rw [wp_s dd_14_59 rfl hs]; rfl
theorem dd_14_60 : decode (mB 14) 60 = .ok (.bipush 15, 2) := by decide +kernel
theorem u_14_60 {G : aG} {S : Nat → Bool} {f : Nat} {st : List Value} {ls : aL} {h : aH} {k n : Nat} (hs : S 60 = false) : WP 14 G S (f + 1) 60 ls st h k n = (WP 14 G S f 62 ls (.int (nI 15) :: st) h k n) := by rw [wp_s dd_14_60 rfl hs]; rfl
theorem dd_14_62 : decode (mB 14) 62 = .ok (.if_icmp .ne 13, 3) := by decide +kernel
theorem u_14_62 {G : aG} {S : Nat → Bool} {f : Nat} {st : List Value} {ls : aL} {h : aH} {k n : Nat} {x y : Int32} (hs : S 62 = false) : WP 14 G S (f + 1) 62 ls (.int y :: .int x :: st) h k n = (if x = y then WP 14 G S f 65 ls st h k n else WP 14 G S f 75 ls st h k n) := by rw [wp_s dd_14_62 rfl hs]; exact br_iten (c := x = y)
theorem dd_14_65 : decode (mB 14) 65 = .ok (.aload_n 0, 1) := by decide +kernel
theorem u_14_65 {G : aG} {S : Nat → Bool} {f : Nat} {st : List Value} {ls : aL} {h : aH} {k n : Nat} (hs : S 65 = false) : WP 14 G S (f + 1) 65 ls st h k n = (oA (lget ls 0) (WP 14 G S f) 66 ls st h k n) := by rw [wp_s dd_14_65 rfl hs]; rfl
theorem dd_14_66 : decode (mB 14) 66 = .ok (.iload 4, 2) := by decide +kernel
theorem u_14_66 {G : aG} {S : Nat → Bool} {f : Nat} {st : List Value} {ls : aL} {h : aH} {k n : Nat} (hs : S 66 = false) : WP 14 G S (f + 1) 66 ls st h k n = (oI (lget ls 4) (WP 14 G S f) 68 ls st h k n) := by rw [wp_s dd_14_66 rfl hs]; rfl
theorem dd_14_68 : decode (mB 14) 68 = .ok (.iload_n 2, 1) := by decide +kernel
theorem u_14_68 {G : aG} {S : Nat → Bool} {f : Nat} {st : List Value} {ls : aL} {h : aH} {k n : Nat} (hs : S 68 = false) : WP 14 G S (f + 1) 68 ls st h k n = (oI (lget ls 2) (WP 14 G S f) 69 ls st h k n) := by rw [wp_s dd_14_68 rfl hs]; rfl
theorem dd_14_69 : decode (mB 14) 69 = .ok (.invokevirtual 59, 3) := by decide +kernel
theorem u_14_69 {G : aG} {S : Nat → Bool} {f : Nat} {st : List Value} {ls : aL} {h : aH} {k n : Nat} {v1 v2 : Value} {b : Nat} (hs : S 69 = false) : WP 14 G S (f + 1) 69 ls (v2 :: v1 :: .ref b :: st) h k n = (rcv (hget h b) 5 ∧ CAL G (WP 14 G S f) 14 [.ref b, v1, v2] 72 ls st h k n) := by rw [wp_s dd_14_69 rfl hs]; rfl
theorem dd_14_72 : decode (mB 14) 72 = .ok (.ifCond .eq 7, 3) := by decide +kernel
theorem u_14_72 {G : aG} {S : Nat → Bool} {f : Nat} {st : List Value} {ls : aL} {h : aH} {k n : Nat} {x : Int32} (hs : S 72 = false) : WP 14 G S (f + 1) 72 ls (.int x :: st) h k n = (if x = nI 0 then WP 14 G S f 79 ls st h k n else WP 14 G S f 75 ls st h k n) := by rw [wp_s dd_14_72 rfl hs]; exact br_ite (c := x = nI 0)
theorem dd_14_75 : decode (mB 14) 75 = .ok (.iconst 1, 1) := by decide +kernel
theorem u_14_75 {G : aG} {S : Nat → Bool} {f : Nat} {st : List Value} {ls : aL} {h : aH} {k n : Nat} (hs : S 75 = false) : WP 14 G S (f + 1) 75 ls st h k n = (WP 14 G S f 76 ls (.int (nI 1) :: st) h k n) := by rw [wp_s dd_14_75 rfl hs]; rfl
theorem dd_14_76 : decode (mB 14) 76 = .ok (.goto 4, 3) := by decide +kernel
theorem u_14_76 {G : aG} {S : Nat → Bool} {f : Nat} {st : List Value} {ls : aL} {h : aH} {k n : Nat} (hs : S 76 = false) : WP 14 G S (f + 1) 76 ls st h k n = (WP 14 G S f 80 ls st h k n) := by rw [wp_s dd_14_76 rfl hs]; rfl
theorem dd_14_79 : decode (mB 14) 79 = .ok (.iconst 0, 1) := by decide +kernel
theorem u_14_79 {G : aG} {S : Nat → Bool} {f : Nat} {st : List Value} {ls : aL} {h : aH} {k n : Nat} (hs : S 79 = false) : WP 14 G S (f + 1) 79 ls st h k n = (WP 14 G S f 80 ls (.int (nI 0) :: st) h k n) := by rw [wp_s dd_14_79 rfl hs]; rfl
theorem dd_14_80 : decode (mB 14) 80 = .ok (.ireturn, 1) := by decide +kernel
theorem u_14_80 {G : aG} {S : Nat → Bool} {f : Nat} {ls : aL} {h : aH} {k n : Nat} {x : Int32} (hs : S 80 = false) : WP 14 G S (f + 1) 80 ls [.int x] h k n = (cond (x == nI 0 || x == nI 1) (RET G (some (.int x)) h k n) False) := by rw [wp_s dd_14_80 rfl hs]; rfl
theorem dd_14_81 : decode (mB 14) 81 = .ok (.iload 5, 2) := by decide +kernel
theorem u_14_81 {G : aG} {S : Nat → Bool} {f : Nat} {st : List Value} {ls : aL} {h : aH} {k n : Nat} (hs : S 81 = false) : WP 14 G S (f + 1) 81 ls st h k n = (oI (lget ls 5) (WP 14 G S f) 83 ls st h k n) := by rw [wp_s dd_14_81 rfl hs]; rfl
theorem dd_14_83 : decode (mB 14) 83 = .ok (.ifCond .lt 13, 3) := by decide +kernel
theorem u_14_83 {G : aG} {S : Nat → Bool} {f : Nat} {st : List Value} {ls : aL} {h : aH} {k n : Nat} {x : Int32} (hs : S 83 = false) : WP 14 G S (f + 1) 83 ls (.int x :: st) h k n = (if x < nI 0 then WP 14 G S f 96 ls st h k n else WP 14 G S f 86 ls st h k n) := by rw [wp_s dd_14_83 rfl hs]; exact br_ite (c := x < nI 0)
theorem dd_14_86 : decode (mB 14) 86 = .ok (.aload_n 0, 1) := by decide +kernel
theorem u_14_86 {G : aG} {S : Nat → Bool} {f : Nat} {st : List Value} {ls : aL} {h : aH} {k n : Nat} (hs : S 86 = false) : WP 14 G S (f + 1) 86 ls st h k n = (oA (lget ls 0) (WP 14 G S f) 87 ls st h k n) := by rw [wp_s dd_14_86 rfl hs]; rfl
theorem dd_14_87 : decode (mB 14) 87 = .ok (.getfield 21, 3) := by decide +kernel
theorem u_14_87 {G : aG} {S : Nat → Bool} {f : Nat} {st : List Value} {ls : aL} {h : aH} {k n : Nat} {a : Nat} (hs : S 87 = false) : WP 14 G S (f + 1) 87 ls (.ref a :: st) h k n = (oV (fget h a 5 3) (WP 14 G S f) 90 ls st h k n) := by rw [wp_s dd_14_87 rfl hs]; rfl
theorem dd_14_90 : decode (mB 14) 90 = .ok (.iload 4, 2) := by decide +kernel
theorem u_14_90 {G : aG} {S : Nat → Bool} {f : Nat} {st : List Value} {ls : aL} {h : aH} {k n : Nat} (hs : S 90 = false) : WP 14 G S (f + 1) 90 ls st h k n = (oI (lget ls 4) (WP 14 G S f) 92 ls st h k n) := by rw [wp_s dd_14_90 rfl hs]; rfl
theorem dd_14_92 : decode (mB 14) 92 = .ok (.iaload, 1) := by decide +kernel
theorem u_14_92 {G : aG} {S : Nat → Bool} {f : Nat} {st : List Value} {ls : aL} {h : aH} {k n : Nat} {i : Int32} {a : Nat} (hs : S 92 = false) : WP 14 G S (f + 1) 92 ls (.int i :: .ref a :: st) h k n = (oIld (iget h a 1) i (WP 14 G S f) 93 ls st h k n) := by rw [wp_s dd_14_92 rfl hs]; rfl
theorem dd_14_93 : decode (mB 14) 93 = .ok (.ifCond .gt 5, 3) := by decide +kernel
theorem u_14_93 {G : aG} {S : Nat → Bool} {f : Nat} {st : List Value} {ls : aL} {h : aH} {k n : Nat} {x : Int32} (hs : S 93 = false) : WP 14 G S (f + 1) 93 ls (.int x :: st) h k n = (if nI 0 < x then WP 14 G S f 98 ls st h k n else WP 14 G S f 96 ls st h k n) := by rw [wp_s dd_14_93 rfl hs]; exact br_ite (c := nI 0 < x)
theorem dd_14_96 : decode (mB 14) 96 = .ok (.iconst 0, 1) := by decide +kernel
theorem u_14_96 {G : aG} {S : Nat → Bool} {f : Nat} {st : List Value} {ls : aL} {h : aH} {k n : Nat} (hs : S 96 = false) : WP 14 G S (f + 1) 96 ls st h k n = (WP 14 G S f 97 ls (.int (nI 0) :: st) h k n) := by rw [wp_s dd_14_96 rfl hs]; rfl
theorem dd_14_97 : decode (mB 14) 97 = .ok (.ireturn, 1) := by decide +kernel
theorem u_14_97 {G : aG} {S : Nat → Bool} {f : Nat} {ls : aL} {h : aH} {k n : Nat} {x : Int32} (hs : S 97 = false) : WP 14 G S (f + 1) 97 ls [.int x] h k n = (cond (x == nI 0 || x == nI 1) (RET G (some (.int x)) h k n) False) := by rw [wp_s dd_14_97 rfl hs]; rfl
theorem dd_14_98 : decode (mB 14) 98 = .ok (.iload_n 3, 1) := by decide +kernel
theorem u_14_98 {G : aG} {S : Nat → Bool} {f : Nat} {st : List Value} {ls : aL} {h : aH} {k n : Nat} (hs : S 98 = false) : WP 14 G S (f + 1) 98 ls st h k n = (oI (lget ls 3) (WP 14 G S f) 99 ls st h k n) := by rw [wp_s dd_14_98 rfl hs]; rfl
theorem dd_14_99 : decode (mB 14) 99 = .ok (.bipush 11, 2) := by decide +kernel
theorem u_14_99 {G : aG} {S : Nat → Bool} {f : Nat} {st : List Value} {ls : aL} {h : aH} {k n : Nat} (hs : S 99 = false) : WP 14 G S (f + 1) 99 ls st h k n = (WP 14 G S f 101 ls (.int (nI 11) :: st) h k n) := by rw [wp_s dd_14_99 rfl hs]; rfl
theorem dd_14_101 : decode (mB 14) 101 = .ok (.if_icmp .ne 45, 3) := by decide +kernel
theorem u_14_101 {G : aG} {S : Nat → Bool} {f : Nat} {st : List Value} {ls : aL} {h : aH} {k n : Nat} {x y : Int32} (hs : S 101 = false) : WP 14 G S (f + 1) 101 ls (.int y :: .int x :: st) h k n = (if x = y then WP 14 G S f 104 ls st h k n else WP 14 G S f 146 ls st h k n) := by rw [wp_s dd_14_101 rfl hs]; exact br_iten (c := x = y)
theorem dd_14_104 : decode (mB 14) 104 = .ok (.aload_n 0, 1) := by decide +kernel
theorem u_14_104 {G : aG} {S : Nat → Bool} {f : Nat} {st : List Value} {ls : aL} {h : aH} {k n : Nat} (hs : S 104 = false) : WP 14 G S (f + 1) 104 ls st h k n = (oA (lget ls 0) (WP 14 G S f) 105 ls st h k n) := by rw [wp_s dd_14_104 rfl hs]; rfl
theorem dd_14_105 : decode (mB 14) 105 = .ok (.iload 5, 2) := by decide +kernel
theorem u_14_105 {G : aG} {S : Nat → Bool} {f : Nat} {st : List Value} {ls : aL} {h : aH} {k n : Nat} (hs : S 105 = false) : WP 14 G S (f + 1) 105 ls st h k n = (oI (lget ls 5) (WP 14 G S f) 107 ls st h k n) := by rw [wp_s dd_14_105 rfl hs]; rfl
theorem dd_14_107 : decode (mB 14) 107 = .ok (.iload_n 2, 1) := by decide +kernel
theorem u_14_107 {G : aG} {S : Nat → Bool} {f : Nat} {st : List Value} {ls : aL} {h : aH} {k n : Nat} (hs : S 107 = false) : WP 14 G S (f + 1) 107 ls st h k n = (oI (lget ls 2) (WP 14 G S f) 108 ls st h k n) := by rw [wp_s dd_14_107 rfl hs]; rfl
theorem dd_14_108 : decode (mB 14) 108 = .ok (.aload_n 0, 1) := by decide +kernel
theorem u_14_108 {G : aG} {S : Nat → Bool} {f : Nat} {st : List Value} {ls : aL} {h : aH} {k n : Nat} (hs : S 108 = false) : WP 14 G S (f + 1) 108 ls st h k n = (oA (lget ls 0) (WP 14 G S f) 109 ls st h k n) := by rw [wp_s dd_14_108 rfl hs]; rfl
theorem dd_14_109 : decode (mB 14) 109 = .ok (.getfield 21, 3) := by decide +kernel
theorem u_14_109 {G : aG} {S : Nat → Bool} {f : Nat} {st : List Value} {ls : aL} {h : aH} {k n : Nat} {a : Nat} (hs : S 109 = false) : WP 14 G S (f + 1) 109 ls (.ref a :: st) h k n = (oV (fget h a 5 3) (WP 14 G S f) 112 ls st h k n) := by rw [wp_s dd_14_109 rfl hs]; rfl
theorem dd_14_112 : decode (mB 14) 112 = .ok (.iload 4, 2) := by decide +kernel
theorem u_14_112 {G : aG} {S : Nat → Bool} {f : Nat} {st : List Value} {ls : aL} {h : aH} {k n : Nat} (hs : S 112 = false) : WP 14 G S (f + 1) 112 ls st h k n = (oI (lget ls 4) (WP 14 G S f) 114 ls st h k n) := by rw [wp_s dd_14_112 rfl hs]; rfl
theorem dd_14_114 : decode (mB 14) 114 = .ok (.iaload, 1) := by decide +kernel
theorem u_14_114 {G : aG} {S : Nat → Bool} {f : Nat} {st : List Value} {ls : aL} {h : aH} {k n : Nat} {i : Int32} {a : Nat} (hs : S 114 = false) : WP 14 G S (f + 1) 114 ls (.int i :: .ref a :: st) h k n = (oIld (iget h a 1) i (WP 14 G S f) 115 ls st h k n) := by rw [wp_s dd_14_114 rfl hs]; rfl
theorem dd_14_115 : decode (mB 14) 115 = .ok (.idiv, 1) := by decide +kernel
theorem u_14_115 {G : aG} {S : Nat → Bool} {f : Nat} {st : List Value} {ls : aL} {h : aH} {k n : Nat} {x y : Int32} (hs : S 115 = false) : WP 14 G S (f + 1) 115 ls (.int y :: .int x :: st) h k n = (¬ y = 0 ∧ WP 14 G S f 116 ls (.int (x / y) :: st) h k n) := by rw [wp_s dd_14_115 rfl hs]; rfl
theorem dd_14_116 : decode (mB 14) 116 = .ok (.invokevirtual 59, 3) := by decide +kernel
theorem u_14_116 {G : aG} {S : Nat → Bool} {f : Nat} {st : List Value} {ls : aL} {h : aH} {k n : Nat} {v1 v2 : Value} {b : Nat} (hs : S 116 = false) : WP 14 G S (f + 1) 116 ls (v2 :: v1 :: .ref b :: st) h k n = (rcv (hget h b) 5 ∧ CAL G (WP 14 G S f) 14 [.ref b, v1, v2] 119 ls st h k n) := by rw [wp_s dd_14_116 rfl hs]; rfl
theorem dd_14_119 : decode (mB 14) 119 = .ok (.ifCond .eq 25, 3) := by decide +kernel
theorem u_14_119 {G : aG} {S : Nat → Bool} {f : Nat} {st : List Value} {ls : aL} {h : aH} {k n : Nat} {x : Int32} (hs : S 119 = false) : WP 14 G S (f + 1) 119 ls (.int x :: st) h k n = (if x = nI 0 then WP 14 G S f 144 ls st h k n else WP 14 G S f 122 ls st h k n) := by rw [wp_s dd_14_119 rfl hs]; exact br_ite (c := x = nI 0)
theorem dd_14_122 : decode (mB 14) 122 = .ok (.aload_n 0, 1) := by decide +kernel
theorem u_14_122 {G : aG} {S : Nat → Bool} {f : Nat} {st : List Value} {ls : aL} {h : aH} {k n : Nat} (hs : S 122 = false) : WP 14 G S (f + 1) 122 ls st h k n = (oA (lget ls 0) (WP 14 G S f) 123 ls st h k n) := by rw [wp_s dd_14_122 rfl hs]; rfl
theorem dd_14_123 : decode (mB 14) 123 = .ok (.iload 4, 2) := by decide +kernel
theorem u_14_123 {G : aG} {S : Nat → Bool} {f : Nat} {st : List Value} {ls : aL} {h : aH} {k n : Nat} (hs : S 123 = false) : WP 14 G S (f + 1) 123 ls st h k n = (oI (lget ls 4) (WP 14 G S f) 125 ls st h k n) := by rw [wp_s dd_14_123 rfl hs]; rfl
theorem dd_14_125 : decode (mB 14) 125 = .ok (.iload_n 2, 1) := by decide +kernel
theorem u_14_125 {G : aG} {S : Nat → Bool} {f : Nat} {st : List Value} {ls : aL} {h : aH} {k n : Nat} (hs : S 125 = false) : WP 14 G S (f + 1) 125 ls st h k n = (oI (lget ls 2) (WP 14 G S f) 126 ls st h k n) := by rw [wp_s dd_14_125 rfl hs]; rfl
theorem dd_14_126 : decode (mB 14) 126 = .ok (.aload_n 0, 1) := by decide +kernel
theorem u_14_126 {G : aG} {S : Nat → Bool} {f : Nat} {st : List Value} {ls : aL} {h : aH} {k n : Nat} (hs : S 126 = false) : WP 14 G S (f + 1) 126 ls st h k n = (oA (lget ls 0) (WP 14 G S f) 127 ls st h k n) := by rw [wp_s dd_14_126 rfl hs]; rfl
theorem dd_14_127 : decode (mB 14) 127 = .ok (.getfield 21, 3) := by decide +kernel
theorem u_14_127 {G : aG} {S : Nat → Bool} {f : Nat} {st : List Value} {ls : aL} {h : aH} {k n : Nat} {a : Nat} (hs : S 127 = false) : WP 14 G S (f + 1) 127 ls (.ref a :: st) h k n = (oV (fget h a 5 3) (WP 14 G S f) 130 ls st h k n) := by rw [wp_s dd_14_127 rfl hs]; rfl
theorem dd_14_130 : decode (mB 14) 130 = .ok (.iload 4, 2) := by decide +kernel
theorem u_14_130 {G : aG} {S : Nat → Bool} {f : Nat} {st : List Value} {ls : aL} {h : aH} {k n : Nat} (hs : S 130 = false) : WP 14 G S (f + 1) 130 ls st h k n = (oI (lget ls 4) (WP 14 G S f) 132 ls st h k n) := by rw [wp_s dd_14_130 rfl hs]; rfl
theorem dd_14_132 : decode (mB 14) 132 = .ok (.iaload, 1) := by decide +kernel
theorem u_14_132 {G : aG} {S : Nat → Bool} {f : Nat} {st : List Value} {ls : aL} {h : aH} {k n : Nat} {i : Int32} {a : Nat} (hs : S 132 = false) : WP 14 G S (f + 1) 132 ls (.int i :: .ref a :: st) h k n = (oIld (iget h a 1) i (WP 14 G S f) 133 ls st h k n) := by rw [wp_s dd_14_132 rfl hs]; rfl
theorem dd_14_133 : decode (mB 14) 133 = .ok (.irem, 1) := by decide +kernel
theorem u_14_133 {G : aG} {S : Nat → Bool} {f : Nat} {st : List Value} {ls : aL} {h : aH} {k n : Nat} {x y : Int32} (hs : S 133 = false) : WP 14 G S (f + 1) 133 ls (.int y :: .int x :: st) h k n = (¬ y = 0 ∧ WP 14 G S f 134 ls (.int (x - x / y * y) :: st) h k n) := by rw [wp_s dd_14_133 rfl hs]; rfl
theorem dd_14_134 : decode (mB 14) 134 = .ok (.invokevirtual 59, 3) := by decide +kernel
theorem u_14_134 {G : aG} {S : Nat → Bool} {f : Nat} {st : List Value} {ls : aL} {h : aH} {k n : Nat} {v1 v2 : Value} {b : Nat} (hs : S 134 = false) : WP 14 G S (f + 1) 134 ls (v2 :: v1 :: .ref b :: st) h k n = (rcv (hget h b) 5 ∧ CAL G (WP 14 G S f) 14 [.ref b, v1, v2] 137 ls st h k n) := by rw [wp_s dd_14_134 rfl hs]; rfl
theorem dd_14_137 : decode (mB 14) 137 = .ok (.ifCond .eq 7, 3) := by decide +kernel
theorem u_14_137 {G : aG} {S : Nat → Bool} {f : Nat} {st : List Value} {ls : aL} {h : aH} {k n : Nat} {x : Int32} (hs : S 137 = false) : WP 14 G S (f + 1) 137 ls (.int x :: st) h k n = (if x = nI 0 then WP 14 G S f 144 ls st h k n else WP 14 G S f 140 ls st h k n) := by rw [wp_s dd_14_137 rfl hs]; exact br_ite (c := x = nI 0)
theorem dd_14_140 : decode (mB 14) 140 = .ok (.iconst 1, 1) := by decide +kernel
theorem u_14_140 {G : aG} {S : Nat → Bool} {f : Nat} {st : List Value} {ls : aL} {h : aH} {k n : Nat} (hs : S 140 = false) : WP 14 G S (f + 1) 140 ls st h k n = (WP 14 G S f 141 ls (.int (nI 1) :: st) h k n) := by rw [wp_s dd_14_140 rfl hs]; rfl
theorem dd_14_141 : decode (mB 14) 141 = .ok (.goto 4, 3) := by decide +kernel
theorem u_14_141 {G : aG} {S : Nat → Bool} {f : Nat} {st : List Value} {ls : aL} {h : aH} {k n : Nat} (hs : S 141 = false) : WP 14 G S (f + 1) 141 ls st h k n = (WP 14 G S f 145 ls st h k n) := by rw [wp_s dd_14_141 rfl hs]; rfl
theorem dd_14_144 : decode (mB 14) 144 = .ok (.iconst 0, 1) := by decide +kernel
theorem u_14_144 {G : aG} {S : Nat → Bool} {f : Nat} {st : List Value} {ls : aL} {h : aH} {k n : Nat} (hs : S 144 = false) : WP 14 G S (f + 1) 144 ls st h k n = (WP 14 G S f 145 ls (.int (nI 0) :: st) h k n) := by rw [wp_s dd_14_144 rfl hs]; rfl
theorem dd_14_145 : decode (mB 14) 145 = .ok (.ireturn, 1) := by decide +kernel
theorem u_14_145 {G : aG} {S : Nat → Bool} {f : Nat} {ls : aL} {h : aH} {k n : Nat} {x : Int32} (hs : S 145 = false) : WP 14 G S (f + 1) 145 ls [.int x] h k n = (cond (x == nI 0 || x == nI 1) (RET G (some (.int x)) h k n) False) := by rw [wp_s dd_14_145 rfl hs]; rfl
theorem dd_14_146 : decode (mB 14) 146 = .ok (.iload_n 2, 1) := by decide +kernel
theorem u_14_146 {G : aG} {S : Nat → Bool} {f : Nat} {st : List Value} {ls : aL} {h : aH} {k n : Nat} (hs : S 146 = false) : WP 14 G S (f + 1) 146 ls st h k n = (oI (lget ls 2) (WP 14 G S f) 147 ls st h k n) := by rw [wp_s dd_14_146 rfl hs]; rfl
theorem dd_14_147 : decode (mB 14) 147 = .ok (.aload_n 0, 1) := by decide +kernel
theorem u_14_147 {G : aG} {S : Nat → Bool} {f : Nat} {st : List Value} {ls : aL} {h : aH} {k n : Nat} (hs : S 147 = false) : WP 14 G S (f + 1) 147 ls st h k n = (oA (lget ls 0) (WP 14 G S f) 148 ls st h k n) := by rw [wp_s dd_14_147 rfl hs]; rfl
theorem dd_14_148 : decode (mB 14) 148 = .ok (.getfield 21, 3) := by decide +kernel
theorem u_14_148 {G : aG} {S : Nat → Bool} {f : Nat} {st : List Value} {ls : aL} {h : aH} {k n : Nat} {a : Nat} (hs : S 148 = false) : WP 14 G S (f + 1) 148 ls (.ref a :: st) h k n = (oV (fget h a 5 3) (WP 14 G S f) 151 ls st h k n) := by rw [wp_s dd_14_148 rfl hs]; rfl
theorem dd_14_151 : decode (mB 14) 151 = .ok (.iload 5, 2) := by decide +kernel
theorem u_14_151 {G : aG} {S : Nat → Bool} {f : Nat} {st : List Value} {ls : aL} {h : aH} {k n : Nat} (hs : S 151 = false) : WP 14 G S (f + 1) 151 ls st h k n = (oI (lget ls 5) (WP 14 G S f) 153 ls st h k n) := by rw [wp_s dd_14_151 rfl hs]; rfl
theorem dd_14_153 : decode (mB 14) 153 = .ok (.iaload, 1) := by decide +kernel
theorem u_14_153 {G : aG} {S : Nat → Bool} {f : Nat} {st : List Value} {ls : aL} {h : aH} {k n : Nat} {i : Int32} {a : Nat} (hs : S 153 = false) : WP 14 G S (f + 1) 153 ls (.int i :: .ref a :: st) h k n = (oIld (iget h a 1) i (WP 14 G S f) 154 ls st h k n) := by rw [wp_s dd_14_153 rfl hs]; rfl
theorem dd_14_154 : decode (mB 14) 154 = .ok (.if_icmp .lt 21, 3) := by decide +kernel
theorem u_14_154 {G : aG} {S : Nat → Bool} {f : Nat} {st : List Value} {ls : aL} {h : aH} {k n : Nat} {x y : Int32} (hs : S 154 = false) : WP 14 G S (f + 1) 154 ls (.int y :: .int x :: st) h k n = (if x < y then WP 14 G S f 175 ls st h k n else WP 14 G S f 157 ls st h k n) := by rw [wp_s dd_14_154 rfl hs]; exact br_ite (c := x < y)
theorem dd_14_157 : decode (mB 14) 157 = .ok (.aload_n 0, 1) := by decide +kernel
theorem u_14_157 {G : aG} {S : Nat → Bool} {f : Nat} {st : List Value} {ls : aL} {h : aH} {k n : Nat} (hs : S 157 = false) : WP 14 G S (f + 1) 157 ls st h k n = (oA (lget ls 0) (WP 14 G S f) 158 ls st h k n) := by rw [wp_s dd_14_157 rfl hs]; rfl
theorem dd_14_158 : decode (mB 14) 158 = .ok (.iload 4, 2) := by decide +kernel
theorem u_14_158 {G : aG} {S : Nat → Bool} {f : Nat} {st : List Value} {ls : aL} {h : aH} {k n : Nat} (hs : S 158 = false) : WP 14 G S (f + 1) 158 ls st h k n = (oI (lget ls 4) (WP 14 G S f) 160 ls st h k n) := by rw [wp_s dd_14_158 rfl hs]; rfl
theorem dd_14_160 : decode (mB 14) 160 = .ok (.iload_n 2, 1) := by decide +kernel
theorem u_14_160 {G : aG} {S : Nat → Bool} {f : Nat} {st : List Value} {ls : aL} {h : aH} {k n : Nat} (hs : S 160 = false) : WP 14 G S (f + 1) 160 ls st h k n = (oI (lget ls 2) (WP 14 G S f) 161 ls st h k n) := by rw [wp_s dd_14_160 rfl hs]; rfl
theorem dd_14_161 : decode (mB 14) 161 = .ok (.aload_n 0, 1) := by decide +kernel
theorem u_14_161 {G : aG} {S : Nat → Bool} {f : Nat} {st : List Value} {ls : aL} {h : aH} {k n : Nat} (hs : S 161 = false) : WP 14 G S (f + 1) 161 ls st h k n = (oA (lget ls 0) (WP 14 G S f) 162 ls st h k n) := by rw [wp_s dd_14_161 rfl hs]; rfl
theorem dd_14_162 : decode (mB 14) 162 = .ok (.getfield 21, 3) := by decide +kernel
theorem u_14_162 {G : aG} {S : Nat → Bool} {f : Nat} {st : List Value} {ls : aL} {h : aH} {k n : Nat} {a : Nat} (hs : S 162 = false) : WP 14 G S (f + 1) 162 ls (.ref a :: st) h k n = (oV (fget h a 5 3) (WP 14 G S f) 165 ls st h k n) := by rw [wp_s dd_14_162 rfl hs]; rfl
theorem dd_14_165 : decode (mB 14) 165 = .ok (.iload 5, 2) := by decide +kernel
theorem u_14_165 {G : aG} {S : Nat → Bool} {f : Nat} {st : List Value} {ls : aL} {h : aH} {k n : Nat} (hs : S 165 = false) : WP 14 G S (f + 1) 165 ls st h k n = (oI (lget ls 5) (WP 14 G S f) 167 ls st h k n) := by rw [wp_s dd_14_165 rfl hs]; rfl
theorem dd_14_167 : decode (mB 14) 167 = .ok (.iaload, 1) := by decide +kernel
theorem u_14_167 {G : aG} {S : Nat → Bool} {f : Nat} {st : List Value} {ls : aL} {h : aH} {k n : Nat} {i : Int32} {a : Nat} (hs : S 167 = false) : WP 14 G S (f + 1) 167 ls (.int i :: .ref a :: st) h k n = (oIld (iget h a 1) i (WP 14 G S f) 168 ls st h k n) := by rw [wp_s dd_14_167 rfl hs]; rfl
theorem dd_14_168 : decode (mB 14) 168 = .ok (.isub, 1) := by decide +kernel
theorem u_14_168 {G : aG} {S : Nat → Bool} {f : Nat} {st : List Value} {ls : aL} {h : aH} {k n : Nat} {x y : Int32} (hs : S 168 = false) : WP 14 G S (f + 1) 168 ls (.int y :: .int x :: st) h k n = (WP 14 G S f 169 ls (.int (x - y) :: st) h k n) := by rw [wp_s dd_14_168 rfl hs]; rfl
theorem dd_14_169 : decode (mB 14) 169 = .ok (.iconst 1, 1) := by decide +kernel
theorem u_14_169 {G : aG} {S : Nat → Bool} {f : Nat} {st : List Value} {ls : aL} {h : aH} {k n : Nat} (hs : S 169 = false) : WP 14 G S (f + 1) 169 ls st h k n = (WP 14 G S f 170 ls (.int (nI 1) :: st) h k n) := by rw [wp_s dd_14_169 rfl hs]; rfl
theorem dd_14_170 : decode (mB 14) 170 = .ok (.iadd, 1) := by decide +kernel
theorem u_14_170 {G : aG} {S : Nat → Bool} {f : Nat} {st : List Value} {ls : aL} {h : aH} {k n : Nat} {x y : Int32} (hs : S 170 = false) : WP 14 G S (f + 1) 170 ls (.int y :: .int x :: st) h k n = (WP 14 G S f 171 ls (.int (x + y) :: st) h k n) := by rw [wp_s dd_14_170 rfl hs]; rfl
theorem dd_14_171 : decode (mB 14) 171 = .ok (.invokevirtual 59, 3) := by decide +kernel
theorem u_14_171 {G : aG} {S : Nat → Bool} {f : Nat} {st : List Value} {ls : aL} {h : aH} {k n : Nat} {v1 v2 : Value} {b : Nat} (hs : S 171 = false) : WP 14 G S (f + 1) 171 ls (v2 :: v1 :: .ref b :: st) h k n = (rcv (hget h b) 5 ∧ CAL G (WP 14 G S f) 14 [.ref b, v1, v2] 174 ls st h k n) := by rw [wp_s dd_14_171 rfl hs]; rfl
theorem dd_14_174 : decode (mB 14) 174 = .ok (.ireturn, 1) := by decide +kernel
theorem u_14_174 {G : aG} {S : Nat → Bool} {f : Nat} {ls : aL} {h : aH} {k n : Nat} {x : Int32} (hs : S 174 = false) : WP 14 G S (f + 1) 174 ls [.int x] h k n = (cond (x == nI 0 || x == nI 1) (RET G (some (.int x)) h k n) False) := by rw [wp_s dd_14_174 rfl hs]; rfl
theorem dd_14_175 : decode (mB 14) 175 = .ok (.iload_n 3, 1) := by decide +kernel
theorem u_14_175 {G : aG} {S : Nat → Bool} {f : Nat} {st : List Value} {ls : aL} {h : aH} {k n : Nat} (hs : S 175 = false) : WP 14 G S (f + 1) 175 ls st h k n = (oI (lget ls 3) (WP 14 G S f) 176 ls st h k n) := by rw [wp_s dd_14_175 rfl hs]; rfl
theorem dd_14_176 : decode (mB 14) 176 = .ok (.bipush 12, 2) := by decide +kernel
theorem u_14_176 {G : aG} {S : Nat → Bool} {f : Nat} {st : List Value} {ls : aL} {h : aH} {k n : Nat} (hs : S 176 = false) : WP 14 G S (f + 1) 176 ls st h k n = (WP 14 G S f 178 ls (.int (nI 12) :: st) h k n) := by rw [wp_s dd_14_176 rfl hs]; rfl
theorem dd_14_178 : decode (mB 14) 178 = .ok (.if_icmp .ne 29, 3) := by decide +kernel
theorem u_14_178 {G : aG} {S : Nat → Bool} {f : Nat} {st : List Value} {ls : aL} {h : aH} {k n : Nat} {x y : Int32} (hs : S 178 = false) : WP 14 G S (f + 1) 178 ls (.int y :: .int x :: st) h k n = (if x = y then WP 14 G S f 181 ls st h k n else WP 14 G S f 207 ls st h k n) := by rw [wp_s dd_14_178 rfl hs]; exact br_iten (c := x = y)
theorem dd_14_181 : decode (mB 14) 181 = .ok (.aload_n 0, 1) := by decide +kernel
theorem u_14_181 {G : aG} {S : Nat → Bool} {f : Nat} {st : List Value} {ls : aL} {h : aH} {k n : Nat} (hs : S 181 = false) : WP 14 G S (f + 1) 181 ls st h k n = (oA (lget ls 0) (WP 14 G S f) 182 ls st h k n) := by rw [wp_s dd_14_181 rfl hs]; rfl
theorem dd_14_182 : decode (mB 14) 182 = .ok (.getfield 24, 3) := by decide +kernel
theorem u_14_182 {G : aG} {S : Nat → Bool} {f : Nat} {st : List Value} {ls : aL} {h : aH} {k n : Nat} {a : Nat} (hs : S 182 = false) : WP 14 G S (f + 1) 182 ls (.ref a :: st) h k n = (oV (fget h a 5 4) (WP 14 G S f) 185 ls st h k n) := by rw [wp_s dd_14_182 rfl hs]; rfl
theorem dd_14_185 : decode (mB 14) 185 = .ok (.iload 4, 2) := by decide +kernel
theorem u_14_185 {G : aG} {S : Nat → Bool} {f : Nat} {st : List Value} {ls : aL} {h : aH} {k n : Nat} (hs : S 185 = false) : WP 14 G S (f + 1) 185 ls st h k n = (oI (lget ls 4) (WP 14 G S f) 187 ls st h k n) := by rw [wp_s dd_14_185 rfl hs]; rfl
theorem dd_14_187 : decode (mB 14) 187 = .ok (.iaload, 1) := by decide +kernel
theorem u_14_187 {G : aG} {S : Nat → Bool} {f : Nat} {st : List Value} {ls : aL} {h : aH} {k n : Nat} {i : Int32} {a : Nat} (hs : S 187 = false) : WP 14 G S (f + 1) 187 ls (.int i :: .ref a :: st) h k n = (oIld (iget h a 1) i (WP 14 G S f) 188 ls st h k n) := by rw [wp_s dd_14_187 rfl hs]; rfl
theorem dd_14_188 : decode (mB 14) 188 = .ok (.ifCond .ne 17, 3) := by decide +kernel
theorem u_14_188 {G : aG} {S : Nat → Bool} {f : Nat} {st : List Value} {ls : aL} {h : aH} {k n : Nat} {x : Int32} (hs : S 188 = false) : WP 14 G S (f + 1) 188 ls (.int x :: st) h k n = (if x = nI 0 then WP 14 G S f 191 ls st h k n else WP 14 G S f 205 ls st h k n) := by rw [wp_s dd_14_188 rfl hs]; exact br_iten (c := x = nI 0)
theorem dd_14_191 : decode (mB 14) 191 = .ok (.aload_n 0, 1) := by decide +kernel
theorem u_14_191 {G : aG} {S : Nat → Bool} {f : Nat} {st : List Value} {ls : aL} {h : aH} {k n : Nat} (hs : S 191 = false) : WP 14 G S (f + 1) 191 ls st h k n = (oA (lget ls 0) (WP 14 G S f) 192 ls st h k n) := by rw [wp_s dd_14_191 rfl hs]; rfl
theorem dd_14_192 : decode (mB 14) 192 = .ok (.iload 5, 2) := by decide +kernel
theorem u_14_192 {G : aG} {S : Nat → Bool} {f : Nat} {st : List Value} {ls : aL} {h : aH} {k n : Nat} (hs : S 192 = false) : WP 14 G S (f + 1) 192 ls st h k n = (oI (lget ls 5) (WP 14 G S f) 194 ls st h k n) := by rw [wp_s dd_14_192 rfl hs]; rfl
theorem dd_14_194 : decode (mB 14) 194 = .ok (.iload_n 2, 1) := by decide +kernel
theorem u_14_194 {G : aG} {S : Nat → Bool} {f : Nat} {st : List Value} {ls : aL} {h : aH} {k n : Nat} (hs : S 194 = false) : WP 14 G S (f + 1) 194 ls st h k n = (oI (lget ls 2) (WP 14 G S f) 195 ls st h k n) := by rw [wp_s dd_14_194 rfl hs]; rfl
theorem dd_14_195 : decode (mB 14) 195 = .ok (.invokevirtual 59, 3) := by decide +kernel
theorem u_14_195 {G : aG} {S : Nat → Bool} {f : Nat} {st : List Value} {ls : aL} {h : aH} {k n : Nat} {v1 v2 : Value} {b : Nat} (hs : S 195 = false) : WP 14 G S (f + 1) 195 ls (v2 :: v1 :: .ref b :: st) h k n = (rcv (hget h b) 5 ∧ CAL G (WP 14 G S f) 14 [.ref b, v1, v2] 198 ls st h k n) := by rw [wp_s dd_14_195 rfl hs]; rfl
theorem dd_14_198 : decode (mB 14) 198 = .ok (.ifCond .eq 7, 3) := by decide +kernel
theorem u_14_198 {G : aG} {S : Nat → Bool} {f : Nat} {st : List Value} {ls : aL} {h : aH} {k n : Nat} {x : Int32} (hs : S 198 = false) : WP 14 G S (f + 1) 198 ls (.int x :: st) h k n = (if x = nI 0 then WP 14 G S f 205 ls st h k n else WP 14 G S f 201 ls st h k n) := by rw [wp_s dd_14_198 rfl hs]; exact br_ite (c := x = nI 0)
theorem dd_14_201 : decode (mB 14) 201 = .ok (.iconst 1, 1) := by decide +kernel
theorem u_14_201 {G : aG} {S : Nat → Bool} {f : Nat} {st : List Value} {ls : aL} {h : aH} {k n : Nat} (hs : S 201 = false) : WP 14 G S (f + 1) 201 ls st h k n = (WP 14 G S f 202 ls (.int (nI 1) :: st) h k n) := by rw [wp_s dd_14_201 rfl hs]; rfl
theorem dd_14_202 : decode (mB 14) 202 = .ok (.goto 4, 3) := by decide +kernel
theorem u_14_202 {G : aG} {S : Nat → Bool} {f : Nat} {st : List Value} {ls : aL} {h : aH} {k n : Nat} (hs : S 202 = false) : WP 14 G S (f + 1) 202 ls st h k n = (WP 14 G S f 206 ls st h k n) := by rw [wp_s dd_14_202 rfl hs]; rfl
theorem dd_14_205 : decode (mB 14) 205 = .ok (.iconst 0, 1) := by decide +kernel
theorem u_14_205 {G : aG} {S : Nat → Bool} {f : Nat} {st : List Value} {ls : aL} {h : aH} {k n : Nat} (hs : S 205 = false) : WP 14 G S (f + 1) 205 ls st h k n = (WP 14 G S f 206 ls (.int (nI 0) :: st) h k n) := by rw [wp_s dd_14_205 rfl hs]; rfl
theorem dd_14_206 : decode (mB 14) 206 = .ok (.ireturn, 1) := by decide +kernel
theorem u_14_206 {G : aG} {S : Nat → Bool} {f : Nat} {ls : aL} {h : aH} {k n : Nat} {x : Int32} (hs : S 206 = false) : WP 14 G S (f + 1) 206 ls [.int x] h k n = (cond (x == nI 0 || x == nI 1) (RET G (some (.int x)) h k n) False) := by rw [wp_s dd_14_206 rfl hs]; rfl
theorem dd_14_207 : decode (mB 14) 207 = .ok (.aload_n 0, 1) := by decide +kernel
theorem u_14_207 {G : aG} {S : Nat → Bool} {f : Nat} {st : List Value} {ls : aL} {h : aH} {k n : Nat} (hs : S 207 = false) : WP 14 G S (f + 1) 207 ls st h k n = (oA (lget ls 0) (WP 14 G S f) 208 ls st h k n) := by rw [wp_s dd_14_207 rfl hs]; rfl
theorem dd_14_208 : decode (mB 14) 208 = .ok (.iload 5, 2) := by decide +kernel
theorem u_14_208 {G : aG} {S : Nat → Bool} {f : Nat} {st : List Value} {ls : aL} {h : aH} {k n : Nat} (hs : S 208 = false) : WP 14 G S (f + 1) 208 ls st h k n = (oI (lget ls 5) (WP 14 G S f) 210 ls st h k n) := by rw [wp_s dd_14_208 rfl hs]; rfl
theorem dd_14_210 : decode (mB 14) 210 = .ok (.iload_n 2, 1) := by decide +kernel
theorem u_14_210 {G : aG} {S : Nat → Bool} {f : Nat} {st : List Value} {ls : aL} {h : aH} {k n : Nat} (hs : S 210 = false) : WP 14 G S (f + 1) 210 ls st h k n = (oI (lget ls 2) (WP 14 G S f) 211 ls st h k n) := by rw [wp_s dd_14_210 rfl hs]; rfl
theorem dd_14_211 : decode (mB 14) 211 = .ok (.invokevirtual 59, 3) := by decide +kernel
theorem u_14_211 {G : aG} {S : Nat → Bool} {f : Nat} {st : List Value} {ls : aL} {h : aH} {k n : Nat} {v1 v2 : Value} {b : Nat} (hs : S 211 = false) : WP 14 G S (f + 1) 211 ls (v2 :: v1 :: .ref b :: st) h k n = (rcv (hget h b) 5 ∧ CAL G (WP 14 G S f) 14 [.ref b, v1, v2] 214 ls st h k n) := by rw [wp_s dd_14_211 rfl hs]; rfl
theorem dd_14_214 : decode (mB 14) 214 = .ok (.ifCond .ne 17, 3) := by decide +kernel
theorem u_14_214 {G : aG} {S : Nat → Bool} {f : Nat} {st : List Value} {ls : aL} {h : aH} {k n : Nat} {x : Int32} (hs : S 214 = false) : WP 14 G S (f + 1) 214 ls (.int x :: st) h k n = (if x = nI 0 then WP 14 G S f 217 ls st h k n else WP 14 G S f 231 ls st h k n) := by rw [wp_s dd_14_214 rfl hs]; exact br_iten (c := x = nI 0)
theorem dd_14_217 : decode (mB 14) 217 = .ok (.iload_n 2, 1) := by decide +kernel
theorem u_14_217 {G : aG} {S : Nat → Bool} {f : Nat} {st : List Value} {ls : aL} {h : aH} {k n : Nat} (hs : S 217 = false) : WP 14 G S (f + 1) 217 ls st h k n = (oI (lget ls 2) (WP 14 G S f) 218 ls st h k n) := by rw [wp_s dd_14_217 rfl hs]; rfl
theorem dd_14_218 : decode (mB 14) 218 = .ok (.ifCond .ne 17, 3) := by decide +kernel
theorem u_14_218 {G : aG} {S : Nat → Bool} {f : Nat} {st : List Value} {ls : aL} {h : aH} {k n : Nat} {x : Int32} (hs : S 218 = false) : WP 14 G S (f + 1) 218 ls (.int x :: st) h k n = (if x = nI 0 then WP 14 G S f 221 ls st h k n else WP 14 G S f 235 ls st h k n) := by rw [wp_s dd_14_218 rfl hs]; exact br_iten (c := x = nI 0)
theorem dd_14_221 : decode (mB 14) 221 = .ok (.aload_n 0, 1) := by decide +kernel
theorem u_14_221 {G : aG} {S : Nat → Bool} {f : Nat} {st : List Value} {ls : aL} {h : aH} {k n : Nat} (hs : S 221 = false) : WP 14 G S (f + 1) 221 ls st h k n = (oA (lget ls 0) (WP 14 G S f) 222 ls st h k n) := by rw [wp_s dd_14_221 rfl hs]; rfl
theorem dd_14_222 : decode (mB 14) 222 = .ok (.getfield 24, 3) := by decide +kernel
theorem u_14_222 {G : aG} {S : Nat → Bool} {f : Nat} {st : List Value} {ls : aL} {h : aH} {k n : Nat} {a : Nat} (hs : S 222 = false) : WP 14 G S (f + 1) 222 ls (.ref a :: st) h k n = (oV (fget h a 5 4) (WP 14 G S f) 225 ls st h k n) := by rw [wp_s dd_14_222 rfl hs]; rfl
theorem dd_14_225 : decode (mB 14) 225 = .ok (.iload 4, 2) := by decide +kernel
theorem u_14_225 {G : aG} {S : Nat → Bool} {f : Nat} {st : List Value} {ls : aL} {h : aH} {k n : Nat} (hs : S 225 = false) : WP 14 G S (f + 1) 225 ls st h k n = (oI (lget ls 4) (WP 14 G S f) 227 ls st h k n) := by rw [wp_s dd_14_225 rfl hs]; rfl
theorem dd_14_227 : decode (mB 14) 227 = .ok (.iaload, 1) := by decide +kernel
theorem u_14_227 {G : aG} {S : Nat → Bool} {f : Nat} {st : List Value} {ls : aL} {h : aH} {k n : Nat} {i : Int32} {a : Nat} (hs : S 227 = false) : WP 14 G S (f + 1) 227 ls (.int i :: .ref a :: st) h k n = (oIld (iget h a 1) i (WP 14 G S f) 228 ls st h k n) := by rw [wp_s dd_14_227 rfl hs]; rfl
theorem dd_14_228 : decode (mB 14) 228 = .ok (.ifCond .ne 7, 3) := by decide +kernel
theorem u_14_228 {G : aG} {S : Nat → Bool} {f : Nat} {st : List Value} {ls : aL} {h : aH} {k n : Nat} {x : Int32} (hs : S 228 = false) : WP 14 G S (f + 1) 228 ls (.int x :: st) h k n = (if x = nI 0 then WP 14 G S f 231 ls st h k n else WP 14 G S f 235 ls st h k n) := by rw [wp_s dd_14_228 rfl hs]; exact br_iten (c := x = nI 0)
theorem dd_14_231 : decode (mB 14) 231 = .ok (.iconst 1, 1) := by decide +kernel
theorem u_14_231 {G : aG} {S : Nat → Bool} {f : Nat} {st : List Value} {ls : aL} {h : aH} {k n : Nat} (hs : S 231 = false) : WP 14 G S (f + 1) 231 ls st h k n = (WP 14 G S f 232 ls (.int (nI 1) :: st) h k n) := by rw [wp_s dd_14_231 rfl hs]; rfl
theorem dd_14_232 : decode (mB 14) 232 = .ok (.goto 4, 3) := by decide +kernel
theorem u_14_232 {G : aG} {S : Nat → Bool} {f : Nat} {st : List Value} {ls : aL} {h : aH} {k n : Nat} (hs : S 232 = false) : WP 14 G S (f + 1) 232 ls st h k n = (WP 14 G S f 236 ls st h k n) := by rw [wp_s dd_14_232 rfl hs]; rfl
theorem dd_14_235 : decode (mB 14) 235 = .ok (.iconst 0, 1) := by decide +kernel
theorem u_14_235 {G : aG} {S : Nat → Bool} {f : Nat} {st : List Value} {ls : aL} {h : aH} {k n : Nat} (hs : S 235 = false) : WP 14 G S (f + 1) 235 ls st h k n = (WP 14 G S f 236 ls (.int (nI 0) :: st) h k n) := by rw [wp_s dd_14_235 rfl hs]; rfl
theorem dd_14_236 : decode (mB 14) 236 = .ok (.ireturn, 1) := by decide +kernel
theorem u_14_236 {G : aG} {S : Nat → Bool} {f : Nat} {ls : aL} {h : aH} {k n : Nat} {x : Int32} (hs : S 236 = false) : WP 14 G S (f + 1) 236 ls [.int x] h k n = (cond (x == nI 0 || x == nI 1) (RET G (some (.int x)) h k n) False) := by rw [wp_s dd_14_236 rfl hs]; rfl
theorem dd_15_0 : decode (mB 15) 0 = .ok (.aload_n 0, 1) := by decide +kernel
theorem u_15_0 {G : aG} {S : Nat → Bool} {f : Nat} {st : List Value} {ls : aL} {h : aH} {k n : Nat} (hs : S 0 = false) : WP 15 G S (f + 1) 0 ls st h k n = (oA (lget ls 0) (WP 15 G S f) 1 ls st h k n) := by rw [wp_s dd_15_0 rfl hs]; rfl
theorem dd_15_1 : decode (mB 15) 1 = .ok (.iconst 0, 1) := by decide +kernel
theorem u_15_1 {G : aG} {S : Nat → Bool} {f : Nat} {st : List Value} {ls : aL} {h : aH} {k n : Nat} (hs : S 1 = false) : WP 15 G S (f + 1) 1 ls st h k n = (WP 15 G S f 2 ls (.int (nI 0) :: st) h k n) := by rw [wp_s dd_15_1 rfl hs]; rfl
theorem dd_15_2 : decode (mB 15) 2 = .ok (.putfield 63, 3) := by decide +kernel
theorem u_15_2 {G : aG} {S : Nat → Bool} {f : Nat} {st : List Value} {ls : aL} {h : aH} {k n : Nat} {a : Nat} {x : Int32} (hs : S 2 = false) : WP 15 G S (f + 1) 2 ls (.int x :: .ref a :: st) h k n = (oH (fput h a 5 12 (.int x)) (WP 15 G S f) 5 ls st k n) := by rw [wp_s dd_15_2 rfl hs]; rfl
theorem dd_15_5 : decode (mB 15) 5 = .ok (.iconst 0, 1) := by decide +kernel
theorem u_15_5 {G : aG} {S : Nat → Bool} {f : Nat} {st : List Value} {ls : aL} {h : aH} {k n : Nat} (hs : S 5 = false) : WP 15 G S (f + 1) 5 ls st h k n = (WP 15 G S f 6 ls (.int (nI 0) :: st) h k n) := by rw [wp_s dd_15_5 rfl hs]; rfl
theorem dd_15_6 : decode (mB 15) 6 = .ok (.istore_n 1, 1) := by decide +kernel
theorem u_15_6 {G : aG} {S : Nat → Bool} {f : Nat} {st : List Value} {ls : aL} {h : aH} {k n : Nat} {x : Int32} (hs : S 6 = false) : WP 15 G S (f + 1) 6 ls (.int x :: st) h k n = (WP 15 G S f 7 (lput1 ls 1 (.int x)) st h k n) := by rw [wp_s dd_15_6 rfl hs]; rfl
theorem dd_15_7 : decode (mB 15) 7 = .ok (.iload_n 1, 1) := by decide +kernel
theorem u_15_7 {G : aG} {S : Nat → Bool} {f : Nat} {st : List Value} {ls : aL} {h : aH} {k n : Nat} (hs : S 7 = false) : WP 15 G S (f + 1) 7 ls st h k n = (oI (lget ls 1) (WP 15 G S f) 8 ls st h k n) := by rw [wp_s dd_15_7 rfl hs]; rfl
theorem v_15_7 {G : aG} {S : Nat → Bool} {f : Nat} {st : List Value} {ls : aL} {h : aH} {k n : Nat} : WQ 15 G S f 7 ls st h k n = (oI (lget ls 1) (WP 15 G S f) 8 ls st h k n) := by rw [wq_s dd_15_7 rfl]; rfl
theorem dd_15_8 : decode (mB 15) 8 = .ok (.aload_n 0, 1) := by decide +kernel
theorem u_15_8 {G : aG} {S : Nat → Bool} {f : Nat} {st : List Value} {ls : aL} {h : aH} {k n : Nat} (hs : S 8 = false) : WP 15 G S (f + 1) 8 ls st h k n = (oA (lget ls 0) (WP 15 G S f) 9 ls st h k n) := by rw [wp_s dd_15_8 rfl hs]; rfl
theorem dd_15_9 : decode (mB 15) 9 = .ok (.getfield 56, 3) := by decide +kernel
theorem u_15_9 {G : aG} {S : Nat → Bool} {f : Nat} {st : List Value} {ls : aL} {h : aH} {k n : Nat} {a : Nat} (hs : S 9 = false) : WP 15 G S (f + 1) 9 ls (.ref a :: st) h k n = (oV (fget h a 5 6) (WP 15 G S f) 12 ls st h k n) := by rw [wp_s dd_15_9 rfl hs]; rfl
theorem dd_15_12 : decode (mB 15) 12 = .ok (.if_icmp .ge 45, 3) := by decide +kernel
theorem u_15_12 {G : aG} {S : Nat → Bool} {f : Nat} {st : List Value} {ls : aL} {h : aH} {k n : Nat} {x y : Int32} (hs : S 12 = false) : WP 15 G S (f + 1) 12 ls (.int y :: .int x :: st) h k n = (if y ≤ x then WP 15 G S f 57 ls st h k n else WP 15 G S f 15 ls st h k n) := by rw [wp_s dd_15_12 rfl hs]; exact br_ite (c := y ≤ x)
theorem dd_15_15 : decode (mB 15) 15 = .ok (.aload_n 0, 1) := by decide +kernel
theorem u_15_15 {G : aG} {S : Nat → Bool} {f : Nat} {st : List Value} {ls : aL} {h : aH} {k n : Nat} (hs : S 15 = false) : WP 15 G S (f + 1) 15 ls st h k n = (oA (lget ls 0) (WP 15 G S f) 16 ls st h k n) := by rw [wp_s dd_15_15 rfl hs]; rfl
theorem dd_15_16 : decode (mB 15) 16 = .ok (.iload_n 1, 1) := by decide +kernel
theorem u_15_16 {G : aG} {S : Nat → Bool} {f : Nat} {st : List Value} {ls : aL} {h : aH} {k n : Nat} (hs : S 16 = false) : WP 15 G S (f + 1) 16 ls st h k n = (oI (lget ls 1) (WP 15 G S f) 17 ls st h k n) := by rw [wp_s dd_15_16 rfl hs]; rfl
theorem dd_15_17 : decode (mB 15) 17 = .ok (.putfield 66, 3) := by decide +kernel
theorem u_15_17 {G : aG} {S : Nat → Bool} {f : Nat} {st : List Value} {ls : aL} {h : aH} {k n : Nat} {a : Nat} {x : Int32} (hs : S 17 = false) : WP 15 G S (f + 1) 17 ls (.int x :: .ref a :: st) h k n = (oH (fput h a 5 13 (.int x)) (WP 15 G S f) 20 ls st k n) := by rw [wp_s dd_15_17 rfl hs]; rfl
theorem dd_15_20 : decode (mB 15) 20 = .ok (.aload_n 0, 1) := by decide +kernel
theorem u_15_20 {G : aG} {S : Nat → Bool} {f : Nat} {st : List Value} {ls : aL} {h : aH} {k n : Nat} (hs : S 20 = false) : WP 15 G S (f + 1) 20 ls st h k n = (oA (lget ls 0) (WP 15 G S f) 21 ls st h k n) := by rw [wp_s dd_15_20 rfl hs]; rfl
theorem dd_15_21 : decode (mB 15) 21 = .ok (.getfield 33, 3) := by decide +kernel
theorem u_15_21 {G : aG} {S : Nat → Bool} {f : Nat} {st : List Value} {ls : aL} {h : aH} {k n : Nat} {a : Nat} (hs : S 21 = false) : WP 15 G S (f + 1) 21 ls (.ref a :: st) h k n = (oV (fget h a 5 10) (WP 15 G S f) 24 ls st h k n) := by rw [wp_s dd_15_21 rfl hs]; rfl
theorem dd_15_24 : decode (mB 15) 24 = .ok (.iload_n 1, 1) := by decide +kernel
theorem u_15_24 {G : aG} {S : Nat → Bool} {f : Nat} {st : List Value} {ls : aL} {h : aH} {k n : Nat} (hs : S 24 = false) : WP 15 G S (f + 1) 24 ls st h k n = (oI (lget ls 1) (WP 15 G S f) 25 ls st h k n) := by rw [wp_s dd_15_24 rfl hs]; rfl
theorem dd_15_25 : decode (mB 15) 25 = .ok (.aload_n 0, 1) := by decide +kernel
theorem u_15_25 {G : aG} {S : Nat → Bool} {f : Nat} {st : List Value} {ls : aL} {h : aH} {k n : Nat} (hs : S 25 = false) : WP 15 G S (f + 1) 25 ls st h k n = (oA (lget ls 0) (WP 15 G S f) 26 ls st h k n) := by rw [wp_s dd_15_25 rfl hs]; rfl
theorem dd_15_26 : decode (mB 15) 26 = .ok (.getfield 63, 3) := by decide +kernel
theorem u_15_26 {G : aG} {S : Nat → Bool} {f : Nat} {st : List Value} {ls : aL} {h : aH} {k n : Nat} {a : Nat} (hs : S 26 = false) : WP 15 G S (f + 1) 26 ls (.ref a :: st) h k n = (oV (fget h a 5 12) (WP 15 G S f) 29 ls st h k n) := by rw [wp_s dd_15_26 rfl hs]; rfl
theorem dd_15_29 : decode (mB 15) 29 = .ok (.iastore, 1) := by decide +kernel
theorem u_15_29 {G : aG} {S : Nat → Bool} {f : Nat} {st : List Value} {ls : aL} {h : aH} {k n : Nat} {i x : Int32} {a : Nat} (hs : S 29 = false) : WP 15 G S (f + 1) 29 ls (.int x :: .int i :: .ref a :: st) h k n = (oIst (iget h a 1) a i x (WP 15 G S f) 30 ls st h k n) := by rw [wp_s dd_15_29 rfl hs]; rfl
theorem dd_15_30 : decode (mB 15) 30 = .ok (.aload_n 0, 1) := by decide +kernel
theorem u_15_30 {G : aG} {S : Nat → Bool} {f : Nat} {st : List Value} {ls : aL} {h : aH} {k n : Nat} (hs : S 30 = false) : WP 15 G S (f + 1) 30 ls st h k n = (oA (lget ls 0) (WP 15 G S f) 31 ls st h k n) := by rw [wp_s dd_15_30 rfl hs]; rfl
theorem dd_15_31 : decode (mB 15) 31 = .ok (.aload_n 0, 1) := by decide +kernel
theorem u_15_31 {G : aG} {S : Nat → Bool} {f : Nat} {st : List Value} {ls : aL} {h : aH} {k n : Nat} (hs : S 31 = false) : WP 15 G S (f + 1) 31 ls st h k n = (oA (lget ls 0) (WP 15 G S f) 32 ls st h k n) := by rw [wp_s dd_15_31 rfl hs]; rfl
theorem dd_15_32 : decode (mB 15) 32 = .ok (.getfield 39, 3) := by decide +kernel
theorem u_15_32 {G : aG} {S : Nat → Bool} {f : Nat} {st : List Value} {ls : aL} {h : aH} {k n : Nat} {a : Nat} (hs : S 32 = false) : WP 15 G S (f + 1) 32 ls (.ref a :: st) h k n = (oV (fget h a 5 5) (WP 15 G S f) 35 ls st h k n) := by rw [wp_s dd_15_32 rfl hs]; rfl
theorem dd_15_35 : decode (mB 15) 35 = .ok (.iload_n 1, 1) := by decide +kernel
theorem u_15_35 {G : aG} {S : Nat → Bool} {f : Nat} {st : List Value} {ls : aL} {h : aH} {k n : Nat} (hs : S 35 = false) : WP 15 G S (f + 1) 35 ls st h k n = (oI (lget ls 1) (WP 15 G S f) 36 ls st h k n) := by rw [wp_s dd_15_35 rfl hs]; rfl
theorem dd_15_36 : decode (mB 15) 36 = .ok (.iconst 1, 1) := by decide +kernel
theorem u_15_36 {G : aG} {S : Nat → Bool} {f : Nat} {st : List Value} {ls : aL} {h : aH} {k n : Nat} (hs : S 36 = false) : WP 15 G S (f + 1) 36 ls st h k n = (WP 15 G S f 37 ls (.int (nI 1) :: st) h k n) := by rw [wp_s dd_15_36 rfl hs]; rfl
theorem dd_15_37 : decode (mB 15) 37 = .ok (.iconst 0, 1) := by decide +kernel
theorem u_15_37 {G : aG} {S : Nat → Bool} {f : Nat} {st : List Value} {ls : aL} {h : aH} {k n : Nat} (hs : S 37 = false) : WP 15 G S (f + 1) 37 ls st h k n = (WP 15 G S f 38 ls (.int (nI 0) :: st) h k n) := by rw [wp_s dd_15_37 rfl hs]; rfl
theorem dd_15_38 : decode (mB 15) 38 = .ok (.invokevirtual 69, 3) := by decide +kernel
theorem u_15_38 {G : aG} {S : Nat → Bool} {f : Nat} {st : List Value} {ls : aL} {h : aH} {k n : Nat} {v1 v2 v3 v4 : Value} {b : Nat} (hs : S 38 = false) : WP 15 G S (f + 1) 38 ls (v4 :: v3 :: v2 :: v1 :: .ref b :: st) h k n = (rcv (hget h b) 5 ∧ CAL G (WP 15 G S f) 16 [.ref b, v1, v2, v3, v4] 41 ls st h k n) := by rw [wp_s dd_15_38 rfl hs]; rfl
theorem dd_15_41 : decode (mB 15) 41 = .ok (.aload_n 0, 1) := by decide +kernel
theorem u_15_41 {G : aG} {S : Nat → Bool} {f : Nat} {st : List Value} {ls : aL} {h : aH} {k n : Nat} (hs : S 41 = false) : WP 15 G S (f + 1) 41 ls st h k n = (oA (lget ls 0) (WP 15 G S f) 42 ls st h k n) := by rw [wp_s dd_15_41 rfl hs]; rfl
theorem dd_15_42 : decode (mB 15) 42 = .ok (.getfield 36, 3) := by decide +kernel
theorem u_15_42 {G : aG} {S : Nat → Bool} {f : Nat} {st : List Value} {ls : aL} {h : aH} {k n : Nat} {a : Nat} (hs : S 42 = false) : WP 15 G S (f + 1) 42 ls (.ref a :: st) h k n = (oV (fget h a 5 11) (WP 15 G S f) 45 ls st h k n) := by rw [wp_s dd_15_42 rfl hs]; rfl
theorem dd_15_45 : decode (mB 15) 45 = .ok (.iload_n 1, 1) := by decide +kernel
theorem u_15_45 {G : aG} {S : Nat → Bool} {f : Nat} {st : List Value} {ls : aL} {h : aH} {k n : Nat} (hs : S 45 = false) : WP 15 G S (f + 1) 45 ls st h k n = (oI (lget ls 1) (WP 15 G S f) 46 ls st h k n) := by rw [wp_s dd_15_45 rfl hs]; rfl
theorem dd_15_46 : decode (mB 15) 46 = .ok (.aload_n 0, 1) := by decide +kernel
theorem u_15_46 {G : aG} {S : Nat → Bool} {f : Nat} {st : List Value} {ls : aL} {h : aH} {k n : Nat} (hs : S 46 = false) : WP 15 G S (f + 1) 46 ls st h k n = (oA (lget ls 0) (WP 15 G S f) 47 ls st h k n) := by rw [wp_s dd_15_46 rfl hs]; rfl
theorem dd_15_47 : decode (mB 15) 47 = .ok (.getfield 63, 3) := by decide +kernel
theorem u_15_47 {G : aG} {S : Nat → Bool} {f : Nat} {st : List Value} {ls : aL} {h : aH} {k n : Nat} {a : Nat} (hs : S 47 = false) : WP 15 G S (f + 1) 47 ls (.ref a :: st) h k n = (oV (fget h a 5 12) (WP 15 G S f) 50 ls st h k n) := by rw [wp_s dd_15_47 rfl hs]; rfl
theorem dd_15_50 : decode (mB 15) 50 = .ok (.iastore, 1) := by decide +kernel
theorem u_15_50 {G : aG} {S : Nat → Bool} {f : Nat} {st : List Value} {ls : aL} {h : aH} {k n : Nat} {i x : Int32} {a : Nat} (hs : S 50 = false) : WP 15 G S (f + 1) 50 ls (.int x :: .int i :: .ref a :: st) h k n = (oIst (iget h a 1) a i x (WP 15 G S f) 51 ls st h k n) := by rw [wp_s dd_15_50 rfl hs]; rfl
theorem dd_15_51 : decode (mB 15) 51 = .ok (.iinc 1 1, 3) := by decide +kernel
theorem u_15_51 {G : aG} {S : Nat → Bool} {f : Nat} {st : List Value} {ls : aL} {h : aH} {k n : Nat} (hs : S 51 = false) : WP 15 G S (f + 1) 51 ls st h k n = (oInc (lget ls 1) (nI 1) (WP 15 G S f) 1 54 ls st h k n) := by rw [wp_s dd_15_51 rfl hs]; rfl
theorem dd_15_54 : decode (mB 15) 54 = .ok (.goto (-47), 3) := by decide +kernel
theorem u_15_54 {G : aG} {S : Nat → Bool} {f : Nat} {st : List Value} {ls : aL} {h : aH} {k n : Nat} (hs : S 54 = false) : WP 15 G S (f + 1) 54 ls st h k n = (WP 15 G S f 7 ls st h k n) := by rw [wp_s dd_15_54 rfl hs]; rfl
theorem dd_15_57 : decode (mB 15) 57 = .ok (.return_, 1) := by decide +kernel
theorem u_15_57 {G : aG} {S : Nat → Bool} {f : Nat} {ls : aL} {h : aH} {k n : Nat} (hs : S 57 = false) : WP 15 G S (f + 1) 57 ls [] h k n = (RET G none h k n) := by rw [wp_s dd_15_57 rfl hs]; rfl
theorem dd_16_0 : decode (mB 16) 0 = .ok (.iload_n 1, 1) := by decide +kernel
theorem u_16_0 {G : aG} {S : Nat → Bool} {f : Nat} {st : List Value} {ls : aL} {h : aH} {k n : Nat} (hs : S 0 = false) : WP 16 G S (f + 1) 0 ls st h k n = (oI (lget ls 1) (WP 16 G S f) 1 ls st h k n) := by rw [wp_s dd_16_0 rfl hs]; rfl
theorem dd_16_1 : decode (mB 16) 1 = .ok (.ifCond .ge 4, 3) := by decide +kernel
theorem u_16_1 {G : aG} {S : Nat → Bool} {f : Nat} {st : List Value} {ls : aL} {h : aH} {k n : Nat} {x : Int32} (hs : S 1 = false) : WP 16 G S (f + 1) 1 ls (.int x :: st) h k n = (if nI 0 ≤ x then WP 16 G S f 5 ls st h k n else WP 16 G S f 4 ls st h k n) := by rw [wp_s dd_16_1 rfl hs]; exact br_ite (c := nI 0 ≤ x)
theorem dd_16_4 : decode (mB 16) 4 = .ok (.return_, 1) := by decide +kernel
theorem u_16_4 {G : aG} {S : Nat → Bool} {f : Nat} {ls : aL} {h : aH} {k n : Nat} (hs : S 4 = false) : WP 16 G S (f + 1) 4 ls [] h k n = (RET G none h k n) := by rw [wp_s dd_16_4 rfl hs]; rfl
theorem dd_16_5 : decode (mB 16) 5 = .ok (.aload_n 0, 1) := by decide +kernel
theorem u_16_5 {G : aG} {S : Nat → Bool} {f : Nat} {st : List Value} {ls : aL} {h : aH} {k n : Nat} (hs : S 5 = false) : WP 16 G S (f + 1) 5 ls st h k n = (oA (lget ls 0) (WP 16 G S f) 6 ls st h k n) := by rw [wp_s dd_16_5 rfl hs]; rfl
theorem dd_16_6 : decode (mB 16) 6 = .ok (.getfield 9, 3) := by decide +kernel
theorem u_16_6 {G : aG} {S : Nat → Bool} {f : Nat} {st : List Value} {ls : aL} {h : aH} {k n : Nat} {a : Nat} (hs : S 6 = false) : WP 16 G S (f + 1) 6 ls (.ref a :: st) h k n = (oV (fget h a 5 0) (WP 16 G S f) 9 ls st h k n) := by rw [wp_s dd_16_6 rfl hs]; rfl
theorem dd_16_9 : decode (mB 16) 9 = .ok (.iload_n 1, 1) := by decide +kernel
theorem u_16_9 {G : aG} {S : Nat → Bool} {f : Nat} {st : List Value} {ls : aL} {h : aH} {k n : Nat} (hs : S 9 = false) : WP 16 G S (f + 1) 9 ls st h k n = (oI (lget ls 1) (WP 16 G S f) 10 ls st h k n) := by rw [wp_s dd_16_9 rfl hs]; rfl
theorem dd_16_10 : decode (mB 16) 10 = .ok (.iaload, 1) := by decide +kernel
theorem u_16_10 {G : aG} {S : Nat → Bool} {f : Nat} {st : List Value} {ls : aL} {h : aH} {k n : Nat} {i : Int32} {a : Nat} (hs : S 10 = false) : WP 16 G S (f + 1) 10 ls (.int i :: .ref a :: st) h k n = (oIld (iget h a 1) i (WP 16 G S f) 11 ls st h k n) := by rw [wp_s dd_16_10 rfl hs]; rfl
theorem dd_16_11 : decode (mB 16) 11 = .ok (.istore 5, 2) := by decide +kernel
theorem u_16_11 {G : aG} {S : Nat → Bool} {f : Nat} {st : List Value} {ls : aL} {h : aH} {k n : Nat} {x : Int32} (hs : S 11 = false) : WP 16 G S (f + 1) 11 ls (.int x :: st) h k n = (WP 16 G S f 13 (lput1 ls 5 (.int x)) st h k n) := by rw [wp_s dd_16_11 rfl hs]; rfl
theorem dd_16_13 : decode (mB 16) 13 = .ok (.iload 5, 2) := by decide +kernel
theorem u_16_13 {G : aG} {S : Nat → Bool} {f : Nat} {st : List Value} {ls : aL} {h : aH} {k n : Nat} (hs : S 13 = false) : WP 16 G S (f + 1) 13 ls st h k n = (oI (lget ls 5) (WP 16 G S f) 15 ls st h k n) := by rw [wp_s dd_16_13 rfl hs]; rfl
theorem dd_16_15 : decode (mB 16) 15 = .ok (.bipush 8, 2) := by decide +kernel
theorem u_16_15 {G : aG} {S : Nat → Bool} {f : Nat} {st : List Value} {ls : aL} {h : aH} {k n : Nat} (hs : S 15 = false) : WP 16 G S (f + 1) 15 ls st h k n = (WP 16 G S f 17 ls (.int (nI 8) :: st) h k n) := by rw [wp_s dd_16_15 rfl hs]; rfl
theorem dd_16_17 : decode (mB 16) 17 = .ok (.if_icmp .gt 22, 3) := by decide +kernel
theorem u_16_17 {G : aG} {S : Nat → Bool} {f : Nat} {st : List Value} {ls : aL} {h : aH} {k n : Nat} {x y : Int32} (hs : S 17 = false) : WP 16 G S (f + 1) 17 ls (.int y :: .int x :: st) h k n = (if y < x then WP 16 G S f 39 ls st h k n else WP 16 G S f 20 ls st h k n) := by rw [wp_s dd_16_17 rfl hs]; exact br_ite (c := y < x)
theorem dd_16_20 : decode (mB 16) 20 = .ok (.iload_n 2, 1) := by decide +kernel
theorem u_16_20 {G : aG} {S : Nat → Bool} {f : Nat} {st : List Value} {ls : aL} {h : aH} {k n : Nat} (hs : S 20 = false) : WP 16 G S (f + 1) 20 ls st h k n = (oI (lget ls 2) (WP 16 G S f) 21 ls st h k n) := by rw [wp_s dd_16_20 rfl hs]; rfl
theorem dd_16_21 : decode (mB 16) 21 = .ok (.ifCond .ne 72, 3) := by decide +kernel
theorem u_16_21 {G : aG} {S : Nat → Bool} {f : Nat} {st : List Value} {ls : aL} {h : aH} {k n : Nat} {x : Int32} (hs : S 21 = false) : WP 16 G S (f + 1) 21 ls (.int x :: st) h k n = (if x = nI 0 then WP 16 G S f 24 ls st h k n else WP 16 G S f 93 ls st h k n) := by rw [wp_s dd_16_21 rfl hs]; exact br_iten (c := x = nI 0)
theorem dd_16_24 : decode (mB 16) 24 = .ok (.aload_n 0, 1) := by decide +kernel
theorem u_16_24 {G : aG} {S : Nat → Bool} {f : Nat} {st : List Value} {ls : aL} {h : aH} {k n : Nat} (hs : S 24 = false) : WP 16 G S (f + 1) 24 ls st h k n = (oA (lget ls 0) (WP 16 G S f) 25 ls st h k n) := by rw [wp_s dd_16_24 rfl hs]; rfl
theorem dd_16_25 : decode (mB 16) 25 = .ok (.iload 5, 2) := by decide +kernel
theorem u_16_25 {G : aG} {S : Nat → Bool} {f : Nat} {st : List Value} {ls : aL} {h : aH} {k n : Nat} (hs : S 25 = false) : WP 16 G S (f + 1) 25 ls st h k n = (oI (lget ls 5) (WP 16 G S f) 27 ls st h k n) := by rw [wp_s dd_16_25 rfl hs]; rfl
theorem dd_16_27 : decode (mB 16) 27 = .ok (.iconst 1, 1) := by decide +kernel
theorem u_16_27 {G : aG} {S : Nat → Bool} {f : Nat} {st : List Value} {ls : aL} {h : aH} {k n : Nat} (hs : S 27 = false) : WP 16 G S (f + 1) 27 ls st h k n = (WP 16 G S f 28 ls (.int (nI 1) :: st) h k n) := by rw [wp_s dd_16_27 rfl hs]; rfl
theorem dd_16_28 : decode (mB 16) 28 = .ok (.isub, 1) := by decide +kernel
theorem u_16_28 {G : aG} {S : Nat → Bool} {f : Nat} {st : List Value} {ls : aL} {h : aH} {k n : Nat} {x y : Int32} (hs : S 28 = false) : WP 16 G S (f + 1) 28 ls (.int y :: .int x :: st) h k n = (WP 16 G S f 29 ls (.int (x - y) :: st) h k n) := by rw [wp_s dd_16_28 rfl hs]; rfl
theorem dd_16_29 : decode (mB 16) 29 = .ok (.iload_n 3, 1) := by decide +kernel
theorem u_16_29 {G : aG} {S : Nat → Bool} {f : Nat} {st : List Value} {ls : aL} {h : aH} {k n : Nat} (hs : S 29 = false) : WP 16 G S (f + 1) 29 ls st h k n = (oI (lget ls 3) (WP 16 G S f) 30 ls st h k n) := by rw [wp_s dd_16_29 rfl hs]; rfl
theorem dd_16_30 : decode (mB 16) 30 = .ok (.iload 4, 2) := by decide +kernel
theorem u_16_30 {G : aG} {S : Nat → Bool} {f : Nat} {st : List Value} {ls : aL} {h : aH} {k n : Nat} (hs : S 30 = false) : WP 16 G S (f + 1) 30 ls st h k n = (oI (lget ls 4) (WP 16 G S f) 32 ls st h k n) := by rw [wp_s dd_16_30 rfl hs]; rfl
theorem dd_16_32 : decode (mB 16) 32 = .ok (.iadd, 1) := by decide +kernel
theorem u_16_32 {G : aG} {S : Nat → Bool} {f : Nat} {st : List Value} {ls : aL} {h : aH} {k n : Nat} {x y : Int32} (hs : S 32 = false) : WP 16 G S (f + 1) 32 ls (.int y :: .int x :: st) h k n = (WP 16 G S f 33 ls (.int (x + y) :: st) h k n) := by rw [wp_s dd_16_32 rfl hs]; rfl
theorem dd_16_33 : decode (mB 16) 33 = .ok (.invokevirtual 73, 3) := by decide +kernel
theorem u_16_33 {G : aG} {S : Nat → Bool} {f : Nat} {st : List Value} {ls : aL} {h : aH} {k n : Nat} {v1 v2 : Value} {b : Nat} (hs : S 33 = false) : WP 16 G S (f + 1) 33 ls (v2 :: v1 :: .ref b :: st) h k n = (rcv (hget h b) 5 ∧ CAL G (WP 16 G S f) 17 [.ref b, v1, v2] 36 ls st h k n) := by rw [wp_s dd_16_33 rfl hs]; rfl
theorem dd_16_36 : decode (mB 16) 36 = .ok (.goto 57, 3) := by decide +kernel
theorem u_16_36 {G : aG} {S : Nat → Bool} {f : Nat} {st : List Value} {ls : aL} {h : aH} {k n : Nat} (hs : S 36 = false) : WP 16 G S (f + 1) 36 ls st h k n = (WP 16 G S f 93 ls st h k n) := by rw [wp_s dd_16_36 rfl hs]; rfl
theorem dd_16_39 : decode (mB 16) 39 = .ok (.iload 5, 2) := by decide +kernel
theorem u_16_39 {G : aG} {S : Nat → Bool} {f : Nat} {st : List Value} {ls : aL} {h : aH} {k n : Nat} (hs : S 39 = false) : WP 16 G S (f + 1) 39 ls st h k n = (oI (lget ls 5) (WP 16 G S f) 41 ls st h k n) := by rw [wp_s dd_16_39 rfl hs]; rfl
theorem dd_16_41 : decode (mB 16) 41 = .ok (.bipush 13, 2) := by decide +kernel
theorem u_16_41 {G : aG} {S : Nat → Bool} {f : Nat} {st : List Value} {ls : aL} {h : aH} {k n : Nat} (hs : S 41 = false) : WP 16 G S (f + 1) 41 ls st h k n = (WP 16 G S f 43 ls (.int (nI 13) :: st) h k n) := by rw [wp_s dd_16_41 rfl hs]; rfl
theorem dd_16_43 : decode (mB 16) 43 = .ok (.if_icmp .lt 15, 3) := by decide +kernel
theorem u_16_43 {G : aG} {S : Nat → Bool} {f : Nat} {st : List Value} {ls : aL} {h : aH} {k n : Nat} {x y : Int32} (hs : S 43 = false) : WP 16 G S (f + 1) 43 ls (.int y :: .int x :: st) h k n = (if x < y then WP 16 G S f 58 ls st h k n else WP 16 G S f 46 ls st h k n) := by rw [wp_s dd_16_43 rfl hs]; exact br_ite (c := x < y)
theorem dd_16_46 : decode (mB 16) 46 = .ok (.aload_n 0, 1) := by decide +kernel
theorem u_16_46 {G : aG} {S : Nat → Bool} {f : Nat} {st : List Value} {ls : aL} {h : aH} {k n : Nat} (hs : S 46 = false) : WP 16 G S (f + 1) 46 ls st h k n = (oA (lget ls 0) (WP 16 G S f) 47 ls st h k n) := by rw [wp_s dd_16_46 rfl hs]; rfl
theorem dd_16_47 : decode (mB 16) 47 = .ok (.iload_n 1, 1) := by decide +kernel
theorem u_16_47 {G : aG} {S : Nat → Bool} {f : Nat} {st : List Value} {ls : aL} {h : aH} {k n : Nat} (hs : S 47 = false) : WP 16 G S (f + 1) 47 ls st h k n = (oI (lget ls 1) (WP 16 G S f) 48 ls st h k n) := by rw [wp_s dd_16_47 rfl hs]; rfl
theorem dd_16_48 : decode (mB 16) 48 = .ok (.iload_n 2, 1) := by decide +kernel
theorem u_16_48 {G : aG} {S : Nat → Bool} {f : Nat} {st : List Value} {ls : aL} {h : aH} {k n : Nat} (hs : S 48 = false) : WP 16 G S (f + 1) 48 ls st h k n = (oI (lget ls 2) (WP 16 G S f) 49 ls st h k n) := by rw [wp_s dd_16_48 rfl hs]; rfl
theorem dd_16_49 : decode (mB 16) 49 = .ok (.iload_n 3, 1) := by decide +kernel
theorem u_16_49 {G : aG} {S : Nat → Bool} {f : Nat} {st : List Value} {ls : aL} {h : aH} {k n : Nat} (hs : S 49 = false) : WP 16 G S (f + 1) 49 ls st h k n = (oI (lget ls 3) (WP 16 G S f) 50 ls st h k n) := by rw [wp_s dd_16_49 rfl hs]; rfl
theorem dd_16_50 : decode (mB 16) 50 = .ok (.iload 4, 2) := by decide +kernel
theorem u_16_50 {G : aG} {S : Nat → Bool} {f : Nat} {st : List Value} {ls : aL} {h : aH} {k n : Nat} (hs : S 50 = false) : WP 16 G S (f + 1) 50 ls st h k n = (oI (lget ls 4) (WP 16 G S f) 52 ls st h k n) := by rw [wp_s dd_16_50 rfl hs]; rfl
theorem dd_16_52 : decode (mB 16) 52 = .ok (.invokevirtual 77, 3) := by decide +kernel
theorem u_16_52 {G : aG} {S : Nat → Bool} {f : Nat} {st : List Value} {ls : aL} {h : aH} {k n : Nat} {v1 v2 v3 v4 : Value} {b : Nat} (hs : S 52 = false) : WP 16 G S (f + 1) 52 ls (v4 :: v3 :: v2 :: v1 :: .ref b :: st) h k n = (rcv (hget h b) 5 ∧ CAL G (WP 16 G S f) 19 [.ref b, v1, v2, v3, v4] 55 ls st h k n) := by rw [wp_s dd_16_52 rfl hs]; rfl
theorem dd_16_55 : decode (mB 16) 55 = .ok (.goto 38, 3) := by decide +kernel
theorem u_16_55 {G : aG} {S : Nat → Bool} {f : Nat} {st : List Value} {ls : aL} {h : aH} {k n : Nat} (hs : S 55 = false) : WP 16 G S (f + 1) 55 ls st h k n = (WP 16 G S f 93 ls st h k n) := by rw [wp_s dd_16_55 rfl hs]; rfl
theorem dd_16_58 : decode (mB 16) 58 = .ok (.iload 5, 2) := by decide +kernel
theorem u_16_58 {G : aG} {S : Nat → Bool} {f : Nat} {st : List Value} {ls : aL} {h : aH} {k n : Nat} (hs : S 58 = false) : WP 16 G S (f + 1) 58 ls st h k n = (oI (lget ls 5) (WP 16 G S f) 60 ls st h k n) := by rw [wp_s dd_16_58 rfl hs]; rfl
theorem dd_16_60 : decode (mB 16) 60 = .ok (.bipush 11, 2) := by decide +kernel
theorem u_16_60 {G : aG} {S : Nat → Bool} {f : Nat} {st : List Value} {ls : aL} {h : aH} {k n : Nat} (hs : S 60 = false) : WP 16 G S (f + 1) 60 ls st h k n = (WP 16 G S f 62 ls (.int (nI 11) :: st) h k n) := by rw [wp_s dd_16_60 rfl hs]; rfl
theorem dd_16_62 : decode (mB 16) 62 = .ok (.if_icmp .ne 15, 3) := by decide +kernel
theorem u_16_62 {G : aG} {S : Nat → Bool} {f : Nat} {st : List Value} {ls : aL} {h : aH} {k n : Nat} {x y : Int32} (hs : S 62 = false) : WP 16 G S (f + 1) 62 ls (.int y :: .int x :: st) h k n = (if x = y then WP 16 G S f 65 ls st h k n else WP 16 G S f 77 ls st h k n) := by rw [wp_s dd_16_62 rfl hs]; exact br_iten (c := x = y)
theorem dd_16_65 : decode (mB 16) 65 = .ok (.aload_n 0, 1) := by decide +kernel
theorem u_16_65 {G : aG} {S : Nat → Bool} {f : Nat} {st : List Value} {ls : aL} {h : aH} {k n : Nat} (hs : S 65 = false) : WP 16 G S (f + 1) 65 ls st h k n = (oA (lget ls 0) (WP 16 G S f) 66 ls st h k n) := by rw [wp_s dd_16_65 rfl hs]; rfl
theorem dd_16_66 : decode (mB 16) 66 = .ok (.iload_n 1, 1) := by decide +kernel
theorem u_16_66 {G : aG} {S : Nat → Bool} {f : Nat} {st : List Value} {ls : aL} {h : aH} {k n : Nat} (hs : S 66 = false) : WP 16 G S (f + 1) 66 ls st h k n = (oI (lget ls 1) (WP 16 G S f) 67 ls st h k n) := by rw [wp_s dd_16_66 rfl hs]; rfl
theorem dd_16_67 : decode (mB 16) 67 = .ok (.iload_n 2, 1) := by decide +kernel
theorem u_16_67 {G : aG} {S : Nat → Bool} {f : Nat} {st : List Value} {ls : aL} {h : aH} {k n : Nat} (hs : S 67 = false) : WP 16 G S (f + 1) 67 ls st h k n = (oI (lget ls 2) (WP 16 G S f) 68 ls st h k n) := by rw [wp_s dd_16_67 rfl hs]; rfl
theorem dd_16_68 : decode (mB 16) 68 = .ok (.iload_n 3, 1) := by decide +kernel
theorem u_16_68 {G : aG} {S : Nat → Bool} {f : Nat} {st : List Value} {ls : aL} {h : aH} {k n : Nat} (hs : S 68 = false) : WP 16 G S (f + 1) 68 ls st h k n = (oI (lget ls 3) (WP 16 G S f) 69 ls st h k n) := by rw [wp_s dd_16_68 rfl hs]; rfl
theorem dd_16_69 : decode (mB 16) 69 = .ok (.iload 4, 2) := by decide +kernel
theorem u_16_69 {G : aG} {S : Nat → Bool} {f : Nat} {st : List Value} {ls : aL} {h : aH} {k n : Nat} (hs : S 69 = false) : WP 16 G S (f + 1) 69 ls st h k n = (oI (lget ls 4) (WP 16 G S f) 71 ls st h k n) := by rw [wp_s dd_16_69 rfl hs]; rfl
theorem dd_16_71 : decode (mB 16) 71 = .ok (.invokevirtual 80, 3) := by decide +kernel
theorem u_16_71 {G : aG} {S : Nat → Bool} {f : Nat} {st : List Value} {ls : aL} {h : aH} {k n : Nat} {v1 v2 v3 v4 : Value} {b : Nat} (hs : S 71 = false) : WP 16 G S (f + 1) 71 ls (v4 :: v3 :: v2 :: v1 :: .ref b :: st) h k n = (rcv (hget h b) 5 ∧ CAL G (WP 16 G S f) 20 [.ref b, v1, v2, v3, v4] 74 ls st h k n) := by rw [wp_s dd_16_71 rfl hs]; rfl
theorem dd_16_74 : decode (mB 16) 74 = .ok (.goto 19, 3) := by decide +kernel
theorem u_16_74 {G : aG} {S : Nat → Bool} {f : Nat} {st : List Value} {ls : aL} {h : aH} {k n : Nat} (hs : S 74 = false) : WP 16 G S (f + 1) 74 ls st h k n = (WP 16 G S f 93 ls st h k n) := by rw [wp_s dd_16_74 rfl hs]; rfl
theorem dd_16_77 : decode (mB 16) 77 = .ok (.iload 5, 2) := by decide +kernel
theorem u_16_77 {G : aG} {S : Nat → Bool} {f : Nat} {st : List Value} {ls : aL} {h : aH} {k n : Nat} (hs : S 77 = false) : WP 16 G S (f + 1) 77 ls st h k n = (oI (lget ls 5) (WP 16 G S f) 79 ls st h k n) := by rw [wp_s dd_16_77 rfl hs]; rfl
theorem dd_16_79 : decode (mB 16) 79 = .ok (.bipush 9, 2) := by decide +kernel
theorem u_16_79 {G : aG} {S : Nat → Bool} {f : Nat} {st : List Value} {ls : aL} {h : aH} {k n : Nat} (hs : S 79 = false) : WP 16 G S (f + 1) 79 ls st h k n = (WP 16 G S f 81 ls (.int (nI 9) :: st) h k n) := by rw [wp_s dd_16_79 rfl hs]; rfl
theorem dd_16_81 : decode (mB 16) 81 = .ok (.if_icmp .eq 12, 3) := by decide +kernel
theorem u_16_81 {G : aG} {S : Nat → Bool} {f : Nat} {st : List Value} {ls : aL} {h : aH} {k n : Nat} {x y : Int32} (hs : S 81 = false) : WP 16 G S (f + 1) 81 ls (.int y :: .int x :: st) h k n = (if x = y then WP 16 G S f 93 ls st h k n else WP 16 G S f 84 ls st h k n) := by rw [wp_s dd_16_81 rfl hs]; exact br_ite (c := x = y)
theorem dd_16_84 : decode (mB 16) 84 = .ok (.aload_n 0, 1) := by decide +kernel
theorem u_16_84 {G : aG} {S : Nat → Bool} {f : Nat} {st : List Value} {ls : aL} {h : aH} {k n : Nat} (hs : S 84 = false) : WP 16 G S (f + 1) 84 ls st h k n = (oA (lget ls 0) (WP 16 G S f) 85 ls st h k n) := by rw [wp_s dd_16_84 rfl hs]; rfl
theorem dd_16_85 : decode (mB 16) 85 = .ok (.iload_n 1, 1) := by decide +kernel
theorem u_16_85 {G : aG} {S : Nat → Bool} {f : Nat} {st : List Value} {ls : aL} {h : aH} {k n : Nat} (hs : S 85 = false) : WP 16 G S (f + 1) 85 ls st h k n = (oI (lget ls 1) (WP 16 G S f) 86 ls st h k n) := by rw [wp_s dd_16_85 rfl hs]; rfl
theorem dd_16_86 : decode (mB 16) 86 = .ok (.iload_n 2, 1) := by decide +kernel
theorem u_16_86 {G : aG} {S : Nat → Bool} {f : Nat} {st : List Value} {ls : aL} {h : aH} {k n : Nat} (hs : S 86 = false) : WP 16 G S (f + 1) 86 ls st h k n = (oI (lget ls 2) (WP 16 G S f) 87 ls st h k n) := by rw [wp_s dd_16_86 rfl hs]; rfl
theorem dd_16_87 : decode (mB 16) 87 = .ok (.iload_n 3, 1) := by decide +kernel
theorem u_16_87 {G : aG} {S : Nat → Bool} {f : Nat} {st : List Value} {ls : aL} {h : aH} {k n : Nat} (hs : S 87 = false) : WP 16 G S (f + 1) 87 ls st h k n = (oI (lget ls 3) (WP 16 G S f) 88 ls st h k n) := by rw [wp_s dd_16_87 rfl hs]; rfl
theorem dd_16_88 : decode (mB 16) 88 = .ok (.iload 4, 2) := by decide +kernel
theorem u_16_88 {G : aG} {S : Nat → Bool} {f : Nat} {st : List Value} {ls : aL} {h : aH} {k n : Nat} (hs : S 88 = false) : WP 16 G S (f + 1) 88 ls st h k n = (oI (lget ls 4) (WP 16 G S f) 90 ls st h k n) := by rw [wp_s dd_16_88 rfl hs]; rfl
theorem dd_16_90 : decode (mB 16) 90 = .ok (.invokevirtual 83, 3) := by decide +kernel
theorem u_16_90 {G : aG} {S : Nat → Bool} {f : Nat} {st : List Value} {ls : aL} {h : aH} {k n : Nat} {v1 v2 v3 v4 : Value} {b : Nat} (hs : S 90 = false) : WP 16 G S (f + 1) 90 ls (v4 :: v3 :: v2 :: v1 :: .ref b :: st) h k n = (rcv (hget h b) 5 ∧ CAL G (WP 16 G S f) 21 [.ref b, v1, v2, v3, v4] 93 ls st h k n) := by rw [wp_s dd_16_90 rfl hs]; rfl
theorem dd_16_93 : decode (mB 16) 93 = .ok (.return_, 1) := by decide +kernel
theorem u_16_93 {G : aG} {S : Nat → Bool} {f : Nat} {ls : aL} {h : aH} {k n : Nat} (hs : S 93 = false) : WP 16 G S (f + 1) 93 ls [] h k n = (RET G none h k n) := by rw [wp_s dd_16_93 rfl hs]; rfl
theorem dd_17_0 : decode (mB 17) 0 = .ok (.iload_n 2, 1) := by decide +kernel
theorem u_17_0 {G : aG} {S : Nat → Bool} {f : Nat} {st : List Value} {ls : aL} {h : aH} {k n : Nat} (hs : S 0 = false) : WP 17 G S (f + 1) 0 ls st h k n = (oI (lget ls 2) (WP 17 G S f) 1 ls st h k n) := by rw [wp_s dd_17_0 rfl hs]; rfl
theorem dd_17_1 : decode (mB 17) 1 = .ok (.ifCond .lt 29, 3) := by decide +kernel
theorem u_17_1 {G : aG} {S : Nat → Bool} {f : Nat} {st : List Value} {ls : aL} {h : aH} {k n : Nat} {x : Int32} (hs : S 1 = false) : WP 17 G S (f + 1) 1 ls (.int x :: st) h k n = (if x < nI 0 then WP 17 G S f 30 ls st h k n else WP 17 G S f 4 ls st h k n) := by rw [wp_s dd_17_1 rfl hs]; exact br_ite (c := x < nI 0)
theorem dd_17_4 : decode (mB 17) 4 = .ok (.iload_n 2, 1) := by decide +kernel
theorem u_17_4 {G : aG} {S : Nat → Bool} {f : Nat} {st : List Value} {ls : aL} {h : aH} {k n : Nat} (hs : S 4 = false) : WP 17 G S (f + 1) 4 ls st h k n = (oI (lget ls 2) (WP 17 G S f) 5 ls st h k n) := by rw [wp_s dd_17_4 rfl hs]; rfl
theorem dd_17_5 : decode (mB 17) 5 = .ok (.aload_n 0, 1) := by decide +kernel
theorem u_17_5 {G : aG} {S : Nat → Bool} {f : Nat} {st : List Value} {ls : aL} {h : aH} {k n : Nat} (hs : S 5 = false) : WP 17 G S (f + 1) 5 ls st h k n = (oA (lget ls 0) (WP 17 G S f) 6 ls st h k n) := by rw [wp_s dd_17_5 rfl hs]; rfl
theorem dd_17_6 : decode (mB 17) 6 = .ok (.getfield 56, 3) := by decide +kernel
theorem u_17_6 {G : aG} {S : Nat → Bool} {f : Nat} {st : List Value} {ls : aL} {h : aH} {k n : Nat} {a : Nat} (hs : S 6 = false) : WP 17 G S (f + 1) 6 ls (.ref a :: st) h k n = (oV (fget h a 5 6) (WP 17 G S f) 9 ls st h k n) := by rw [wp_s dd_17_6 rfl hs]; rfl
theorem dd_17_9 : decode (mB 17) 9 = .ok (.if_icmp .ge 21, 3) := by decide +kernel
theorem u_17_9 {G : aG} {S : Nat → Bool} {f : Nat} {st : List Value} {ls : aL} {h : aH} {k n : Nat} {x y : Int32} (hs : S 9 = false) : WP 17 G S (f + 1) 9 ls (.int y :: .int x :: st) h k n = (if y ≤ x then WP 17 G S f 30 ls st h k n else WP 17 G S f 12 ls st h k n) := by rw [wp_s dd_17_9 rfl hs]; exact br_ite (c := y ≤ x)
theorem dd_17_12 : decode (mB 17) 12 = .ok (.aload_n 0, 1) := by decide +kernel
theorem u_17_12 {G : aG} {S : Nat → Bool} {f : Nat} {st : List Value} {ls : aL} {h : aH} {k n : Nat} (hs : S 12 = false) : WP 17 G S (f + 1) 12 ls st h k n = (oA (lget ls 0) (WP 17 G S f) 13 ls st h k n) := by rw [wp_s dd_17_12 rfl hs]; rfl
theorem dd_17_13 : decode (mB 17) 13 = .ok (.getfield 66, 3) := by decide +kernel
theorem u_17_13 {G : aG} {S : Nat → Bool} {f : Nat} {st : List Value} {ls : aL} {h : aH} {k n : Nat} {a : Nat} (hs : S 13 = false) : WP 17 G S (f + 1) 13 ls (.ref a :: st) h k n = (oV (fget h a 5 13) (WP 17 G S f) 16 ls st h k n) := by rw [wp_s dd_17_13 rfl hs]; rfl
theorem dd_17_16 : decode (mB 17) 16 = .ok (.ifCond .lt 14, 3) := by decide +kernel
theorem u_17_16 {G : aG} {S : Nat → Bool} {f : Nat} {st : List Value} {ls : aL} {h : aH} {k n : Nat} {x : Int32} (hs : S 16 = false) : WP 17 G S (f + 1) 16 ls (.int x :: st) h k n = (if x < nI 0 then WP 17 G S f 30 ls st h k n else WP 17 G S f 19 ls st h k n) := by rw [wp_s dd_17_16 rfl hs]; exact br_ite (c := x < nI 0)
theorem dd_17_19 : decode (mB 17) 19 = .ok (.aload_n 0, 1) := by decide +kernel
theorem u_17_19 {G : aG} {S : Nat → Bool} {f : Nat} {st : List Value} {ls : aL} {h : aH} {k n : Nat} (hs : S 19 = false) : WP 17 G S (f + 1) 19 ls st h k n = (oA (lget ls 0) (WP 17 G S f) 20 ls st h k n) := by rw [wp_s dd_17_19 rfl hs]; rfl
theorem dd_17_20 : decode (mB 17) 20 = .ok (.getfield 66, 3) := by decide +kernel
theorem u_17_20 {G : aG} {S : Nat → Bool} {f : Nat} {st : List Value} {ls : aL} {h : aH} {k n : Nat} {a : Nat} (hs : S 20 = false) : WP 17 G S (f + 1) 20 ls (.ref a :: st) h k n = (oV (fget h a 5 13) (WP 17 G S f) 23 ls st h k n) := by rw [wp_s dd_17_20 rfl hs]; rfl
theorem dd_17_23 : decode (mB 17) 23 = .ok (.aload_n 0, 1) := by decide +kernel
theorem u_17_23 {G : aG} {S : Nat → Bool} {f : Nat} {st : List Value} {ls : aL} {h : aH} {k n : Nat} (hs : S 23 = false) : WP 17 G S (f + 1) 23 ls st h k n = (oA (lget ls 0) (WP 17 G S f) 24 ls st h k n) := by rw [wp_s dd_17_23 rfl hs]; rfl
theorem dd_17_24 : decode (mB 17) 24 = .ok (.getfield 56, 3) := by decide +kernel
theorem u_17_24 {G : aG} {S : Nat → Bool} {f : Nat} {st : List Value} {ls : aL} {h : aH} {k n : Nat} {a : Nat} (hs : S 24 = false) : WP 17 G S (f + 1) 24 ls (.ref a :: st) h k n = (oV (fget h a 5 6) (WP 17 G S f) 27 ls st h k n) := by rw [wp_s dd_17_24 rfl hs]; rfl
theorem dd_17_27 : decode (mB 17) 27 = .ok (.if_icmp .lt 4, 3) := by decide +kernel
theorem u_17_27 {G : aG} {S : Nat → Bool} {f : Nat} {st : List Value} {ls : aL} {h : aH} {k n : Nat} {x y : Int32} (hs : S 27 = false) : WP 17 G S (f + 1) 27 ls (.int y :: .int x :: st) h k n = (if x < y then WP 17 G S f 31 ls st h k n else WP 17 G S f 30 ls st h k n) := by rw [wp_s dd_17_27 rfl hs]; exact br_ite (c := x < y)
theorem dd_17_30 : decode (mB 17) 30 = .ok (.return_, 1) := by decide +kernel
theorem u_17_30 {G : aG} {S : Nat → Bool} {f : Nat} {ls : aL} {h : aH} {k n : Nat} (hs : S 30 = false) : WP 17 G S (f + 1) 30 ls [] h k n = (RET G none h k n) := by rw [wp_s dd_17_30 rfl hs]; rfl
theorem dd_17_31 : decode (mB 17) 31 = .ok (.iload_n 1, 1) := by decide +kernel
theorem u_17_31 {G : aG} {S : Nat → Bool} {f : Nat} {st : List Value} {ls : aL} {h : aH} {k n : Nat} (hs : S 31 = false) : WP 17 G S (f + 1) 31 ls st h k n = (oI (lget ls 1) (WP 17 G S f) 32 ls st h k n) := by rw [wp_s dd_17_31 rfl hs]; rfl
theorem dd_17_32 : decode (mB 17) 32 = .ok (.bipush 8, 2) := by decide +kernel
theorem u_17_32 {G : aG} {S : Nat → Bool} {f : Nat} {st : List Value} {ls : aL} {h : aH} {k n : Nat} (hs : S 32 = false) : WP 17 G S (f + 1) 32 ls st h k n = (WP 17 G S f 34 ls (.int (nI 8) :: st) h k n) := by rw [wp_s dd_17_32 rfl hs]; rfl
theorem dd_17_34 : decode (mB 17) 34 = .ok (.ishl, 1) := by decide +kernel
theorem u_17_34 {G : aG} {S : Nat → Bool} {f : Nat} {st : List Value} {ls : aL} {h : aH} {k n : Nat} {x y : Int32} (hs : S 34 = false) : WP 17 G S (f + 1) 34 ls (.int y :: .int x :: st) h k n = (WP 17 G S f 35 ls (.int (x <<< (y &&& 31)) :: st) h k n) := by rw [wp_s dd_17_34 rfl hs]; rfl
theorem dd_17_35 : decode (mB 17) 35 = .ok (.iload_n 2, 1) := by decide +kernel
theorem u_17_35 {G : aG} {S : Nat → Bool} {f : Nat} {st : List Value} {ls : aL} {h : aH} {k n : Nat} (hs : S 35 = false) : WP 17 G S (f + 1) 35 ls st h k n = (oI (lget ls 2) (WP 17 G S f) 36 ls st h k n) := by rw [wp_s dd_17_35 rfl hs]; rfl
theorem dd_17_36 : decode (mB 17) 36 = .ok (.ior, 1) := by decide +kernel
theorem u_17_36 {G : aG} {S : Nat → Bool} {f : Nat} {st : List Value} {ls : aL} {h : aH} {k n : Nat} {x y : Int32} (hs : S 36 = false) : WP 17 G S (f + 1) 36 ls (.int y :: .int x :: st) h k n = (WP 17 G S f 37 ls (.int (x ||| y) :: st) h k n) := by rw [wp_s dd_17_36 rfl hs]; rfl
theorem dd_17_37 : decode (mB 17) 37 = .ok (.istore_n 3, 1) := by decide +kernel
theorem u_17_37 {G : aG} {S : Nat → Bool} {f : Nat} {st : List Value} {ls : aL} {h : aH} {k n : Nat} {x : Int32} (hs : S 37 = false) : WP 17 G S (f + 1) 37 ls (.int x :: st) h k n = (WP 17 G S f 38 (lput1 ls 3 (.int x)) st h k n) := by rw [wp_s dd_17_37 rfl hs]; rfl
theorem dd_17_38 : decode (mB 17) 38 = .ok (.aload_n 0, 1) := by decide +kernel
theorem u_17_38 {G : aG} {S : Nat → Bool} {f : Nat} {st : List Value} {ls : aL} {h : aH} {k n : Nat} (hs : S 38 = false) : WP 17 G S (f + 1) 38 ls st h k n = (oA (lget ls 0) (WP 17 G S f) 39 ls st h k n) := by rw [wp_s dd_17_38 rfl hs]; rfl
theorem dd_17_39 : decode (mB 17) 39 = .ok (.getfield 33, 3) := by decide +kernel
theorem u_17_39 {G : aG} {S : Nat → Bool} {f : Nat} {st : List Value} {ls : aL} {h : aH} {k n : Nat} {a : Nat} (hs : S 39 = false) : WP 17 G S (f + 1) 39 ls (.ref a :: st) h k n = (oV (fget h a 5 10) (WP 17 G S f) 42 ls st h k n) := by rw [wp_s dd_17_39 rfl hs]; rfl
theorem dd_17_42 : decode (mB 17) 42 = .ok (.aload_n 0, 1) := by decide +kernel
theorem u_17_42 {G : aG} {S : Nat → Bool} {f : Nat} {st : List Value} {ls : aL} {h : aH} {k n : Nat} (hs : S 42 = false) : WP 17 G S (f + 1) 42 ls st h k n = (oA (lget ls 0) (WP 17 G S f) 43 ls st h k n) := by rw [wp_s dd_17_42 rfl hs]; rfl
theorem dd_17_43 : decode (mB 17) 43 = .ok (.getfield 66, 3) := by decide +kernel
theorem u_17_43 {G : aG} {S : Nat → Bool} {f : Nat} {st : List Value} {ls : aL} {h : aH} {k n : Nat} {a : Nat} (hs : S 43 = false) : WP 17 G S (f + 1) 43 ls (.ref a :: st) h k n = (oV (fget h a 5 13) (WP 17 G S f) 46 ls st h k n) := by rw [wp_s dd_17_43 rfl hs]; rfl
theorem dd_17_46 : decode (mB 17) 46 = .ok (.iaload, 1) := by decide +kernel
theorem u_17_46 {G : aG} {S : Nat → Bool} {f : Nat} {st : List Value} {ls : aL} {h : aH} {k n : Nat} {i : Int32} {a : Nat} (hs : S 46 = false) : WP 17 G S (f + 1) 46 ls (.int i :: .ref a :: st) h k n = (oIld (iget h a 1) i (WP 17 G S f) 47 ls st h k n) := by rw [wp_s dd_17_46 rfl hs]; rfl
theorem dd_17_47 : decode (mB 17) 47 = .ok (.istore 4, 2) := by decide +kernel
theorem u_17_47 {G : aG} {S : Nat → Bool} {f : Nat} {st : List Value} {ls : aL} {h : aH} {k n : Nat} {x : Int32} (hs : S 47 = false) : WP 17 G S (f + 1) 47 ls (.int x :: st) h k n = (WP 17 G S f 49 (lput1 ls 4 (.int x)) st h k n) := by rw [wp_s dd_17_47 rfl hs]; rfl
theorem dd_17_49 : decode (mB 17) 49 = .ok (.iload 4, 2) := by decide +kernel
theorem u_17_49 {G : aG} {S : Nat → Bool} {f : Nat} {st : List Value} {ls : aL} {h : aH} {k n : Nat} (hs : S 49 = false) : WP 17 G S (f + 1) 49 ls st h k n = (oI (lget ls 4) (WP 17 G S f) 51 ls st h k n) := by rw [wp_s dd_17_49 rfl hs]; rfl
theorem v_17_49 {G : aG} {S : Nat → Bool} {f : Nat} {st : List Value} {ls : aL} {h : aH} {k n : Nat} : WQ 17 G S f 49 ls st h k n = (oI (lget ls 4) (WP 17 G S f) 51 ls st h k n) := by rw [wq_s dd_17_49 rfl]; rfl
theorem dd_17_51 : decode (mB 17) 51 = .ok (.aload_n 0, 1) := by decide +kernel
theorem u_17_51 {G : aG} {S : Nat → Bool} {f : Nat} {st : List Value} {ls : aL} {h : aH} {k n : Nat} (hs : S 51 = false) : WP 17 G S (f + 1) 51 ls st h k n = (oA (lget ls 0) (WP 17 G S f) 52 ls st h k n) := by rw [wp_s dd_17_51 rfl hs]; rfl
theorem dd_17_52 : decode (mB 17) 52 = .ok (.getfield 63, 3) := by decide +kernel
theorem u_17_52 {G : aG} {S : Nat → Bool} {f : Nat} {st : List Value} {ls : aL} {h : aH} {k n : Nat} {a : Nat} (hs : S 52 = false) : WP 17 G S (f + 1) 52 ls (.ref a :: st) h k n = (oV (fget h a 5 12) (WP 17 G S f) 55 ls st h k n) := by rw [wp_s dd_17_52 rfl hs]; rfl
theorem dd_17_55 : decode (mB 17) 55 = .ok (.if_icmp .ge 21, 3) := by decide +kernel
theorem u_17_55 {G : aG} {S : Nat → Bool} {f : Nat} {st : List Value} {ls : aL} {h : aH} {k n : Nat} {x y : Int32} (hs : S 55 = false) : WP 17 G S (f + 1) 55 ls (.int y :: .int x :: st) h k n = (if y ≤ x then WP 17 G S f 76 ls st h k n else WP 17 G S f 58 ls st h k n) := by rw [wp_s dd_17_55 rfl hs]; exact br_ite (c := y ≤ x)
theorem dd_17_58 : decode (mB 17) 58 = .ok (.aload_n 0, 1) := by decide +kernel
theorem u_17_58 {G : aG} {S : Nat → Bool} {f : Nat} {st : List Value} {ls : aL} {h : aH} {k n : Nat} (hs : S 58 = false) : WP 17 G S (f + 1) 58 ls st h k n = (oA (lget ls 0) (WP 17 G S f) 59 ls st h k n) := by rw [wp_s dd_17_58 rfl hs]; rfl
theorem dd_17_59 : decode (mB 17) 59 = .ok (.getfield 30, 3) := by decide +kernel
theorem u_17_59 {G : aG} {S : Nat → Bool} {f : Nat} {st : List Value} {ls : aL} {h : aH} {k n : Nat} {a : Nat} (hs : S 59 = false) : WP 17 G S (f + 1) 59 ls (.ref a :: st) h k n = (oV (fget h a 5 9) (WP 17 G S f) 62 ls st h k n) := by rw [wp_s dd_17_59 rfl hs]; rfl
theorem dd_17_62 : decode (mB 17) 62 = .ok (.iload 4, 2) := by decide +kernel
theorem u_17_62 {G : aG} {S : Nat → Bool} {f : Nat} {st : List Value} {ls : aL} {h : aH} {k n : Nat} (hs : S 62 = false) : WP 17 G S (f + 1) 62 ls st h k n = (oI (lget ls 4) (WP 17 G S f) 64 ls st h k n) := by rw [wp_s dd_17_62 rfl hs]; rfl
theorem dd_17_64 : decode (mB 17) 64 = .ok (.iaload, 1) := by decide +kernel
theorem u_17_64 {G : aG} {S : Nat → Bool} {f : Nat} {st : List Value} {ls : aL} {h : aH} {k n : Nat} {i : Int32} {a : Nat} (hs : S 64 = false) : WP 17 G S (f + 1) 64 ls (.int i :: .ref a :: st) h k n = (oIld (iget h a 1) i (WP 17 G S f) 65 ls st h k n) := by rw [wp_s dd_17_64 rfl hs]; rfl
theorem dd_17_65 : decode (mB 17) 65 = .ok (.iload_n 3, 1) := by decide +kernel
theorem u_17_65 {G : aG} {S : Nat → Bool} {f : Nat} {st : List Value} {ls : aL} {h : aH} {k n : Nat} (hs : S 65 = false) : WP 17 G S (f + 1) 65 ls st h k n = (oI (lget ls 3) (WP 17 G S f) 66 ls st h k n) := by rw [wp_s dd_17_65 rfl hs]; rfl
theorem dd_17_66 : decode (mB 17) 66 = .ok (.if_icmp .ne 4, 3) := by decide +kernel
theorem u_17_66 {G : aG} {S : Nat → Bool} {f : Nat} {st : List Value} {ls : aL} {h : aH} {k n : Nat} {x y : Int32} (hs : S 66 = false) : WP 17 G S (f + 1) 66 ls (.int y :: .int x :: st) h k n = (if x = y then WP 17 G S f 69 ls st h k n else WP 17 G S f 70 ls st h k n) := by rw [wp_s dd_17_66 rfl hs]; exact br_iten (c := x = y)
theorem dd_17_69 : decode (mB 17) 69 = .ok (.return_, 1) := by decide +kernel
theorem u_17_69 {G : aG} {S : Nat → Bool} {f : Nat} {ls : aL} {h : aH} {k n : Nat} (hs : S 69 = false) : WP 17 G S (f + 1) 69 ls [] h k n = (RET G none h k n) := by rw [wp_s dd_17_69 rfl hs]; rfl
theorem dd_17_70 : decode (mB 17) 70 = .ok (.iinc 4 1, 3) := by decide +kernel
theorem u_17_70 {G : aG} {S : Nat → Bool} {f : Nat} {st : List Value} {ls : aL} {h : aH} {k n : Nat} (hs : S 70 = false) : WP 17 G S (f + 1) 70 ls st h k n = (oInc (lget ls 4) (nI 1) (WP 17 G S f) 4 73 ls st h k n) := by rw [wp_s dd_17_70 rfl hs]; rfl
theorem dd_17_73 : decode (mB 17) 73 = .ok (.goto (-24), 3) := by decide +kernel
theorem u_17_73 {G : aG} {S : Nat → Bool} {f : Nat} {st : List Value} {ls : aL} {h : aH} {k n : Nat} (hs : S 73 = false) : WP 17 G S (f + 1) 73 ls st h k n = (WP 17 G S f 49 ls st h k n) := by rw [wp_s dd_17_73 rfl hs]; rfl
theorem dd_17_76 : decode (mB 17) 76 = .ok (.aload_n 0, 1) := by decide +kernel
theorem u_17_76 {G : aG} {S : Nat → Bool} {f : Nat} {st : List Value} {ls : aL} {h : aH} {k n : Nat} (hs : S 76 = false) : WP 17 G S (f + 1) 76 ls st h k n = (oA (lget ls 0) (WP 17 G S f) 77 ls st h k n) := by rw [wp_s dd_17_76 rfl hs]; rfl
theorem dd_17_77 : decode (mB 17) 77 = .ok (.getfield 63, 3) := by decide +kernel
theorem u_17_77 {G : aG} {S : Nat → Bool} {f : Nat} {st : List Value} {ls : aL} {h : aH} {k n : Nat} {a : Nat} (hs : S 77 = false) : WP 17 G S (f + 1) 77 ls (.ref a :: st) h k n = (oV (fget h a 5 12) (WP 17 G S f) 80 ls st h k n) := by rw [wp_s dd_17_77 rfl hs]; rfl
theorem dd_17_80 : decode (mB 17) 80 = .ok (.aload_n 0, 1) := by decide +kernel
theorem u_17_80 {G : aG} {S : Nat → Bool} {f : Nat} {st : List Value} {ls : aL} {h : aH} {k n : Nat} (hs : S 80 = false) : WP 17 G S (f + 1) 80 ls st h k n = (oA (lget ls 0) (WP 17 G S f) 81 ls st h k n) := by rw [wp_s dd_17_80 rfl hs]; rfl
theorem dd_17_81 : decode (mB 17) 81 = .ok (.getfield 30, 3) := by decide +kernel
theorem u_17_81 {G : aG} {S : Nat → Bool} {f : Nat} {st : List Value} {ls : aL} {h : aH} {k n : Nat} {a : Nat} (hs : S 81 = false) : WP 17 G S (f + 1) 81 ls (.ref a :: st) h k n = (oV (fget h a 5 9) (WP 17 G S f) 84 ls st h k n) := by rw [wp_s dd_17_81 rfl hs]; rfl
theorem dd_17_84 : decode (mB 17) 84 = .ok (.arraylength, 1) := by decide +kernel
theorem u_17_84 {G : aG} {S : Nat → Bool} {f : Nat} {st : List Value} {ls : aL} {h : aH} {k n : Nat} {a : Nat} (hs : S 84 = false) : WP 17 G S (f + 1) 84 ls (.ref a :: st) h k n = (oLen (alen h a) (WP 17 G S f) 85 ls st h k n) := by rw [wp_s dd_17_84 rfl hs]; rfl
theorem dd_17_85 : decode (mB 17) 85 = .ok (.if_icmp .lt 20, 3) := by decide +kernel
theorem u_17_85 {G : aG} {S : Nat → Bool} {f : Nat} {st : List Value} {ls : aL} {h : aH} {k n : Nat} {x y : Int32} (hs : S 85 = false) : WP 17 G S (f + 1) 85 ls (.int y :: .int x :: st) h k n = (if x < y then WP 17 G S f 105 ls st h k n else WP 17 G S f 88 ls st h k n) := by rw [wp_s dd_17_85 rfl hs]; exact br_ite (c := x < y)
theorem dd_17_88 : decode (mB 17) 88 = .ok (.aload_n 0, 1) := by decide +kernel
theorem u_17_88 {G : aG} {S : Nat → Bool} {f : Nat} {st : List Value} {ls : aL} {h : aH} {k n : Nat} (hs : S 88 = false) : WP 17 G S (f + 1) 88 ls st h k n = (oA (lget ls 0) (WP 17 G S f) 89 ls st h k n) := by rw [wp_s dd_17_88 rfl hs]; rfl
theorem dd_17_89 : decode (mB 17) 89 = .ok (.aload_n 0, 1) := by decide +kernel
theorem u_17_89 {G : aG} {S : Nat → Bool} {f : Nat} {st : List Value} {ls : aL} {h : aH} {k n : Nat} (hs : S 89 = false) : WP 17 G S (f + 1) 89 ls st h k n = (oA (lget ls 0) (WP 17 G S f) 90 ls st h k n) := by rw [wp_s dd_17_89 rfl hs]; rfl
theorem dd_17_90 : decode (mB 17) 90 = .ok (.getfield 30, 3) := by decide +kernel
theorem u_17_90 {G : aG} {S : Nat → Bool} {f : Nat} {st : List Value} {ls : aL} {h : aH} {k n : Nat} {a : Nat} (hs : S 90 = false) : WP 17 G S (f + 1) 90 ls (.ref a :: st) h k n = (oV (fget h a 5 9) (WP 17 G S f) 93 ls st h k n) := by rw [wp_s dd_17_90 rfl hs]; rfl
theorem dd_17_93 : decode (mB 17) 93 = .ok (.iconst 2, 1) := by decide +kernel
theorem u_17_93 {G : aG} {S : Nat → Bool} {f : Nat} {st : List Value} {ls : aL} {h : aH} {k n : Nat} (hs : S 93 = false) : WP 17 G S (f + 1) 93 ls st h k n = (WP 17 G S f 94 ls (.int (nI 2) :: st) h k n) := by rw [wp_s dd_17_93 rfl hs]; rfl
theorem dd_17_94 : decode (mB 17) 94 = .ok (.aload_n 0, 1) := by decide +kernel
theorem u_17_94 {G : aG} {S : Nat → Bool} {f : Nat} {st : List Value} {ls : aL} {h : aH} {k n : Nat} (hs : S 94 = false) : WP 17 G S (f + 1) 94 ls st h k n = (oA (lget ls 0) (WP 17 G S f) 95 ls st h k n) := by rw [wp_s dd_17_94 rfl hs]; rfl
theorem dd_17_95 : decode (mB 17) 95 = .ok (.getfield 63, 3) := by decide +kernel
theorem u_17_95 {G : aG} {S : Nat → Bool} {f : Nat} {st : List Value} {ls : aL} {h : aH} {k n : Nat} {a : Nat} (hs : S 95 = false) : WP 17 G S (f + 1) 95 ls (.ref a :: st) h k n = (oV (fget h a 5 12) (WP 17 G S f) 98 ls st h k n) := by rw [wp_s dd_17_95 rfl hs]; rfl
theorem dd_17_98 : decode (mB 17) 98 = .ok (.imul, 1) := by decide +kernel
theorem u_17_98 {G : aG} {S : Nat → Bool} {f : Nat} {st : List Value} {ls : aL} {h : aH} {k n : Nat} {x y : Int32} (hs : S 98 = false) : WP 17 G S (f + 1) 98 ls (.int y :: .int x :: st) h k n = (WP 17 G S f 99 ls (.int (x * y) :: st) h k n) := by rw [wp_s dd_17_98 rfl hs]; rfl
theorem dd_17_99 : decode (mB 17) 99 = .ok (.invokestatic 86, 3) := by decide +kernel
theorem u_17_99 {G : aG} {S : Nat → Bool} {f : Nat} {st : List Value} {ls : aL} {h : aH} {k n : Nat} {v1 v2 : Value} (hs : S 99 = false) : WP 17 G S (f + 1) 99 ls (v2 :: v1 :: st) h k n = (CAL G (WP 17 G S f) 18 [v1, v2] 102 ls st h k n) := by rw [wp_s dd_17_99 rfl hs]; rfl
theorem dd_17_102 : decode (mB 17) 102 = .ok (.putfield 30, 3) := by decide +kernel
theorem u_17_102 {G : aG} {S : Nat → Bool} {f : Nat} {st : List Value} {ls : aL} {h : aH} {k n : Nat} {a : Nat} {x : Nat} (hs : S 102 = false) : WP 17 G S (f + 1) 102 ls (.ref x :: .ref a :: st) h k n = (oH (fput h a 5 9 (.ref x)) (WP 17 G S f) 105 ls st k n) := by rw [wp_s dd_17_102 rfl hs]; rfl
theorem dd_17_105 : decode (mB 17) 105 = .ok (.aload_n 0, 1) := by decide +kernel
theorem u_17_105 {G : aG} {S : Nat → Bool} {f : Nat} {st : List Value} {ls : aL} {h : aH} {k n : Nat} (hs : S 105 = false) : WP 17 G S (f + 1) 105 ls st h k n = (oA (lget ls 0) (WP 17 G S f) 106 ls st h k n) := by rw [wp_s dd_17_105 rfl hs]; rfl
theorem dd_17_106 : decode (mB 17) 106 = .ok (.getfield 30, 3) := by decide +kernel
theorem u_17_106 {G : aG} {S : Nat → Bool} {f : Nat} {st : List Value} {ls : aL} {h : aH} {k n : Nat} {a : Nat} (hs : S 106 = false) : WP 17 G S (f + 1) 106 ls (.ref a :: st) h k n = (oV (fget h a 5 9) (WP 17 G S f) 109 ls st h k n) := by rw [wp_s dd_17_106 rfl hs]; rfl
theorem dd_17_109 : decode (mB 17) 109 = .ok (.aload_n 0, 1) := by decide +kernel
theorem u_17_109 {G : aG} {S : Nat → Bool} {f : Nat} {st : List Value} {ls : aL} {h : aH} {k n : Nat} (hs : S 109 = false) : WP 17 G S (f + 1) 109 ls st h k n = (oA (lget ls 0) (WP 17 G S f) 110 ls st h k n) := by rw [wp_s dd_17_109 rfl hs]; rfl
theorem dd_17_110 : decode (mB 17) 110 = .ok (.getfield 63, 3) := by decide +kernel
theorem u_17_110 {G : aG} {S : Nat → Bool} {f : Nat} {st : List Value} {ls : aL} {h : aH} {k n : Nat} {a : Nat} (hs : S 110 = false) : WP 17 G S (f + 1) 110 ls (.ref a :: st) h k n = (oV (fget h a 5 12) (WP 17 G S f) 113 ls st h k n) := by rw [wp_s dd_17_110 rfl hs]; rfl
theorem dd_17_113 : decode (mB 17) 113 = .ok (.iload_n 3, 1) := by decide +kernel
theorem u_17_113 {G : aG} {S : Nat → Bool} {f : Nat} {st : List Value} {ls : aL} {h : aH} {k n : Nat} (hs : S 113 = false) : WP 17 G S (f + 1) 113 ls st h k n = (oI (lget ls 3) (WP 17 G S f) 114 ls st h k n) := by rw [wp_s dd_17_113 rfl hs]; rfl
theorem dd_17_114 : decode (mB 17) 114 = .ok (.iastore, 1) := by decide +kernel
theorem u_17_114 {G : aG} {S : Nat → Bool} {f : Nat} {st : List Value} {ls : aL} {h : aH} {k n : Nat} {i x : Int32} {a : Nat} (hs : S 114 = false) : WP 17 G S (f + 1) 114 ls (.int x :: .int i :: .ref a :: st) h k n = (oIst (iget h a 1) a i x (WP 17 G S f) 115 ls st h k n) := by rw [wp_s dd_17_114 rfl hs]; rfl
theorem dd_17_115 : decode (mB 17) 115 = .ok (.aload_n 0, 1) := by decide +kernel
theorem u_17_115 {G : aG} {S : Nat → Bool} {f : Nat} {st : List Value} {ls : aL} {h : aH} {k n : Nat} (hs : S 115 = false) : WP 17 G S (f + 1) 115 ls st h k n = (oA (lget ls 0) (WP 17 G S f) 116 ls st h k n) := by rw [wp_s dd_17_115 rfl hs]; rfl
theorem dd_17_116 : decode (mB 17) 116 = .ok (.dup, 1) := by decide +kernel
theorem u_17_116 {G : aG} {S : Nat → Bool} {f : Nat} {st : List Value} {ls : aL} {h : aH} {k n : Nat} {v : Value} (hs : S 116 = false) : WP 17 G S (f + 1) 116 ls (v :: st) h k n = (cond (cat1 v) (WP 17 G S f 117 ls (v :: v :: st) h k n) False) := by rw [wp_s dd_17_116 rfl hs]; rfl
theorem dd_17_117 : decode (mB 17) 117 = .ok (.getfield 63, 3) := by decide +kernel
theorem u_17_117 {G : aG} {S : Nat → Bool} {f : Nat} {st : List Value} {ls : aL} {h : aH} {k n : Nat} {a : Nat} (hs : S 117 = false) : WP 17 G S (f + 1) 117 ls (.ref a :: st) h k n = (oV (fget h a 5 12) (WP 17 G S f) 120 ls st h k n) := by rw [wp_s dd_17_117 rfl hs]; rfl
theorem dd_17_120 : decode (mB 17) 120 = .ok (.iconst 1, 1) := by decide +kernel
theorem u_17_120 {G : aG} {S : Nat → Bool} {f : Nat} {st : List Value} {ls : aL} {h : aH} {k n : Nat} (hs : S 120 = false) : WP 17 G S (f + 1) 120 ls st h k n = (WP 17 G S f 121 ls (.int (nI 1) :: st) h k n) := by rw [wp_s dd_17_120 rfl hs]; rfl
theorem dd_17_121 : decode (mB 17) 121 = .ok (.iadd, 1) := by decide +kernel
theorem u_17_121 {G : aG} {S : Nat → Bool} {f : Nat} {st : List Value} {ls : aL} {h : aH} {k n : Nat} {x y : Int32} (hs : S 121 = false) : WP 17 G S (f + 1) 121 ls (.int y :: .int x :: st) h k n = (WP 17 G S f 122 ls (.int (x + y) :: st) h k n) := by rw [wp_s dd_17_121 rfl hs]; rfl
theorem dd_17_122 : decode (mB 17) 122 = .ok (.putfield 63, 3) := by decide +kernel
theorem u_17_122 {G : aG} {S : Nat → Bool} {f : Nat} {st : List Value} {ls : aL} {h : aH} {k n : Nat} {a : Nat} {x : Int32} (hs : S 122 = false) : WP 17 G S (f + 1) 122 ls (.int x :: .ref a :: st) h k n = (oH (fput h a 5 12 (.int x)) (WP 17 G S f) 125 ls st k n) := by rw [wp_s dd_17_122 rfl hs]; rfl
theorem dd_17_125 : decode (mB 17) 125 = .ok (.aload_n 0, 1) := by decide +kernel
theorem u_17_125 {G : aG} {S : Nat → Bool} {f : Nat} {st : List Value} {ls : aL} {h : aH} {k n : Nat} (hs : S 125 = false) : WP 17 G S (f + 1) 125 ls st h k n = (oA (lget ls 0) (WP 17 G S f) 126 ls st h k n) := by rw [wp_s dd_17_125 rfl hs]; rfl
theorem dd_17_126 : decode (mB 17) 126 = .ok (.getfield 27, 3) := by decide +kernel
theorem u_17_126 {G : aG} {S : Nat → Bool} {f : Nat} {st : List Value} {ls : aL} {h : aH} {k n : Nat} {a : Nat} (hs : S 126 = false) : WP 17 G S (f + 1) 126 ls (.ref a :: st) h k n = (oV (fget h a 5 8) (WP 17 G S f) 129 ls st h k n) := by rw [wp_s dd_17_126 rfl hs]; rfl
theorem dd_17_129 : decode (mB 17) 129 = .ok (.aload_n 0, 1) := by decide +kernel
theorem u_17_129 {G : aG} {S : Nat → Bool} {f : Nat} {st : List Value} {ls : aL} {h : aH} {k n : Nat} (hs : S 129 = false) : WP 17 G S (f + 1) 129 ls st h k n = (oA (lget ls 0) (WP 17 G S f) 130 ls st h k n) := by rw [wp_s dd_17_129 rfl hs]; rfl
theorem dd_17_130 : decode (mB 17) 130 = .ok (.getfield 66, 3) := by decide +kernel
theorem u_17_130 {G : aG} {S : Nat → Bool} {f : Nat} {st : List Value} {ls : aL} {h : aH} {k n : Nat} {a : Nat} (hs : S 130 = false) : WP 17 G S (f + 1) 130 ls (.ref a :: st) h k n = (oV (fget h a 5 13) (WP 17 G S f) 133 ls st h k n) := by rw [wp_s dd_17_130 rfl hs]; rfl
theorem dd_17_133 : decode (mB 17) 133 = .ok (.dup2, 1) := by decide +kernel
theorem u_17_133 {G : aG} {S : Nat → Bool} {f : Nat} {st : List Value} {ls : aL} {h : aH} {k n : Nat} {v v2 : Value} (hs : S 133 = false) : WP 17 G S (f + 1) 133 ls (v :: v2 :: st) h k n = (cond (cat1 v && cat1 v2) (WP 17 G S f 134 ls (v :: v2 :: v :: v2 :: st) h k n) False) := by rw [wp_s dd_17_133 rfl hs]; rfl
theorem dd_17_134 : decode (mB 17) 134 = .ok (.iaload, 1) := by decide +kernel
theorem u_17_134 {G : aG} {S : Nat → Bool} {f : Nat} {st : List Value} {ls : aL} {h : aH} {k n : Nat} {i : Int32} {a : Nat} (hs : S 134 = false) : WP 17 G S (f + 1) 134 ls (.int i :: .ref a :: st) h k n = (oIld (iget h a 1) i (WP 17 G S f) 135 ls st h k n) := by rw [wp_s dd_17_134 rfl hs]; rfl
theorem dd_17_135 : decode (mB 17) 135 = .ok (.iconst 1, 1) := by decide +kernel
theorem u_17_135 {G : aG} {S : Nat → Bool} {f : Nat} {st : List Value} {ls : aL} {h : aH} {k n : Nat} (hs : S 135 = false) : WP 17 G S (f + 1) 135 ls st h k n = (WP 17 G S f 136 ls (.int (nI 1) :: st) h k n) := by rw [wp_s dd_17_135 rfl hs]; rfl
theorem dd_17_136 : decode (mB 17) 136 = .ok (.iload_n 1, 1) := by decide +kernel
theorem u_17_136 {G : aG} {S : Nat → Bool} {f : Nat} {st : List Value} {ls : aL} {h : aH} {k n : Nat} (hs : S 136 = false) : WP 17 G S (f + 1) 136 ls st h k n = (oI (lget ls 1) (WP 17 G S f) 137 ls st h k n) := by rw [wp_s dd_17_136 rfl hs]; rfl
theorem dd_17_137 : decode (mB 17) 137 = .ok (.ishl, 1) := by decide +kernel
theorem u_17_137 {G : aG} {S : Nat → Bool} {f : Nat} {st : List Value} {ls : aL} {h : aH} {k n : Nat} {x y : Int32} (hs : S 137 = false) : WP 17 G S (f + 1) 137 ls (.int y :: .int x :: st) h k n = (WP 17 G S f 138 ls (.int (x <<< (y &&& 31)) :: st) h k n) := by rw [wp_s dd_17_137 rfl hs]; rfl
theorem dd_17_138 : decode (mB 17) 138 = .ok (.ior, 1) := by decide +kernel
theorem u_17_138 {G : aG} {S : Nat → Bool} {f : Nat} {st : List Value} {ls : aL} {h : aH} {k n : Nat} {x y : Int32} (hs : S 138 = false) : WP 17 G S (f + 1) 138 ls (.int y :: .int x :: st) h k n = (WP 17 G S f 139 ls (.int (x ||| y) :: st) h k n) := by rw [wp_s dd_17_138 rfl hs]; rfl
theorem dd_17_139 : decode (mB 17) 139 = .ok (.iastore, 1) := by decide +kernel
theorem u_17_139 {G : aG} {S : Nat → Bool} {f : Nat} {st : List Value} {ls : aL} {h : aH} {k n : Nat} {i x : Int32} {a : Nat} (hs : S 139 = false) : WP 17 G S (f + 1) 139 ls (.int x :: .int i :: .ref a :: st) h k n = (oIst (iget h a 1) a i x (WP 17 G S f) 140 ls st h k n) := by rw [wp_s dd_17_139 rfl hs]; rfl
theorem dd_17_140 : decode (mB 17) 140 = .ok (.aload_n 0, 1) := by decide +kernel
theorem u_17_140 {G : aG} {S : Nat → Bool} {f : Nat} {st : List Value} {ls : aL} {h : aH} {k n : Nat} (hs : S 140 = false) : WP 17 G S (f + 1) 140 ls st h k n = (oA (lget ls 0) (WP 17 G S f) 141 ls st h k n) := by rw [wp_s dd_17_140 rfl hs]; rfl
theorem dd_17_141 : decode (mB 17) 141 = .ok (.getfield 27, 3) := by decide +kernel
theorem u_17_141 {G : aG} {S : Nat → Bool} {f : Nat} {st : List Value} {ls : aL} {h : aH} {k n : Nat} {a : Nat} (hs : S 141 = false) : WP 17 G S (f + 1) 141 ls (.ref a :: st) h k n = (oV (fget h a 5 8) (WP 17 G S f) 144 ls st h k n) := by rw [wp_s dd_17_141 rfl hs]; rfl
theorem dd_17_144 : decode (mB 17) 144 = .ok (.iload_n 2, 1) := by decide +kernel
theorem u_17_144 {G : aG} {S : Nat → Bool} {f : Nat} {st : List Value} {ls : aL} {h : aH} {k n : Nat} (hs : S 144 = false) : WP 17 G S (f + 1) 144 ls st h k n = (oI (lget ls 2) (WP 17 G S f) 145 ls st h k n) := by rw [wp_s dd_17_144 rfl hs]; rfl
theorem dd_17_145 : decode (mB 17) 145 = .ok (.iaload, 1) := by decide +kernel
theorem u_17_145 {G : aG} {S : Nat → Bool} {f : Nat} {st : List Value} {ls : aL} {h : aH} {k n : Nat} {i : Int32} {a : Nat} (hs : S 145 = false) : WP 17 G S (f + 1) 145 ls (.int i :: .ref a :: st) h k n = (oIld (iget h a 1) i (WP 17 G S f) 146 ls st h k n) := by rw [wp_s dd_17_145 rfl hs]; rfl
theorem dd_17_146 : decode (mB 17) 146 = .ok (.sipush 256, 3) := by decide +kernel
theorem u_17_146 {G : aG} {S : Nat → Bool} {f : Nat} {st : List Value} {ls : aL} {h : aH} {k n : Nat} (hs : S 146 = false) : WP 17 G S (f + 1) 146 ls st h k n = (WP 17 G S f 149 ls (.int (nI 256) :: st) h k n) := by rw [wp_s dd_17_146 rfl hs]; rfl
theorem dd_17_149 : decode (mB 17) 149 = .ok (.iand, 1) := by decide +kernel
theorem u_17_149 {G : aG} {S : Nat → Bool} {f : Nat} {st : List Value} {ls : aL} {h : aH} {k n : Nat} {x y : Int32} (hs : S 149 = false) : WP 17 G S (f + 1) 149 ls (.int y :: .int x :: st) h k n = (WP 17 G S f 150 ls (.int (x &&& y) :: st) h k n) := by rw [wp_s dd_17_149 rfl hs]; rfl
theorem dd_17_150 : decode (mB 17) 150 = .ok (.ifCond .eq 21, 3) := by decide +kernel
theorem u_17_150 {G : aG} {S : Nat → Bool} {f : Nat} {st : List Value} {ls : aL} {h : aH} {k n : Nat} {x : Int32} (hs : S 150 = false) : WP 17 G S (f + 1) 150 ls (.int x :: st) h k n = (if x = nI 0 then WP 17 G S f 171 ls st h k n else WP 17 G S f 153 ls st h k n) := by rw [wp_s dd_17_150 rfl hs]; exact br_ite (c := x = nI 0)
theorem dd_17_153 : decode (mB 17) 153 = .ok (.aload_n 0, 1) := by decide +kernel
theorem u_17_153 {G : aG} {S : Nat → Bool} {f : Nat} {st : List Value} {ls : aL} {h : aH} {k n : Nat} (hs : S 153 = false) : WP 17 G S (f + 1) 153 ls st h k n = (oA (lget ls 0) (WP 17 G S f) 154 ls st h k n) := by rw [wp_s dd_17_153 rfl hs]; rfl
theorem dd_17_154 : decode (mB 17) 154 = .ok (.getfield 27, 3) := by decide +kernel
theorem u_17_154 {G : aG} {S : Nat → Bool} {f : Nat} {st : List Value} {ls : aL} {h : aH} {k n : Nat} {a : Nat} (hs : S 154 = false) : WP 17 G S (f + 1) 154 ls (.ref a :: st) h k n = (oV (fget h a 5 8) (WP 17 G S f) 157 ls st h k n) := by rw [wp_s dd_17_154 rfl hs]; rfl
theorem dd_17_157 : decode (mB 17) 157 = .ok (.aload_n 0, 1) := by decide +kernel
theorem u_17_157 {G : aG} {S : Nat → Bool} {f : Nat} {st : List Value} {ls : aL} {h : aH} {k n : Nat} (hs : S 157 = false) : WP 17 G S (f + 1) 157 ls st h k n = (oA (lget ls 0) (WP 17 G S f) 158 ls st h k n) := by rw [wp_s dd_17_157 rfl hs]; rfl
theorem dd_17_158 : decode (mB 17) 158 = .ok (.getfield 66, 3) := by decide +kernel
theorem u_17_158 {G : aG} {S : Nat → Bool} {f : Nat} {st : List Value} {ls : aL} {h : aH} {k n : Nat} {a : Nat} (hs : S 158 = false) : WP 17 G S (f + 1) 158 ls (.ref a :: st) h k n = (oV (fget h a 5 13) (WP 17 G S f) 161 ls st h k n) := by rw [wp_s dd_17_158 rfl hs]; rfl
theorem dd_17_161 : decode (mB 17) 161 = .ok (.dup2, 1) := by decide +kernel
theorem u_17_161 {G : aG} {S : Nat → Bool} {f : Nat} {st : List Value} {ls : aL} {h : aH} {k n : Nat} {v v2 : Value} (hs : S 161 = false) : WP 17 G S (f + 1) 161 ls (v :: v2 :: st) h k n = (cond (cat1 v && cat1 v2) (WP 17 G S f 162 ls (v :: v2 :: v :: v2 :: st) h k n) False) := by rw [wp_s dd_17_161 rfl hs]; rfl
theorem dd_17_162 : decode (mB 17) 162 = .ok (.iaload, 1) := by decide +kernel
theorem u_17_162 {G : aG} {S : Nat → Bool} {f : Nat} {st : List Value} {ls : aL} {h : aH} {k n : Nat} {i : Int32} {a : Nat} (hs : S 162 = false) : WP 17 G S (f + 1) 162 ls (.int i :: .ref a :: st) h k n = (oIld (iget h a 1) i (WP 17 G S f) 163 ls st h k n) := by rw [wp_s dd_17_162 rfl hs]; rfl
theorem dd_17_163 : decode (mB 17) 163 = .ok (.iconst 1, 1) := by decide +kernel
theorem u_17_163 {G : aG} {S : Nat → Bool} {f : Nat} {st : List Value} {ls : aL} {h : aH} {k n : Nat} (hs : S 163 = false) : WP 17 G S (f + 1) 163 ls st h k n = (WP 17 G S f 164 ls (.int (nI 1) :: st) h k n) := by rw [wp_s dd_17_163 rfl hs]; rfl
theorem dd_17_164 : decode (mB 17) 164 = .ok (.bipush 9, 2) := by decide +kernel
theorem u_17_164 {G : aG} {S : Nat → Bool} {f : Nat} {st : List Value} {ls : aL} {h : aH} {k n : Nat} (hs : S 164 = false) : WP 17 G S (f + 1) 164 ls st h k n = (WP 17 G S f 166 ls (.int (nI 9) :: st) h k n) := by rw [wp_s dd_17_164 rfl hs]; rfl
theorem dd_17_166 : decode (mB 17) 166 = .ok (.iload_n 1, 1) := by decide +kernel
theorem u_17_166 {G : aG} {S : Nat → Bool} {f : Nat} {st : List Value} {ls : aL} {h : aH} {k n : Nat} (hs : S 166 = false) : WP 17 G S (f + 1) 166 ls st h k n = (oI (lget ls 1) (WP 17 G S f) 167 ls st h k n) := by rw [wp_s dd_17_166 rfl hs]; rfl
theorem dd_17_167 : decode (mB 17) 167 = .ok (.iadd, 1) := by decide +kernel
theorem u_17_167 {G : aG} {S : Nat → Bool} {f : Nat} {st : List Value} {ls : aL} {h : aH} {k n : Nat} {x y : Int32} (hs : S 167 = false) : WP 17 G S (f + 1) 167 ls (.int y :: .int x :: st) h k n = (WP 17 G S f 168 ls (.int (x + y) :: st) h k n) := by rw [wp_s dd_17_167 rfl hs]; rfl
theorem dd_17_168 : decode (mB 17) 168 = .ok (.ishl, 1) := by decide +kernel
theorem u_17_168 {G : aG} {S : Nat → Bool} {f : Nat} {st : List Value} {ls : aL} {h : aH} {k n : Nat} {x y : Int32} (hs : S 168 = false) : WP 17 G S (f + 1) 168 ls (.int y :: .int x :: st) h k n = (WP 17 G S f 169 ls (.int (x <<< (y &&& 31)) :: st) h k n) := by rw [wp_s dd_17_168 rfl hs]; rfl
theorem dd_17_169 : decode (mB 17) 169 = .ok (.ior, 1) := by decide +kernel
theorem u_17_169 {G : aG} {S : Nat → Bool} {f : Nat} {st : List Value} {ls : aL} {h : aH} {k n : Nat} {x y : Int32} (hs : S 169 = false) : WP 17 G S (f + 1) 169 ls (.int y :: .int x :: st) h k n = (WP 17 G S f 170 ls (.int (x ||| y) :: st) h k n) := by rw [wp_s dd_17_169 rfl hs]; rfl
theorem dd_17_170 : decode (mB 17) 170 = .ok (.iastore, 1) := by decide +kernel
theorem u_17_170 {G : aG} {S : Nat → Bool} {f : Nat} {st : List Value} {ls : aL} {h : aH} {k n : Nat} {i x : Int32} {a : Nat} (hs : S 170 = false) : WP 17 G S (f + 1) 170 ls (.int x :: .int i :: .ref a :: st) h k n = (oIst (iget h a 1) a i x (WP 17 G S f) 171 ls st h k n) := by rw [wp_s dd_17_170 rfl hs]; rfl
theorem dd_17_171 : decode (mB 17) 171 = .ok (.return_, 1) := by decide +kernel
theorem u_17_171 {G : aG} {S : Nat → Bool} {f : Nat} {ls : aL} {h : aH} {k n : Nat} (hs : S 171 = false) : WP 17 G S (f + 1) 171 ls [] h k n = (RET G none h k n) := by rw [wp_s dd_17_171 rfl hs]; rfl
theorem dd_19_0 : decode (mB 19) 0 = .ok (.iload_n 1, 1) := by decide +kernel
theorem u_19_0 {G : aG} {S : Nat → Bool} {f : Nat} {st : List Value} {ls : aL} {h : aH} {k n : Nat} (hs : S 0 = false) : WP 19 G S (f + 1) 0 ls st h k n = (oI (lget ls 1) (WP 19 G S f) 1 ls st h k n) := by rw [wp_s dd_19_0 rfl hs]; rfl
theorem dd_19_1 : decode (mB 19) 1 = .ok (.iconst 1, 1) := by decide +kernel
theorem u_19_1 {G : aG} {S : Nat → Bool} {f : Nat} {st : List Value} {ls : aL} {h : aH} {k n : Nat} (hs : S 1 = false) : WP 19 G S (f + 1) 1 ls st h k n = (WP 19 G S f 2 ls (.int (nI 1) :: st) h k n) := by rw [wp_s dd_19_1 rfl hs]; rfl
theorem dd_19_2 : decode (mB 19) 2 = .ok (.isub, 1) := by decide +kernel
theorem u_19_2 {G : aG} {S : Nat → Bool} {f : Nat} {st : List Value} {ls : aL} {h : aH} {k n : Nat} {x y : Int32} (hs : S 2 = false) : WP 19 G S (f + 1) 2 ls (.int y :: .int x :: st) h k n = (WP 19 G S f 3 ls (.int (x - y) :: st) h k n) := by rw [wp_s dd_19_2 rfl hs]; rfl
theorem dd_19_3 : decode (mB 19) 3 = .ok (.istore 5, 2) := by decide +kernel
theorem u_19_3 {G : aG} {S : Nat → Bool} {f : Nat} {st : List Value} {ls : aL} {h : aH} {k n : Nat} {x : Int32} (hs : S 3 = false) : WP 19 G S (f + 1) 3 ls (.int x :: st) h k n = (WP 19 G S f 5 (lput1 ls 5 (.int x)) st h k n) := by rw [wp_s dd_19_3 rfl hs]; rfl
theorem dd_19_5 : decode (mB 19) 5 = .ok (.aload_n 0, 1) := by decide +kernel
theorem u_19_5 {G : aG} {S : Nat → Bool} {f : Nat} {st : List Value} {ls : aL} {h : aH} {k n : Nat} (hs : S 5 = false) : WP 19 G S (f + 1) 5 ls st h k n = (oA (lget ls 0) (WP 19 G S f) 6 ls st h k n) := by rw [wp_s dd_19_5 rfl hs]; rfl
theorem dd_19_6 : decode (mB 19) 6 = .ok (.iload 5, 2) := by decide +kernel
theorem u_19_6 {G : aG} {S : Nat → Bool} {f : Nat} {st : List Value} {ls : aL} {h : aH} {k n : Nat} (hs : S 6 = false) : WP 19 G S (f + 1) 6 ls st h k n = (oI (lget ls 5) (WP 19 G S f) 8 ls st h k n) := by rw [wp_s dd_19_6 rfl hs]; rfl
theorem dd_19_8 : decode (mB 19) 8 = .ok (.iload_n 2, 1) := by decide +kernel
theorem u_19_8 {G : aG} {S : Nat → Bool} {f : Nat} {st : List Value} {ls : aL} {h : aH} {k n : Nat} (hs : S 8 = false) : WP 19 G S (f + 1) 8 ls st h k n = (oI (lget ls 2) (WP 19 G S f) 9 ls st h k n) := by rw [wp_s dd_19_8 rfl hs]; rfl
theorem dd_19_9 : decode (mB 19) 9 = .ok (.iload_n 3, 1) := by decide +kernel
theorem u_19_9 {G : aG} {S : Nat → Bool} {f : Nat} {st : List Value} {ls : aL} {h : aH} {k n : Nat} (hs : S 9 = false) : WP 19 G S (f + 1) 9 ls st h k n = (oI (lget ls 3) (WP 19 G S f) 10 ls st h k n) := by rw [wp_s dd_19_9 rfl hs]; rfl
theorem dd_19_10 : decode (mB 19) 10 = .ok (.iload 4, 2) := by decide +kernel
theorem u_19_10 {G : aG} {S : Nat → Bool} {f : Nat} {st : List Value} {ls : aL} {h : aH} {k n : Nat} (hs : S 10 = false) : WP 19 G S (f + 1) 10 ls st h k n = (oI (lget ls 4) (WP 19 G S f) 12 ls st h k n) := by rw [wp_s dd_19_10 rfl hs]; rfl
theorem dd_19_12 : decode (mB 19) 12 = .ok (.invokevirtual 69, 3) := by decide +kernel
theorem u_19_12 {G : aG} {S : Nat → Bool} {f : Nat} {st : List Value} {ls : aL} {h : aH} {k n : Nat} {v1 v2 v3 v4 : Value} {b : Nat} (hs : S 12 = false) : WP 19 G S (f + 1) 12 ls (v4 :: v3 :: v2 :: v1 :: .ref b :: st) h k n = (rcv (hget h b) 5 ∧ CAL G (WP 19 G S f) 16 [.ref b, v1, v2, v3, v4] 15 ls st h k n) := by rw [wp_s dd_19_12 rfl hs]; rfl
theorem dd_19_15 : decode (mB 19) 15 = .ok (.aload_n 0, 1) := by decide +kernel
theorem u_19_15 {G : aG} {S : Nat → Bool} {f : Nat} {st : List Value} {ls : aL} {h : aH} {k n : Nat} (hs : S 15 = false) : WP 19 G S (f + 1) 15 ls st h k n = (oA (lget ls 0) (WP 19 G S f) 16 ls st h k n) := by rw [wp_s dd_19_15 rfl hs]; rfl
theorem dd_19_16 : decode (mB 19) 16 = .ok (.getfield 9, 3) := by decide +kernel
theorem u_19_16 {G : aG} {S : Nat → Bool} {f : Nat} {st : List Value} {ls : aL} {h : aH} {k n : Nat} {a : Nat} (hs : S 16 = false) : WP 19 G S (f + 1) 16 ls (.ref a :: st) h k n = (oV (fget h a 5 0) (WP 19 G S f) 19 ls st h k n) := by rw [wp_s dd_19_16 rfl hs]; rfl
theorem dd_19_19 : decode (mB 19) 19 = .ok (.iload_n 1, 1) := by decide +kernel
theorem u_19_19 {G : aG} {S : Nat → Bool} {f : Nat} {st : List Value} {ls : aL} {h : aH} {k n : Nat} (hs : S 19 = false) : WP 19 G S (f + 1) 19 ls st h k n = (oI (lget ls 1) (WP 19 G S f) 20 ls st h k n) := by rw [wp_s dd_19_19 rfl hs]; rfl
theorem dd_19_20 : decode (mB 19) 20 = .ok (.iaload, 1) := by decide +kernel
theorem u_19_20 {G : aG} {S : Nat → Bool} {f : Nat} {st : List Value} {ls : aL} {h : aH} {k n : Nat} {i : Int32} {a : Nat} (hs : S 20 = false) : WP 19 G S (f + 1) 20 ls (.int i :: .ref a :: st) h k n = (oIld (iget h a 1) i (WP 19 G S f) 21 ls st h k n) := by rw [wp_s dd_19_20 rfl hs]; rfl
theorem dd_19_21 : decode (mB 19) 21 = .ok (.bipush 13, 2) := by decide +kernel
theorem u_19_21 {G : aG} {S : Nat → Bool} {f : Nat} {st : List Value} {ls : aL} {h : aH} {k n : Nat} (hs : S 21 = false) : WP 19 G S (f + 1) 21 ls st h k n = (WP 19 G S f 23 ls (.int (nI 13) :: st) h k n) := by rw [wp_s dd_19_21 rfl hs]; rfl
theorem dd_19_23 : decode (mB 19) 23 = .ok (.if_icmp .eq 27, 3) := by decide +kernel
theorem u_19_23 {G : aG} {S : Nat → Bool} {f : Nat} {st : List Value} {ls : aL} {h : aH} {k n : Nat} {x y : Int32} (hs : S 23 = false) : WP 19 G S (f + 1) 23 ls (.int y :: .int x :: st) h k n = (if x = y then WP 19 G S f 50 ls st h k n else WP 19 G S f 26 ls st h k n) := by rw [wp_s dd_19_23 rfl hs]; exact br_ite (c := x = y)
theorem dd_19_26 : decode (mB 19) 26 = .ok (.iload_n 2, 1) := by decide +kernel
theorem u_19_26 {G : aG} {S : Nat → Bool} {f : Nat} {st : List Value} {ls : aL} {h : aH} {k n : Nat} (hs : S 26 = false) : WP 19 G S (f + 1) 26 ls st h k n = (oI (lget ls 2) (WP 19 G S f) 27 ls st h k n) := by rw [wp_s dd_19_26 rfl hs]; rfl
theorem dd_19_27 : decode (mB 19) 27 = .ok (.ifCond .eq 23, 3) := by decide +kernel
theorem u_19_27 {G : aG} {S : Nat → Bool} {f : Nat} {st : List Value} {ls : aL} {h : aH} {k n : Nat} {x : Int32} (hs : S 27 = false) : WP 19 G S (f + 1) 27 ls (.int x :: st) h k n = (if x = nI 0 then WP 19 G S f 50 ls st h k n else WP 19 G S f 30 ls st h k n) := by rw [wp_s dd_19_27 rfl hs]; exact br_ite (c := x = nI 0)
theorem dd_19_30 : decode (mB 19) 30 = .ok (.aload_n 0, 1) := by decide +kernel
theorem u_19_30 {G : aG} {S : Nat → Bool} {f : Nat} {st : List Value} {ls : aL} {h : aH} {k n : Nat} (hs : S 30 = false) : WP 19 G S (f + 1) 30 ls st h k n = (oA (lget ls 0) (WP 19 G S f) 31 ls st h k n) := by rw [wp_s dd_19_30 rfl hs]; rfl
theorem dd_19_31 : decode (mB 19) 31 = .ok (.iload 5, 2) := by decide +kernel
theorem u_19_31 {G : aG} {S : Nat → Bool} {f : Nat} {st : List Value} {ls : aL} {h : aH} {k n : Nat} (hs : S 31 = false) : WP 19 G S (f + 1) 31 ls st h k n = (oI (lget ls 5) (WP 19 G S f) 33 ls st h k n) := by rw [wp_s dd_19_31 rfl hs]; rfl
theorem dd_19_33 : decode (mB 19) 33 = .ok (.iload_n 2, 1) := by decide +kernel
theorem u_19_33 {G : aG} {S : Nat → Bool} {f : Nat} {st : List Value} {ls : aL} {h : aH} {k n : Nat} (hs : S 33 = false) : WP 19 G S (f + 1) 33 ls st h k n = (oI (lget ls 2) (WP 19 G S f) 34 ls st h k n) := by rw [wp_s dd_19_33 rfl hs]; rfl
theorem dd_19_34 : decode (mB 19) 34 = .ok (.invokevirtual 59, 3) := by decide +kernel
theorem u_19_34 {G : aG} {S : Nat → Bool} {f : Nat} {st : List Value} {ls : aL} {h : aH} {k n : Nat} {v1 v2 : Value} {b : Nat} (hs : S 34 = false) : WP 19 G S (f + 1) 34 ls (v2 :: v1 :: .ref b :: st) h k n = (rcv (hget h b) 5 ∧ CAL G (WP 19 G S f) 14 [.ref b, v1, v2] 37 ls st h k n) := by rw [wp_s dd_19_34 rfl hs]; rfl
theorem dd_19_37 : decode (mB 19) 37 = .ok (.ifCond .eq 13, 3) := by decide +kernel
theorem u_19_37 {G : aG} {S : Nat → Bool} {f : Nat} {st : List Value} {ls : aL} {h : aH} {k n : Nat} {x : Int32} (hs : S 37 = false) : WP 19 G S (f + 1) 37 ls (.int x :: st) h k n = (if x = nI 0 then WP 19 G S f 50 ls st h k n else WP 19 G S f 40 ls st h k n) := by rw [wp_s dd_19_37 rfl hs]; exact br_ite (c := x = nI 0)
theorem dd_19_40 : decode (mB 19) 40 = .ok (.aload_n 0, 1) := by decide +kernel
theorem u_19_40 {G : aG} {S : Nat → Bool} {f : Nat} {st : List Value} {ls : aL} {h : aH} {k n : Nat} (hs : S 40 = false) : WP 19 G S (f + 1) 40 ls st h k n = (oA (lget ls 0) (WP 19 G S f) 41 ls st h k n) := by rw [wp_s dd_19_40 rfl hs]; rfl
theorem dd_19_41 : decode (mB 19) 41 = .ok (.iload 5, 2) := by decide +kernel
theorem u_19_41 {G : aG} {S : Nat → Bool} {f : Nat} {st : List Value} {ls : aL} {h : aH} {k n : Nat} (hs : S 41 = false) : WP 19 G S (f + 1) 41 ls st h k n = (oI (lget ls 5) (WP 19 G S f) 43 ls st h k n) := by rw [wp_s dd_19_41 rfl hs]; rfl
theorem dd_19_43 : decode (mB 19) 43 = .ok (.iconst 0, 1) := by decide +kernel
theorem u_19_43 {G : aG} {S : Nat → Bool} {f : Nat} {st : List Value} {ls : aL} {h : aH} {k n : Nat} (hs : S 43 = false) : WP 19 G S (f + 1) 43 ls st h k n = (WP 19 G S f 44 ls (.int (nI 0) :: st) h k n) := by rw [wp_s dd_19_43 rfl hs]; rfl
theorem dd_19_44 : decode (mB 19) 44 = .ok (.iload_n 3, 1) := by decide +kernel
theorem u_19_44 {G : aG} {S : Nat → Bool} {f : Nat} {st : List Value} {ls : aL} {h : aH} {k n : Nat} (hs : S 44 = false) : WP 19 G S (f + 1) 44 ls st h k n = (oI (lget ls 3) (WP 19 G S f) 45 ls st h k n) := by rw [wp_s dd_19_44 rfl hs]; rfl
theorem dd_19_45 : decode (mB 19) 45 = .ok (.iload 4, 2) := by decide +kernel
theorem u_19_45 {G : aG} {S : Nat → Bool} {f : Nat} {st : List Value} {ls : aL} {h : aH} {k n : Nat} (hs : S 45 = false) : WP 19 G S (f + 1) 45 ls st h k n = (oI (lget ls 4) (WP 19 G S f) 47 ls st h k n) := by rw [wp_s dd_19_45 rfl hs]; rfl
theorem dd_19_47 : decode (mB 19) 47 = .ok (.invokevirtual 69, 3) := by decide +kernel
theorem u_19_47 {G : aG} {S : Nat → Bool} {f : Nat} {st : List Value} {ls : aL} {h : aH} {k n : Nat} {v1 v2 v3 v4 : Value} {b : Nat} (hs : S 47 = false) : WP 19 G S (f + 1) 47 ls (v4 :: v3 :: v2 :: v1 :: .ref b :: st) h k n = (rcv (hget h b) 5 ∧ CAL G (WP 19 G S f) 16 [.ref b, v1, v2, v3, v4] 50 ls st h k n) := by rw [wp_s dd_19_47 rfl hs]; rfl
theorem dd_19_50 : decode (mB 19) 50 = .ok (.return_, 1) := by decide +kernel
theorem u_19_50 {G : aG} {S : Nat → Bool} {f : Nat} {ls : aL} {h : aH} {k n : Nat} (hs : S 50 = false) : WP 19 G S (f + 1) 50 ls [] h k n = (RET G none h k n) := by rw [wp_s dd_19_50 rfl hs]; rfl
theorem dd_20_0 : decode (mB 20) 0 = .ok (.iload_n 1, 1) := by decide +kernel
theorem u_20_0 {G : aG} {S : Nat → Bool} {f : Nat} {st : List Value} {ls : aL} {h : aH} {k n : Nat} (hs : S 0 = false) : WP 20 G S (f + 1) 0 ls st h k n = (oI (lget ls 1) (WP 20 G S f) 1 ls st h k n) := by rw [wp_s dd_20_0 rfl hs]; rfl
theorem dd_20_1 : decode (mB 20) 1 = .ok (.iconst 1, 1) := by decide +kernel
theorem u_20_1 {G : aG} {S : Nat → Bool} {f : Nat} {st : List Value} {ls : aL} {h : aH} {k n : Nat} (hs : S 1 = false) : WP 20 G S (f + 1) 1 ls st h k n = (WP 20 G S f 2 ls (.int (nI 1) :: st) h k n) := by rw [wp_s dd_20_1 rfl hs]; rfl
theorem dd_20_2 : decode (mB 20) 2 = .ok (.isub, 1) := by decide +kernel
theorem u_20_2 {G : aG} {S : Nat → Bool} {f : Nat} {st : List Value} {ls : aL} {h : aH} {k n : Nat} {x y : Int32} (hs : S 2 = false) : WP 20 G S (f + 1) 2 ls (.int y :: .int x :: st) h k n = (WP 20 G S f 3 ls (.int (x - y) :: st) h k n) := by rw [wp_s dd_20_2 rfl hs]; rfl
theorem dd_20_3 : decode (mB 20) 3 = .ok (.istore 5, 2) := by decide +kernel
theorem u_20_3 {G : aG} {S : Nat → Bool} {f : Nat} {st : List Value} {ls : aL} {h : aH} {k n : Nat} {x : Int32} (hs : S 3 = false) : WP 20 G S (f + 1) 3 ls (.int x :: st) h k n = (WP 20 G S f 5 (lput1 ls 5 (.int x)) st h k n) := by rw [wp_s dd_20_3 rfl hs]; rfl
theorem dd_20_5 : decode (mB 20) 5 = .ok (.iload 5, 2) := by decide +kernel
theorem u_20_5 {G : aG} {S : Nat → Bool} {f : Nat} {st : List Value} {ls : aL} {h : aH} {k n : Nat} (hs : S 5 = false) : WP 20 G S (f + 1) 5 ls st h k n = (oI (lget ls 5) (WP 20 G S f) 7 ls st h k n) := by rw [wp_s dd_20_5 rfl hs]; rfl
theorem dd_20_7 : decode (mB 20) 7 = .ok (.ifCond .lt 13, 3) := by decide +kernel
theorem u_20_7 {G : aG} {S : Nat → Bool} {f : Nat} {st : List Value} {ls : aL} {h : aH} {k n : Nat} {x : Int32} (hs : S 7 = false) : WP 20 G S (f + 1) 7 ls (.int x :: st) h k n = (if x < nI 0 then WP 20 G S f 20 ls st h k n else WP 20 G S f 10 ls st h k n) := by rw [wp_s dd_20_7 rfl hs]; exact br_ite (c := x < nI 0)
theorem dd_20_10 : decode (mB 20) 10 = .ok (.aload_n 0, 1) := by decide +kernel
theorem u_20_10 {G : aG} {S : Nat → Bool} {f : Nat} {st : List Value} {ls : aL} {h : aH} {k n : Nat} (hs : S 10 = false) : WP 20 G S (f + 1) 10 ls st h k n = (oA (lget ls 0) (WP 20 G S f) 11 ls st h k n) := by rw [wp_s dd_20_10 rfl hs]; rfl
theorem dd_20_11 : decode (mB 20) 11 = .ok (.getfield 21, 3) := by decide +kernel
theorem u_20_11 {G : aG} {S : Nat → Bool} {f : Nat} {st : List Value} {ls : aL} {h : aH} {k n : Nat} {a : Nat} (hs : S 11 = false) : WP 20 G S (f + 1) 11 ls (.ref a :: st) h k n = (oV (fget h a 5 3) (WP 20 G S f) 14 ls st h k n) := by rw [wp_s dd_20_11 rfl hs]; rfl
theorem dd_20_14 : decode (mB 20) 14 = .ok (.iload 5, 2) := by decide +kernel
theorem u_20_14 {G : aG} {S : Nat → Bool} {f : Nat} {st : List Value} {ls : aL} {h : aH} {k n : Nat} (hs : S 14 = false) : WP 20 G S (f + 1) 14 ls st h k n = (oI (lget ls 5) (WP 20 G S f) 16 ls st h k n) := by rw [wp_s dd_20_14 rfl hs]; rfl
theorem dd_20_16 : decode (mB 20) 16 = .ok (.iaload, 1) := by decide +kernel
theorem u_20_16 {G : aG} {S : Nat → Bool} {f : Nat} {st : List Value} {ls : aL} {h : aH} {k n : Nat} {i : Int32} {a : Nat} (hs : S 16 = false) : WP 20 G S (f + 1) 16 ls (.int i :: .ref a :: st) h k n = (oIld (iget h a 1) i (WP 20 G S f) 17 ls st h k n) := by rw [wp_s dd_20_16 rfl hs]; rfl
theorem dd_20_17 : decode (mB 20) 17 = .ok (.goto 4, 3) := by decide +kernel
theorem u_20_17 {G : aG} {S : Nat → Bool} {f : Nat} {st : List Value} {ls : aL} {h : aH} {k n : Nat} (hs : S 17 = false) : WP 20 G S (f + 1) 17 ls st h k n = (WP 20 G S f 21 ls st h k n) := by rw [wp_s dd_20_17 rfl hs]; rfl
theorem dd_20_20 : decode (mB 20) 20 = .ok (.iconst 0, 1) := by decide +kernel
theorem u_20_20 {G : aG} {S : Nat → Bool} {f : Nat} {st : List Value} {ls : aL} {h : aH} {k n : Nat} (hs : S 20 = false) : WP 20 G S (f + 1) 20 ls st h k n = (WP 20 G S f 21 ls (.int (nI 0) :: st) h k n) := by rw [wp_s dd_20_20 rfl hs]; rfl
theorem dd_20_21 : decode (mB 20) 21 = .ok (.istore 6, 2) := by decide +kernel
theorem u_20_21 {G : aG} {S : Nat → Bool} {f : Nat} {st : List Value} {ls : aL} {h : aH} {k n : Nat} {x : Int32} (hs : S 21 = false) : WP 20 G S (f + 1) 21 ls (.int x :: st) h k n = (WP 20 G S f 23 (lput1 ls 6 (.int x)) st h k n) := by rw [wp_s dd_20_21 rfl hs]; rfl
theorem dd_20_23 : decode (mB 20) 23 = .ok (.iload 6, 2) := by decide +kernel
theorem u_20_23 {G : aG} {S : Nat → Bool} {f : Nat} {st : List Value} {ls : aL} {h : aH} {k n : Nat} (hs : S 23 = false) : WP 20 G S (f + 1) 23 ls st h k n = (oI (lget ls 6) (WP 20 G S f) 25 ls st h k n) := by rw [wp_s dd_20_23 rfl hs]; rfl
theorem dd_20_25 : decode (mB 20) 25 = .ok (.ifCond .le 57, 3) := by decide +kernel
theorem u_20_25 {G : aG} {S : Nat → Bool} {f : Nat} {st : List Value} {ls : aL} {h : aH} {k n : Nat} {x : Int32} (hs : S 25 = false) : WP 20 G S (f + 1) 25 ls (.int x :: st) h k n = (if x ≤ nI 0 then WP 20 G S f 82 ls st h k n else WP 20 G S f 28 ls st h k n) := by rw [wp_s dd_20_25 rfl hs]; exact br_ite (c := x ≤ nI 0)
theorem dd_20_28 : decode (mB 20) 28 = .ok (.iload_n 2, 1) := by decide +kernel
theorem u_20_28 {G : aG} {S : Nat → Bool} {f : Nat} {st : List Value} {ls : aL} {h : aH} {k n : Nat} (hs : S 28 = false) : WP 20 G S (f + 1) 28 ls st h k n = (oI (lget ls 2) (WP 20 G S f) 29 ls st h k n) := by rw [wp_s dd_20_28 rfl hs]; rfl
theorem dd_20_29 : decode (mB 20) 29 = .ok (.iload 6, 2) := by decide +kernel
theorem u_20_29 {G : aG} {S : Nat → Bool} {f : Nat} {st : List Value} {ls : aL} {h : aH} {k n : Nat} (hs : S 29 = false) : WP 20 G S (f + 1) 29 ls st h k n = (oI (lget ls 6) (WP 20 G S f) 31 ls st h k n) := by rw [wp_s dd_20_29 rfl hs]; rfl
theorem dd_20_31 : decode (mB 20) 31 = .ok (.idiv, 1) := by decide +kernel
theorem u_20_31 {G : aG} {S : Nat → Bool} {f : Nat} {st : List Value} {ls : aL} {h : aH} {k n : Nat} {x y : Int32} (hs : S 31 = false) : WP 20 G S (f + 1) 31 ls (.int y :: .int x :: st) h k n = (¬ y = 0 ∧ WP 20 G S f 32 ls (.int (x / y) :: st) h k n) := by rw [wp_s dd_20_31 rfl hs]; rfl
theorem dd_20_32 : decode (mB 20) 32 = .ok (.istore 7, 2) := by decide +kernel
theorem u_20_32 {G : aG} {S : Nat → Bool} {f : Nat} {st : List Value} {ls : aL} {h : aH} {k n : Nat} {x : Int32} (hs : S 32 = false) : WP 20 G S (f + 1) 32 ls (.int x :: st) h k n = (WP 20 G S f 34 (lput1 ls 7 (.int x)) st h k n) := by rw [wp_s dd_20_32 rfl hs]; rfl
theorem dd_20_34 : decode (mB 20) 34 = .ok (.iload_n 2, 1) := by decide +kernel
theorem u_20_34 {G : aG} {S : Nat → Bool} {f : Nat} {st : List Value} {ls : aL} {h : aH} {k n : Nat} (hs : S 34 = false) : WP 20 G S (f + 1) 34 ls st h k n = (oI (lget ls 2) (WP 20 G S f) 35 ls st h k n) := by rw [wp_s dd_20_34 rfl hs]; rfl
theorem dd_20_35 : decode (mB 20) 35 = .ok (.iload 6, 2) := by decide +kernel
theorem u_20_35 {G : aG} {S : Nat → Bool} {f : Nat} {st : List Value} {ls : aL} {h : aH} {k n : Nat} (hs : S 35 = false) : WP 20 G S (f + 1) 35 ls st h k n = (oI (lget ls 6) (WP 20 G S f) 37 ls st h k n) := by rw [wp_s dd_20_35 rfl hs]; rfl
theorem dd_20_37 : decode (mB 20) 37 = .ok (.irem, 1) := by decide +kernel
theorem u_20_37 {G : aG} {S : Nat → Bool} {f : Nat} {st : List Value} {ls : aL} {h : aH} {k n : Nat} {x y : Int32} (hs : S 37 = false) : WP 20 G S (f + 1) 37 ls (.int y :: .int x :: st) h k n = (¬ y = 0 ∧ WP 20 G S f 38 ls (.int (x - x / y * y) :: st) h k n) := by rw [wp_s dd_20_37 rfl hs]; rfl
theorem dd_20_38 : decode (mB 20) 38 = .ok (.istore 8, 2) := by decide +kernel
theorem u_20_38 {G : aG} {S : Nat → Bool} {f : Nat} {st : List Value} {ls : aL} {h : aH} {k n : Nat} {x : Int32} (hs : S 38 = false) : WP 20 G S (f + 1) 38 ls (.int x :: st) h k n = (WP 20 G S f 40 (lput1 ls 8 (.int x)) st h k n) := by rw [wp_s dd_20_38 rfl hs]; rfl
theorem dd_20_40 : decode (mB 20) 40 = .ok (.aload_n 0, 1) := by decide +kernel
theorem u_20_40 {G : aG} {S : Nat → Bool} {f : Nat} {st : List Value} {ls : aL} {h : aH} {k n : Nat} (hs : S 40 = false) : WP 20 G S (f + 1) 40 ls st h k n = (oA (lget ls 0) (WP 20 G S f) 41 ls st h k n) := by rw [wp_s dd_20_40 rfl hs]; rfl
theorem dd_20_41 : decode (mB 20) 41 = .ok (.aload_n 0, 1) := by decide +kernel
theorem u_20_41 {G : aG} {S : Nat → Bool} {f : Nat} {st : List Value} {ls : aL} {h : aH} {k n : Nat} (hs : S 41 = false) : WP 20 G S (f + 1) 41 ls st h k n = (oA (lget ls 0) (WP 20 G S f) 42 ls st h k n) := by rw [wp_s dd_20_41 rfl hs]; rfl
theorem dd_20_42 : decode (mB 20) 42 = .ok (.getfield 18, 3) := by decide +kernel
theorem u_20_42 {G : aG} {S : Nat → Bool} {f : Nat} {st : List Value} {ls : aL} {h : aH} {k n : Nat} {a : Nat} (hs : S 42 = false) : WP 20 G S (f + 1) 42 ls (.ref a :: st) h k n = (oV (fget h a 5 2) (WP 20 G S f) 45 ls st h k n) := by rw [wp_s dd_20_42 rfl hs]; rfl
theorem dd_20_45 : decode (mB 20) 45 = .ok (.iload_n 1, 1) := by decide +kernel
theorem u_20_45 {G : aG} {S : Nat → Bool} {f : Nat} {st : List Value} {ls : aL} {h : aH} {k n : Nat} (hs : S 45 = false) : WP 20 G S (f + 1) 45 ls st h k n = (oI (lget ls 1) (WP 20 G S f) 46 ls st h k n) := by rw [wp_s dd_20_45 rfl hs]; rfl
theorem dd_20_46 : decode (mB 20) 46 = .ok (.iaload, 1) := by decide +kernel
theorem u_20_46 {G : aG} {S : Nat → Bool} {f : Nat} {st : List Value} {ls : aL} {h : aH} {k n : Nat} {i : Int32} {a : Nat} (hs : S 46 = false) : WP 20 G S (f + 1) 46 ls (.int i :: .ref a :: st) h k n = (oIld (iget h a 1) i (WP 20 G S f) 47 ls st h k n) := by rw [wp_s dd_20_46 rfl hs]; rfl
theorem dd_20_47 : decode (mB 20) 47 = .ok (.iload 7, 2) := by decide +kernel
theorem u_20_47 {G : aG} {S : Nat → Bool} {f : Nat} {st : List Value} {ls : aL} {h : aH} {k n : Nat} (hs : S 47 = false) : WP 20 G S (f + 1) 47 ls st h k n = (oI (lget ls 7) (WP 20 G S f) 49 ls st h k n) := by rw [wp_s dd_20_47 rfl hs]; rfl
theorem dd_20_49 : decode (mB 20) 49 = .ok (.iload_n 3, 1) := by decide +kernel
theorem u_20_49 {G : aG} {S : Nat → Bool} {f : Nat} {st : List Value} {ls : aL} {h : aH} {k n : Nat} (hs : S 49 = false) : WP 20 G S (f + 1) 49 ls st h k n = (oI (lget ls 3) (WP 20 G S f) 50 ls st h k n) := by rw [wp_s dd_20_49 rfl hs]; rfl
theorem dd_20_50 : decode (mB 20) 50 = .ok (.iload 6, 2) := by decide +kernel
theorem u_20_50 {G : aG} {S : Nat → Bool} {f : Nat} {st : List Value} {ls : aL} {h : aH} {k n : Nat} (hs : S 50 = false) : WP 20 G S (f + 1) 50 ls st h k n = (oI (lget ls 6) (WP 20 G S f) 52 ls st h k n) := by rw [wp_s dd_20_50 rfl hs]; rfl
theorem dd_20_52 : decode (mB 20) 52 = .ok (.imul, 1) := by decide +kernel
theorem u_20_52 {G : aG} {S : Nat → Bool} {f : Nat} {st : List Value} {ls : aL} {h : aH} {k n : Nat} {x y : Int32} (hs : S 52 = false) : WP 20 G S (f + 1) 52 ls (.int y :: .int x :: st) h k n = (WP 20 G S f 53 ls (.int (x * y) :: st) h k n) := by rw [wp_s dd_20_52 rfl hs]; rfl
theorem dd_20_53 : decode (mB 20) 53 = .ok (.iload 4, 2) := by decide +kernel
theorem u_20_53 {G : aG} {S : Nat → Bool} {f : Nat} {st : List Value} {ls : aL} {h : aH} {k n : Nat} (hs : S 53 = false) : WP 20 G S (f + 1) 53 ls st h k n = (oI (lget ls 4) (WP 20 G S f) 55 ls st h k n) := by rw [wp_s dd_20_53 rfl hs]; rfl
theorem dd_20_55 : decode (mB 20) 55 = .ok (.iload_n 3, 1) := by decide +kernel
theorem u_20_55 {G : aG} {S : Nat → Bool} {f : Nat} {st : List Value} {ls : aL} {h : aH} {k n : Nat} (hs : S 55 = false) : WP 20 G S (f + 1) 55 ls st h k n = (oI (lget ls 3) (WP 20 G S f) 56 ls st h k n) := by rw [wp_s dd_20_55 rfl hs]; rfl
theorem dd_20_56 : decode (mB 20) 56 = .ok (.iload 8, 2) := by decide +kernel
theorem u_20_56 {G : aG} {S : Nat → Bool} {f : Nat} {st : List Value} {ls : aL} {h : aH} {k n : Nat} (hs : S 56 = false) : WP 20 G S (f + 1) 56 ls st h k n = (oI (lget ls 8) (WP 20 G S f) 58 ls st h k n) := by rw [wp_s dd_20_56 rfl hs]; rfl
theorem dd_20_58 : decode (mB 20) 58 = .ok (.imul, 1) := by decide +kernel
theorem u_20_58 {G : aG} {S : Nat → Bool} {f : Nat} {st : List Value} {ls : aL} {h : aH} {k n : Nat} {x y : Int32} (hs : S 58 = false) : WP 20 G S (f + 1) 58 ls (.int y :: .int x :: st) h k n = (WP 20 G S f 59 ls (.int (x * y) :: st) h k n) := by rw [wp_s dd_20_58 rfl hs]; rfl
theorem dd_20_59 : decode (mB 20) 59 = .ok (.iadd, 1) := by decide +kernel
theorem u_20_59 {G : aG} {S : Nat → Bool} {f : Nat} {st : List Value} {ls : aL} {h : aH} {k n : Nat} {x y : Int32} (hs : S 59 = false) : WP 20 G S (f + 1) 59 ls (.int y :: .int x :: st) h k n = (WP 20 G S f 60 ls (.int (x + y) :: st) h k n) := by rw [wp_s dd_20_59 rfl hs]; rfl
theorem dd_20_60 : decode (mB 20) 60 = .ok (.invokevirtual 69, 3) := by decide +kernel
theorem u_20_60 {G : aG} {S : Nat → Bool} {f : Nat} {st : List Value} {ls : aL} {h : aH} {k n : Nat} {v1 v2 v3 v4 : Value} {b : Nat} (hs : S 60 = false) : WP 20 G S (f + 1) 60 ls (v4 :: v3 :: v2 :: v1 :: .ref b :: st) h k n = (rcv (hget h b) 5 ∧ CAL G (WP 20 G S f) 16 [.ref b, v1, v2, v3, v4] 63 ls st h k n) := by rw [wp_s dd_20_60 rfl hs]; rfl
theorem dd_20_63 : decode (mB 20) 63 = .ok (.aload_n 0, 1) := by decide +kernel
theorem u_20_63 {G : aG} {S : Nat → Bool} {f : Nat} {st : List Value} {ls : aL} {h : aH} {k n : Nat} (hs : S 63 = false) : WP 20 G S (f + 1) 63 ls st h k n = (oA (lget ls 0) (WP 20 G S f) 64 ls st h k n) := by rw [wp_s dd_20_63 rfl hs]; rfl
theorem dd_20_64 : decode (mB 20) 64 = .ok (.iload 5, 2) := by decide +kernel
theorem u_20_64 {G : aG} {S : Nat → Bool} {f : Nat} {st : List Value} {ls : aL} {h : aH} {k n : Nat} (hs : S 64 = false) : WP 20 G S (f + 1) 64 ls st h k n = (oI (lget ls 5) (WP 20 G S f) 66 ls st h k n) := by rw [wp_s dd_20_64 rfl hs]; rfl
theorem dd_20_66 : decode (mB 20) 66 = .ok (.iload 8, 2) := by decide +kernel
theorem u_20_66 {G : aG} {S : Nat → Bool} {f : Nat} {st : List Value} {ls : aL} {h : aH} {k n : Nat} (hs : S 66 = false) : WP 20 G S (f + 1) 66 ls st h k n = (oI (lget ls 8) (WP 20 G S f) 68 ls st h k n) := by rw [wp_s dd_20_66 rfl hs]; rfl
theorem dd_20_68 : decode (mB 20) 68 = .ok (.iload_n 3, 1) := by decide +kernel
theorem u_20_68 {G : aG} {S : Nat → Bool} {f : Nat} {st : List Value} {ls : aL} {h : aH} {k n : Nat} (hs : S 68 = false) : WP 20 G S (f + 1) 68 ls st h k n = (oI (lget ls 3) (WP 20 G S f) 69 ls st h k n) := by rw [wp_s dd_20_68 rfl hs]; rfl
theorem dd_20_69 : decode (mB 20) 69 = .ok (.iload 4, 2) := by decide +kernel
theorem u_20_69 {G : aG} {S : Nat → Bool} {f : Nat} {st : List Value} {ls : aL} {h : aH} {k n : Nat} (hs : S 69 = false) : WP 20 G S (f + 1) 69 ls st h k n = (oI (lget ls 4) (WP 20 G S f) 71 ls st h k n) := by rw [wp_s dd_20_69 rfl hs]; rfl
theorem dd_20_71 : decode (mB 20) 71 = .ok (.iload_n 3, 1) := by decide +kernel
theorem u_20_71 {G : aG} {S : Nat → Bool} {f : Nat} {st : List Value} {ls : aL} {h : aH} {k n : Nat} (hs : S 71 = false) : WP 20 G S (f + 1) 71 ls st h k n = (oI (lget ls 3) (WP 20 G S f) 72 ls st h k n) := by rw [wp_s dd_20_71 rfl hs]; rfl
theorem dd_20_72 : decode (mB 20) 72 = .ok (.iload 7, 2) := by decide +kernel
theorem u_20_72 {G : aG} {S : Nat → Bool} {f : Nat} {st : List Value} {ls : aL} {h : aH} {k n : Nat} (hs : S 72 = false) : WP 20 G S (f + 1) 72 ls st h k n = (oI (lget ls 7) (WP 20 G S f) 74 ls st h k n) := by rw [wp_s dd_20_72 rfl hs]; rfl
theorem dd_20_74 : decode (mB 20) 74 = .ok (.imul, 1) := by decide +kernel
theorem u_20_74 {G : aG} {S : Nat → Bool} {f : Nat} {st : List Value} {ls : aL} {h : aH} {k n : Nat} {x y : Int32} (hs : S 74 = false) : WP 20 G S (f + 1) 74 ls (.int y :: .int x :: st) h k n = (WP 20 G S f 75 ls (.int (x * y) :: st) h k n) := by rw [wp_s dd_20_74 rfl hs]; rfl
theorem dd_20_75 : decode (mB 20) 75 = .ok (.iload 6, 2) := by decide +kernel
theorem u_20_75 {G : aG} {S : Nat → Bool} {f : Nat} {st : List Value} {ls : aL} {h : aH} {k n : Nat} (hs : S 75 = false) : WP 20 G S (f + 1) 75 ls st h k n = (oI (lget ls 6) (WP 20 G S f) 77 ls st h k n) := by rw [wp_s dd_20_75 rfl hs]; rfl
theorem dd_20_77 : decode (mB 20) 77 = .ok (.imul, 1) := by decide +kernel
theorem u_20_77 {G : aG} {S : Nat → Bool} {f : Nat} {st : List Value} {ls : aL} {h : aH} {k n : Nat} {x y : Int32} (hs : S 77 = false) : WP 20 G S (f + 1) 77 ls (.int y :: .int x :: st) h k n = (WP 20 G S f 78 ls (.int (x * y) :: st) h k n) := by rw [wp_s dd_20_77 rfl hs]; rfl
theorem dd_20_78 : decode (mB 20) 78 = .ok (.iadd, 1) := by decide +kernel
theorem u_20_78 {G : aG} {S : Nat → Bool} {f : Nat} {st : List Value} {ls : aL} {h : aH} {k n : Nat} {x y : Int32} (hs : S 78 = false) : WP 20 G S (f + 1) 78 ls (.int y :: .int x :: st) h k n = (WP 20 G S f 79 ls (.int (x + y) :: st) h k n) := by rw [wp_s dd_20_78 rfl hs]; rfl
theorem dd_20_79 : decode (mB 20) 79 = .ok (.invokevirtual 69, 3) := by decide +kernel
theorem u_20_79 {G : aG} {S : Nat → Bool} {f : Nat} {st : List Value} {ls : aL} {h : aH} {k n : Nat} {v1 v2 v3 v4 : Value} {b : Nat} (hs : S 79 = false) : WP 20 G S (f + 1) 79 ls (v4 :: v3 :: v2 :: v1 :: .ref b :: st) h k n = (rcv (hget h b) 5 ∧ CAL G (WP 20 G S f) 16 [.ref b, v1, v2, v3, v4] 82 ls st h k n) := by rw [wp_s dd_20_79 rfl hs]; rfl
theorem dd_20_82 : decode (mB 20) 82 = .ok (.return_, 1) := by decide +kernel
theorem u_20_82 {G : aG} {S : Nat → Bool} {f : Nat} {ls : aL} {h : aH} {k n : Nat} (hs : S 82 = false) : WP 20 G S (f + 1) 82 ls [] h k n = (RET G none h k n) := by rw [wp_s dd_20_82 rfl hs]; rfl
theorem dd_21_0 : decode (mB 21) 0 = .ok (.iload_n 1, 1) := by decide +kernel
theorem u_21_0 {G : aG} {S : Nat → Bool} {f : Nat} {st : List Value} {ls : aL} {h : aH} {k n : Nat} (hs : S 0 = false) : WP 21 G S (f + 1) 0 ls st h k n = (oI (lget ls 1) (WP 21 G S f) 1 ls st h k n) := by rw [wp_s dd_21_0 rfl hs]; rfl
theorem dd_21_1 : decode (mB 21) 1 = .ok (.iconst 1, 1) := by decide +kernel
theorem u_21_1 {G : aG} {S : Nat → Bool} {f : Nat} {st : List Value} {ls : aL} {h : aH} {k n : Nat} (hs : S 1 = false) : WP 21 G S (f + 1) 1 ls st h k n = (WP 21 G S f 2 ls (.int (nI 1) :: st) h k n) := by rw [wp_s dd_21_1 rfl hs]; rfl
theorem dd_21_2 : decode (mB 21) 2 = .ok (.isub, 1) := by decide +kernel
theorem u_21_2 {G : aG} {S : Nat → Bool} {f : Nat} {st : List Value} {ls : aL} {h : aH} {k n : Nat} {x y : Int32} (hs : S 2 = false) : WP 21 G S (f + 1) 2 ls (.int y :: .int x :: st) h k n = (WP 21 G S f 3 ls (.int (x - y) :: st) h k n) := by rw [wp_s dd_21_2 rfl hs]; rfl
theorem dd_21_3 : decode (mB 21) 3 = .ok (.istore 5, 2) := by decide +kernel
theorem u_21_3 {G : aG} {S : Nat → Bool} {f : Nat} {st : List Value} {ls : aL} {h : aH} {k n : Nat} {x : Int32} (hs : S 3 = false) : WP 21 G S (f + 1) 3 ls (.int x :: st) h k n = (WP 21 G S f 5 (lput1 ls 5 (.int x)) st h k n) := by rw [wp_s dd_21_3 rfl hs]; rfl
theorem dd_21_5 : decode (mB 21) 5 = .ok (.aload_n 0, 1) := by decide +kernel
theorem u_21_5 {G : aG} {S : Nat → Bool} {f : Nat} {st : List Value} {ls : aL} {h : aH} {k n : Nat} (hs : S 5 = false) : WP 21 G S (f + 1) 5 ls st h k n = (oA (lget ls 0) (WP 21 G S f) 6 ls st h k n) := by rw [wp_s dd_21_5 rfl hs]; rfl
theorem dd_21_6 : decode (mB 21) 6 = .ok (.getfield 18, 3) := by decide +kernel
theorem u_21_6 {G : aG} {S : Nat → Bool} {f : Nat} {st : List Value} {ls : aL} {h : aH} {k n : Nat} {a : Nat} (hs : S 6 = false) : WP 21 G S (f + 1) 6 ls (.ref a :: st) h k n = (oV (fget h a 5 2) (WP 21 G S f) 9 ls st h k n) := by rw [wp_s dd_21_6 rfl hs]; rfl
theorem dd_21_9 : decode (mB 21) 9 = .ok (.iload_n 1, 1) := by decide +kernel
theorem u_21_9 {G : aG} {S : Nat → Bool} {f : Nat} {st : List Value} {ls : aL} {h : aH} {k n : Nat} (hs : S 9 = false) : WP 21 G S (f + 1) 9 ls st h k n = (oI (lget ls 1) (WP 21 G S f) 10 ls st h k n) := by rw [wp_s dd_21_9 rfl hs]; rfl
theorem dd_21_10 : decode (mB 21) 10 = .ok (.iaload, 1) := by decide +kernel
theorem u_21_10 {G : aG} {S : Nat → Bool} {f : Nat} {st : List Value} {ls : aL} {h : aH} {k n : Nat} {i : Int32} {a : Nat} (hs : S 10 = false) : WP 21 G S (f + 1) 10 ls (.int i :: .ref a :: st) h k n = (oIld (iget h a 1) i (WP 21 G S f) 11 ls st h k n) := by rw [wp_s dd_21_10 rfl hs]; rfl
theorem dd_21_11 : decode (mB 21) 11 = .ok (.istore 6, 2) := by decide +kernel
theorem u_21_11 {G : aG} {S : Nat → Bool} {f : Nat} {st : List Value} {ls : aL} {h : aH} {k n : Nat} {x : Int32} (hs : S 11 = false) : WP 21 G S (f + 1) 11 ls (.int x :: st) h k n = (WP 21 G S f 13 (lput1 ls 6 (.int x)) st h k n) := by rw [wp_s dd_21_11 rfl hs]; rfl
theorem dd_21_13 : decode (mB 21) 13 = .ok (.iload 6, 2) := by decide +kernel
theorem u_21_13 {G : aG} {S : Nat → Bool} {f : Nat} {st : List Value} {ls : aL} {h : aH} {k n : Nat} (hs : S 13 = false) : WP 21 G S (f + 1) 13 ls st h k n = (oI (lget ls 6) (WP 21 G S f) 15 ls st h k n) := by rw [wp_s dd_21_13 rfl hs]; rfl
theorem dd_21_15 : decode (mB 21) 15 = .ok (.ifCond .ge 4, 3) := by decide +kernel
theorem u_21_15 {G : aG} {S : Nat → Bool} {f : Nat} {st : List Value} {ls : aL} {h : aH} {k n : Nat} {x : Int32} (hs : S 15 = false) : WP 21 G S (f + 1) 15 ls (.int x :: st) h k n = (if nI 0 ≤ x then WP 21 G S f 19 ls st h k n else WP 21 G S f 18 ls st h k n) := by rw [wp_s dd_21_15 rfl hs]; exact br_ite (c := nI 0 ≤ x)
theorem dd_21_18 : decode (mB 21) 18 = .ok (.return_, 1) := by decide +kernel
theorem u_21_18 {G : aG} {S : Nat → Bool} {f : Nat} {ls : aL} {h : aH} {k n : Nat} (hs : S 18 = false) : WP 21 G S (f + 1) 18 ls [] h k n = (RET G none h k n) := by rw [wp_s dd_21_18 rfl hs]; rfl
theorem dd_21_19 : decode (mB 21) 19 = .ok (.iload 4, 2) := by decide +kernel
theorem u_21_19 {G : aG} {S : Nat → Bool} {f : Nat} {st : List Value} {ls : aL} {h : aH} {k n : Nat} (hs : S 19 = false) : WP 21 G S (f + 1) 19 ls st h k n = (oI (lget ls 4) (WP 21 G S f) 21 ls st h k n) := by rw [wp_s dd_21_19 rfl hs]; rfl
theorem dd_21_21 : decode (mB 21) 21 = .ok (.iload_n 3, 1) := by decide +kernel
theorem u_21_21 {G : aG} {S : Nat → Bool} {f : Nat} {st : List Value} {ls : aL} {h : aH} {k n : Nat} (hs : S 21 = false) : WP 21 G S (f + 1) 21 ls st h k n = (oI (lget ls 3) (WP 21 G S f) 22 ls st h k n) := by rw [wp_s dd_21_21 rfl hs]; rfl
theorem dd_21_22 : decode (mB 21) 22 = .ok (.aload_n 0, 1) := by decide +kernel
theorem u_21_22 {G : aG} {S : Nat → Bool} {f : Nat} {st : List Value} {ls : aL} {h : aH} {k n : Nat} (hs : S 22 = false) : WP 21 G S (f + 1) 22 ls st h k n = (oA (lget ls 0) (WP 21 G S f) 23 ls st h k n) := by rw [wp_s dd_21_22 rfl hs]; rfl
theorem dd_21_23 : decode (mB 21) 23 = .ok (.getfield 21, 3) := by decide +kernel
theorem u_21_23 {G : aG} {S : Nat → Bool} {f : Nat} {st : List Value} {ls : aL} {h : aH} {k n : Nat} {a : Nat} (hs : S 23 = false) : WP 21 G S (f + 1) 23 ls (.ref a :: st) h k n = (oV (fget h a 5 3) (WP 21 G S f) 26 ls st h k n) := by rw [wp_s dd_21_23 rfl hs]; rfl
theorem dd_21_26 : decode (mB 21) 26 = .ok (.iload 6, 2) := by decide +kernel
theorem u_21_26 {G : aG} {S : Nat → Bool} {f : Nat} {st : List Value} {ls : aL} {h : aH} {k n : Nat} (hs : S 26 = false) : WP 21 G S (f + 1) 26 ls st h k n = (oI (lget ls 6) (WP 21 G S f) 28 ls st h k n) := by rw [wp_s dd_21_26 rfl hs]; rfl
theorem dd_21_28 : decode (mB 21) 28 = .ok (.iaload, 1) := by decide +kernel
theorem u_21_28 {G : aG} {S : Nat → Bool} {f : Nat} {st : List Value} {ls : aL} {h : aH} {k n : Nat} {i : Int32} {a : Nat} (hs : S 28 = false) : WP 21 G S (f + 1) 28 ls (.int i :: .ref a :: st) h k n = (oIld (iget h a 1) i (WP 21 G S f) 29 ls st h k n) := by rw [wp_s dd_21_28 rfl hs]; rfl
theorem dd_21_29 : decode (mB 21) 29 = .ok (.iconst 1, 1) := by decide +kernel
theorem u_21_29 {G : aG} {S : Nat → Bool} {f : Nat} {st : List Value} {ls : aL} {h : aH} {k n : Nat} (hs : S 29 = false) : WP 21 G S (f + 1) 29 ls st h k n = (WP 21 G S f 30 ls (.int (nI 1) :: st) h k n) := by rw [wp_s dd_21_29 rfl hs]; rfl
theorem dd_21_30 : decode (mB 21) 30 = .ok (.isub, 1) := by decide +kernel
theorem u_21_30 {G : aG} {S : Nat → Bool} {f : Nat} {st : List Value} {ls : aL} {h : aH} {k n : Nat} {x y : Int32} (hs : S 30 = false) : WP 21 G S (f + 1) 30 ls (.int y :: .int x :: st) h k n = (WP 21 G S f 31 ls (.int (x - y) :: st) h k n) := by rw [wp_s dd_21_30 rfl hs]; rfl
theorem dd_21_31 : decode (mB 21) 31 = .ok (.imul, 1) := by decide +kernel
theorem u_21_31 {G : aG} {S : Nat → Bool} {f : Nat} {st : List Value} {ls : aL} {h : aH} {k n : Nat} {x y : Int32} (hs : S 31 = false) : WP 21 G S (f + 1) 31 ls (.int y :: .int x :: st) h k n = (WP 21 G S f 32 ls (.int (x * y) :: st) h k n) := by rw [wp_s dd_21_31 rfl hs]; rfl
theorem dd_21_32 : decode (mB 21) 32 = .ok (.iadd, 1) := by decide +kernel
theorem u_21_32 {G : aG} {S : Nat → Bool} {f : Nat} {st : List Value} {ls : aL} {h : aH} {k n : Nat} {x y : Int32} (hs : S 32 = false) : WP 21 G S (f + 1) 32 ls (.int y :: .int x :: st) h k n = (WP 21 G S f 33 ls (.int (x + y) :: st) h k n) := by rw [wp_s dd_21_32 rfl hs]; rfl
theorem dd_21_33 : decode (mB 21) 33 = .ok (.istore 7, 2) := by decide +kernel
theorem u_21_33 {G : aG} {S : Nat → Bool} {f : Nat} {st : List Value} {ls : aL} {h : aH} {k n : Nat} {x : Int32} (hs : S 33 = false) : WP 21 G S (f + 1) 33 ls (.int x :: st) h k n = (WP 21 G S f 35 (lput1 ls 7 (.int x)) st h k n) := by rw [wp_s dd_21_33 rfl hs]; rfl
theorem dd_21_35 : decode (mB 21) 35 = .ok (.iload_n 2, 1) := by decide +kernel
theorem u_21_35 {G : aG} {S : Nat → Bool} {f : Nat} {st : List Value} {ls : aL} {h : aH} {k n : Nat} (hs : S 35 = false) : WP 21 G S (f + 1) 35 ls st h k n = (oI (lget ls 2) (WP 21 G S f) 36 ls st h k n) := by rw [wp_s dd_21_35 rfl hs]; rfl
theorem dd_21_36 : decode (mB 21) 36 = .ok (.aload_n 0, 1) := by decide +kernel
theorem u_21_36 {G : aG} {S : Nat → Bool} {f : Nat} {st : List Value} {ls : aL} {h : aH} {k n : Nat} (hs : S 36 = false) : WP 21 G S (f + 1) 36 ls st h k n = (oA (lget ls 0) (WP 21 G S f) 37 ls st h k n) := by rw [wp_s dd_21_36 rfl hs]; rfl
theorem dd_21_37 : decode (mB 21) 37 = .ok (.getfield 21, 3) := by decide +kernel
theorem u_21_37 {G : aG} {S : Nat → Bool} {f : Nat} {st : List Value} {ls : aL} {h : aH} {k n : Nat} {a : Nat} (hs : S 37 = false) : WP 21 G S (f + 1) 37 ls (.ref a :: st) h k n = (oV (fget h a 5 3) (WP 21 G S f) 40 ls st h k n) := by rw [wp_s dd_21_37 rfl hs]; rfl
theorem dd_21_40 : decode (mB 21) 40 = .ok (.iload 6, 2) := by decide +kernel
theorem u_21_40 {G : aG} {S : Nat → Bool} {f : Nat} {st : List Value} {ls : aL} {h : aH} {k n : Nat} (hs : S 40 = false) : WP 21 G S (f + 1) 40 ls st h k n = (oI (lget ls 6) (WP 21 G S f) 42 ls st h k n) := by rw [wp_s dd_21_40 rfl hs]; rfl
theorem dd_21_42 : decode (mB 21) 42 = .ok (.iaload, 1) := by decide +kernel
theorem u_21_42 {G : aG} {S : Nat → Bool} {f : Nat} {st : List Value} {ls : aL} {h : aH} {k n : Nat} {i : Int32} {a : Nat} (hs : S 42 = false) : WP 21 G S (f + 1) 42 ls (.int i :: .ref a :: st) h k n = (oIld (iget h a 1) i (WP 21 G S f) 43 ls st h k n) := by rw [wp_s dd_21_42 rfl hs]; rfl
theorem dd_21_43 : decode (mB 21) 43 = .ok (.if_icmp .lt 24, 3) := by decide +kernel
theorem u_21_43 {G : aG} {S : Nat → Bool} {f : Nat} {st : List Value} {ls : aL} {h : aH} {k n : Nat} {x y : Int32} (hs : S 43 = false) : WP 21 G S (f + 1) 43 ls (.int y :: .int x :: st) h k n = (if x < y then WP 21 G S f 67 ls st h k n else WP 21 G S f 46 ls st h k n) := by rw [wp_s dd_21_43 rfl hs]; exact br_ite (c := x < y)
theorem dd_21_46 : decode (mB 21) 46 = .ok (.aload_n 0, 1) := by decide +kernel
theorem u_21_46 {G : aG} {S : Nat → Bool} {f : Nat} {st : List Value} {ls : aL} {h : aH} {k n : Nat} (hs : S 46 = false) : WP 21 G S (f + 1) 46 ls st h k n = (oA (lget ls 0) (WP 21 G S f) 47 ls st h k n) := by rw [wp_s dd_21_46 rfl hs]; rfl
theorem dd_21_47 : decode (mB 21) 47 = .ok (.iload 5, 2) := by decide +kernel
theorem u_21_47 {G : aG} {S : Nat → Bool} {f : Nat} {st : List Value} {ls : aL} {h : aH} {k n : Nat} (hs : S 47 = false) : WP 21 G S (f + 1) 47 ls st h k n = (oI (lget ls 5) (WP 21 G S f) 49 ls st h k n) := by rw [wp_s dd_21_47 rfl hs]; rfl
theorem dd_21_49 : decode (mB 21) 49 = .ok (.iload_n 2, 1) := by decide +kernel
theorem u_21_49 {G : aG} {S : Nat → Bool} {f : Nat} {st : List Value} {ls : aL} {h : aH} {k n : Nat} (hs : S 49 = false) : WP 21 G S (f + 1) 49 ls st h k n = (oI (lget ls 2) (WP 21 G S f) 50 ls st h k n) := by rw [wp_s dd_21_49 rfl hs]; rfl
theorem dd_21_50 : decode (mB 21) 50 = .ok (.aload_n 0, 1) := by decide +kernel
theorem u_21_50 {G : aG} {S : Nat → Bool} {f : Nat} {st : List Value} {ls : aL} {h : aH} {k n : Nat} (hs : S 50 = false) : WP 21 G S (f + 1) 50 ls st h k n = (oA (lget ls 0) (WP 21 G S f) 51 ls st h k n) := by rw [wp_s dd_21_50 rfl hs]; rfl
theorem dd_21_51 : decode (mB 21) 51 = .ok (.getfield 21, 3) := by decide +kernel
theorem u_21_51 {G : aG} {S : Nat → Bool} {f : Nat} {st : List Value} {ls : aL} {h : aH} {k n : Nat} {a : Nat} (hs : S 51 = false) : WP 21 G S (f + 1) 51 ls (.ref a :: st) h k n = (oV (fget h a 5 3) (WP 21 G S f) 54 ls st h k n) := by rw [wp_s dd_21_51 rfl hs]; rfl
theorem dd_21_54 : decode (mB 21) 54 = .ok (.iload 6, 2) := by decide +kernel
theorem u_21_54 {G : aG} {S : Nat → Bool} {f : Nat} {st : List Value} {ls : aL} {h : aH} {k n : Nat} (hs : S 54 = false) : WP 21 G S (f + 1) 54 ls st h k n = (oI (lget ls 6) (WP 21 G S f) 56 ls st h k n) := by rw [wp_s dd_21_54 rfl hs]; rfl
theorem dd_21_56 : decode (mB 21) 56 = .ok (.iaload, 1) := by decide +kernel
theorem u_21_56 {G : aG} {S : Nat → Bool} {f : Nat} {st : List Value} {ls : aL} {h : aH} {k n : Nat} {i : Int32} {a : Nat} (hs : S 56 = false) : WP 21 G S (f + 1) 56 ls (.int i :: .ref a :: st) h k n = (oIld (iget h a 1) i (WP 21 G S f) 57 ls st h k n) := by rw [wp_s dd_21_56 rfl hs]; rfl
theorem dd_21_57 : decode (mB 21) 57 = .ok (.isub, 1) := by decide +kernel
theorem u_21_57 {G : aG} {S : Nat → Bool} {f : Nat} {st : List Value} {ls : aL} {h : aH} {k n : Nat} {x y : Int32} (hs : S 57 = false) : WP 21 G S (f + 1) 57 ls (.int y :: .int x :: st) h k n = (WP 21 G S f 58 ls (.int (x - y) :: st) h k n) := by rw [wp_s dd_21_57 rfl hs]; rfl
theorem dd_21_58 : decode (mB 21) 58 = .ok (.iconst 1, 1) := by decide +kernel
theorem u_21_58 {G : aG} {S : Nat → Bool} {f : Nat} {st : List Value} {ls : aL} {h : aH} {k n : Nat} (hs : S 58 = false) : WP 21 G S (f + 1) 58 ls st h k n = (WP 21 G S f 59 ls (.int (nI 1) :: st) h k n) := by rw [wp_s dd_21_58 rfl hs]; rfl
theorem dd_21_59 : decode (mB 21) 59 = .ok (.iadd, 1) := by decide +kernel
theorem u_21_59 {G : aG} {S : Nat → Bool} {f : Nat} {st : List Value} {ls : aL} {h : aH} {k n : Nat} {x y : Int32} (hs : S 59 = false) : WP 21 G S (f + 1) 59 ls (.int y :: .int x :: st) h k n = (WP 21 G S f 60 ls (.int (x + y) :: st) h k n) := by rw [wp_s dd_21_59 rfl hs]; rfl
theorem dd_21_60 : decode (mB 21) 60 = .ok (.iload_n 3, 1) := by decide +kernel
theorem u_21_60 {G : aG} {S : Nat → Bool} {f : Nat} {st : List Value} {ls : aL} {h : aH} {k n : Nat} (hs : S 60 = false) : WP 21 G S (f + 1) 60 ls st h k n = (oI (lget ls 3) (WP 21 G S f) 61 ls st h k n) := by rw [wp_s dd_21_60 rfl hs]; rfl
theorem dd_21_61 : decode (mB 21) 61 = .ok (.iload 7, 2) := by decide +kernel
theorem u_21_61 {G : aG} {S : Nat → Bool} {f : Nat} {st : List Value} {ls : aL} {h : aH} {k n : Nat} (hs : S 61 = false) : WP 21 G S (f + 1) 61 ls st h k n = (oI (lget ls 7) (WP 21 G S f) 63 ls st h k n) := by rw [wp_s dd_21_61 rfl hs]; rfl
theorem dd_21_63 : decode (mB 21) 63 = .ok (.invokevirtual 69, 3) := by decide +kernel
theorem u_21_63 {G : aG} {S : Nat → Bool} {f : Nat} {st : List Value} {ls : aL} {h : aH} {k n : Nat} {v1 v2 v3 v4 : Value} {b : Nat} (hs : S 63 = false) : WP 21 G S (f + 1) 63 ls (v4 :: v3 :: v2 :: v1 :: .ref b :: st) h k n = (rcv (hget h b) 5 ∧ CAL G (WP 21 G S f) 16 [.ref b, v1, v2, v3, v4] 66 ls st h k n) := by rw [wp_s dd_21_63 rfl hs]; rfl
theorem dd_21_66 : decode (mB 21) 66 = .ok (.return_, 1) := by decide +kernel
theorem u_21_66 {G : aG} {S : Nat → Bool} {f : Nat} {ls : aL} {h : aH} {k n : Nat} (hs : S 66 = false) : WP 21 G S (f + 1) 66 ls [] h k n = (RET G none h k n) := by rw [wp_s dd_21_66 rfl hs]; rfl
theorem dd_21_67 : decode (mB 21) 67 = .ok (.aload_n 0, 1) := by decide +kernel
theorem u_21_67 {G : aG} {S : Nat → Bool} {f : Nat} {st : List Value} {ls : aL} {h : aH} {k n : Nat} (hs : S 67 = false) : WP 21 G S (f + 1) 67 ls st h k n = (oA (lget ls 0) (WP 21 G S f) 68 ls st h k n) := by rw [wp_s dd_21_67 rfl hs]; rfl
theorem dd_21_68 : decode (mB 21) 68 = .ok (.iload 6, 2) := by decide +kernel
theorem u_21_68 {G : aG} {S : Nat → Bool} {f : Nat} {st : List Value} {ls : aL} {h : aH} {k n : Nat} (hs : S 68 = false) : WP 21 G S (f + 1) 68 ls st h k n = (oI (lget ls 6) (WP 21 G S f) 70 ls st h k n) := by rw [wp_s dd_21_68 rfl hs]; rfl
theorem dd_21_70 : decode (mB 21) 70 = .ok (.iload_n 2, 1) := by decide +kernel
theorem u_21_70 {G : aG} {S : Nat → Bool} {f : Nat} {st : List Value} {ls : aL} {h : aH} {k n : Nat} (hs : S 70 = false) : WP 21 G S (f + 1) 70 ls st h k n = (oI (lget ls 2) (WP 21 G S f) 71 ls st h k n) := by rw [wp_s dd_21_70 rfl hs]; rfl
theorem dd_21_71 : decode (mB 21) 71 = .ok (.iload_n 3, 1) := by decide +kernel
theorem u_21_71 {G : aG} {S : Nat → Bool} {f : Nat} {st : List Value} {ls : aL} {h : aH} {k n : Nat} (hs : S 71 = false) : WP 21 G S (f + 1) 71 ls st h k n = (oI (lget ls 3) (WP 21 G S f) 72 ls st h k n) := by rw [wp_s dd_21_71 rfl hs]; rfl
theorem dd_21_72 : decode (mB 21) 72 = .ok (.iload 4, 2) := by decide +kernel
theorem u_21_72 {G : aG} {S : Nat → Bool} {f : Nat} {st : List Value} {ls : aL} {h : aH} {k n : Nat} (hs : S 72 = false) : WP 21 G S (f + 1) 72 ls st h k n = (oI (lget ls 4) (WP 21 G S f) 74 ls st h k n) := by rw [wp_s dd_21_72 rfl hs]; rfl
theorem dd_21_74 : decode (mB 21) 74 = .ok (.invokevirtual 69, 3) := by decide +kernel
theorem u_21_74 {G : aG} {S : Nat → Bool} {f : Nat} {st : List Value} {ls : aL} {h : aH} {k n : Nat} {v1 v2 v3 v4 : Value} {b : Nat} (hs : S 74 = false) : WP 21 G S (f + 1) 74 ls (v4 :: v3 :: v2 :: v1 :: .ref b :: st) h k n = (rcv (hget h b) 5 ∧ CAL G (WP 21 G S f) 16 [.ref b, v1, v2, v3, v4] 77 ls st h k n) := by rw [wp_s dd_21_74 rfl hs]; rfl
theorem dd_21_77 : decode (mB 21) 77 = .ok (.aload_n 0, 1) := by decide +kernel
theorem u_21_77 {G : aG} {S : Nat → Bool} {f : Nat} {st : List Value} {ls : aL} {h : aH} {k n : Nat} (hs : S 77 = false) : WP 21 G S (f + 1) 77 ls st h k n = (oA (lget ls 0) (WP 21 G S f) 78 ls st h k n) := by rw [wp_s dd_21_77 rfl hs]; rfl
theorem dd_21_78 : decode (mB 21) 78 = .ok (.getfield 9, 3) := by decide +kernel
theorem u_21_78 {G : aG} {S : Nat → Bool} {f : Nat} {st : List Value} {ls : aL} {h : aH} {k n : Nat} {a : Nat} (hs : S 78 = false) : WP 21 G S (f + 1) 78 ls (.ref a :: st) h k n = (oV (fget h a 5 0) (WP 21 G S f) 81 ls st h k n) := by rw [wp_s dd_21_78 rfl hs]; rfl
theorem dd_21_81 : decode (mB 21) 81 = .ok (.iload_n 1, 1) := by decide +kernel
theorem u_21_81 {G : aG} {S : Nat → Bool} {f : Nat} {st : List Value} {ls : aL} {h : aH} {k n : Nat} (hs : S 81 = false) : WP 21 G S (f + 1) 81 ls st h k n = (oI (lget ls 1) (WP 21 G S f) 82 ls st h k n) := by rw [wp_s dd_21_81 rfl hs]; rfl
theorem dd_21_82 : decode (mB 21) 82 = .ok (.iaload, 1) := by decide +kernel
theorem u_21_82 {G : aG} {S : Nat → Bool} {f : Nat} {st : List Value} {ls : aL} {h : aH} {k n : Nat} {i : Int32} {a : Nat} (hs : S 82 = false) : WP 21 G S (f + 1) 82 ls (.int i :: .ref a :: st) h k n = (oIld (iget h a 1) i (WP 21 G S f) 83 ls st h k n) := by rw [wp_s dd_21_82 rfl hs]; rfl
theorem dd_21_83 : decode (mB 21) 83 = .ok (.bipush 12, 2) := by decide +kernel
theorem u_21_83 {G : aG} {S : Nat → Bool} {f : Nat} {st : List Value} {ls : aL} {h : aH} {k n : Nat} (hs : S 83 = false) : WP 21 G S (f + 1) 83 ls st h k n = (WP 21 G S f 85 ls (.int (nI 12) :: st) h k n) := by rw [wp_s dd_21_83 rfl hs]; rfl
theorem dd_21_85 : decode (mB 21) 85 = .ok (.if_icmp .ne 16, 3) := by decide +kernel
theorem u_21_85 {G : aG} {S : Nat → Bool} {f : Nat} {st : List Value} {ls : aL} {h : aH} {k n : Nat} {x y : Int32} (hs : S 85 = false) : WP 21 G S (f + 1) 85 ls (.int y :: .int x :: st) h k n = (if x = y then WP 21 G S f 88 ls st h k n else WP 21 G S f 101 ls st h k n) := by rw [wp_s dd_21_85 rfl hs]; exact br_iten (c := x = y)
theorem dd_21_88 : decode (mB 21) 88 = .ok (.aload_n 0, 1) := by decide +kernel
theorem u_21_88 {G : aG} {S : Nat → Bool} {f : Nat} {st : List Value} {ls : aL} {h : aH} {k n : Nat} (hs : S 88 = false) : WP 21 G S (f + 1) 88 ls st h k n = (oA (lget ls 0) (WP 21 G S f) 89 ls st h k n) := by rw [wp_s dd_21_88 rfl hs]; rfl
theorem dd_21_89 : decode (mB 21) 89 = .ok (.iload 6, 2) := by decide +kernel
theorem u_21_89 {G : aG} {S : Nat → Bool} {f : Nat} {st : List Value} {ls : aL} {h : aH} {k n : Nat} (hs : S 89 = false) : WP 21 G S (f + 1) 89 ls st h k n = (oI (lget ls 6) (WP 21 G S f) 91 ls st h k n) := by rw [wp_s dd_21_89 rfl hs]; rfl
theorem dd_21_91 : decode (mB 21) 91 = .ok (.iload_n 2, 1) := by decide +kernel
theorem u_21_91 {G : aG} {S : Nat → Bool} {f : Nat} {st : List Value} {ls : aL} {h : aH} {k n : Nat} (hs : S 91 = false) : WP 21 G S (f + 1) 91 ls st h k n = (oI (lget ls 2) (WP 21 G S f) 92 ls st h k n) := by rw [wp_s dd_21_91 rfl hs]; rfl
theorem dd_21_92 : decode (mB 21) 92 = .ok (.invokevirtual 59, 3) := by decide +kernel
theorem u_21_92 {G : aG} {S : Nat → Bool} {f : Nat} {st : List Value} {ls : aL} {h : aH} {k n : Nat} {v1 v2 : Value} {b : Nat} (hs : S 92 = false) : WP 21 G S (f + 1) 92 ls (v2 :: v1 :: .ref b :: st) h k n = (rcv (hget h b) 5 ∧ CAL G (WP 21 G S f) 14 [.ref b, v1, v2] 95 ls st h k n) := by rw [wp_s dd_21_92 rfl hs]; rfl
theorem dd_21_95 : decode (mB 21) 95 = .ok (.ifCond .eq 20, 3) := by decide +kernel
theorem u_21_95 {G : aG} {S : Nat → Bool} {f : Nat} {st : List Value} {ls : aL} {h : aH} {k n : Nat} {x : Int32} (hs : S 95 = false) : WP 21 G S (f + 1) 95 ls (.int x :: st) h k n = (if x = nI 0 then WP 21 G S f 115 ls st h k n else WP 21 G S f 98 ls st h k n) := by rw [wp_s dd_21_95 rfl hs]; exact br_ite (c := x = nI 0)
theorem dd_21_98 : decode (mB 21) 98 = .ok (.goto 7, 3) := by decide +kernel
theorem u_21_98 {G : aG} {S : Nat → Bool} {f : Nat} {st : List Value} {ls : aL} {h : aH} {k n : Nat} (hs : S 98 = false) : WP 21 G S (f + 1) 98 ls st h k n = (WP 21 G S f 105 ls st h k n) := by rw [wp_s dd_21_98 rfl hs]; rfl
theorem dd_21_101 : decode (mB 21) 101 = .ok (.iload_n 2, 1) := by decide +kernel
theorem u_21_101 {G : aG} {S : Nat → Bool} {f : Nat} {st : List Value} {ls : aL} {h : aH} {k n : Nat} (hs : S 101 = false) : WP 21 G S (f + 1) 101 ls st h k n = (oI (lget ls 2) (WP 21 G S f) 102 ls st h k n) := by rw [wp_s dd_21_101 rfl hs]; rfl
theorem dd_21_102 : decode (mB 21) 102 = .ok (.ifCond .ne 13, 3) := by decide +kernel
theorem u_21_102 {G : aG} {S : Nat → Bool} {f : Nat} {st : List Value} {ls : aL} {h : aH} {k n : Nat} {x : Int32} (hs : S 102 = false) : WP 21 G S (f + 1) 102 ls (.int x :: st) h k n = (if x = nI 0 then WP 21 G S f 105 ls st h k n else WP 21 G S f 115 ls st h k n) := by rw [wp_s dd_21_102 rfl hs]; exact br_iten (c := x = nI 0)
theorem dd_21_105 : decode (mB 21) 105 = .ok (.aload_n 0, 1) := by decide +kernel
theorem u_21_105 {G : aG} {S : Nat → Bool} {f : Nat} {st : List Value} {ls : aL} {h : aH} {k n : Nat} (hs : S 105 = false) : WP 21 G S (f + 1) 105 ls st h k n = (oA (lget ls 0) (WP 21 G S f) 106 ls st h k n) := by rw [wp_s dd_21_105 rfl hs]; rfl
theorem dd_21_106 : decode (mB 21) 106 = .ok (.iload 5, 2) := by decide +kernel
theorem u_21_106 {G : aG} {S : Nat → Bool} {f : Nat} {st : List Value} {ls : aL} {h : aH} {k n : Nat} (hs : S 106 = false) : WP 21 G S (f + 1) 106 ls st h k n = (oI (lget ls 5) (WP 21 G S f) 108 ls st h k n) := by rw [wp_s dd_21_106 rfl hs]; rfl
theorem dd_21_108 : decode (mB 21) 108 = .ok (.iconst 0, 1) := by decide +kernel
theorem u_21_108 {G : aG} {S : Nat → Bool} {f : Nat} {st : List Value} {ls : aL} {h : aH} {k n : Nat} (hs : S 108 = false) : WP 21 G S (f + 1) 108 ls st h k n = (WP 21 G S f 109 ls (.int (nI 0) :: st) h k n) := by rw [wp_s dd_21_108 rfl hs]; rfl
theorem dd_21_109 : decode (mB 21) 109 = .ok (.iload_n 3, 1) := by decide +kernel
theorem u_21_109 {G : aG} {S : Nat → Bool} {f : Nat} {st : List Value} {ls : aL} {h : aH} {k n : Nat} (hs : S 109 = false) : WP 21 G S (f + 1) 109 ls st h k n = (oI (lget ls 3) (WP 21 G S f) 110 ls st h k n) := by rw [wp_s dd_21_109 rfl hs]; rfl
theorem dd_21_110 : decode (mB 21) 110 = .ok (.iload 7, 2) := by decide +kernel
theorem u_21_110 {G : aG} {S : Nat → Bool} {f : Nat} {st : List Value} {ls : aL} {h : aH} {k n : Nat} (hs : S 110 = false) : WP 21 G S (f + 1) 110 ls st h k n = (oI (lget ls 7) (WP 21 G S f) 112 ls st h k n) := by rw [wp_s dd_21_110 rfl hs]; rfl
theorem dd_21_112 : decode (mB 21) 112 = .ok (.invokevirtual 69, 3) := by decide +kernel
theorem u_21_112 {G : aG} {S : Nat → Bool} {f : Nat} {st : List Value} {ls : aL} {h : aH} {k n : Nat} {v1 v2 v3 v4 : Value} {b : Nat} (hs : S 112 = false) : WP 21 G S (f + 1) 112 ls (v4 :: v3 :: v2 :: v1 :: .ref b :: st) h k n = (rcv (hget h b) 5 ∧ CAL G (WP 21 G S f) 16 [.ref b, v1, v2, v3, v4] 115 ls st h k n) := by rw [wp_s dd_21_112 rfl hs]; rfl
theorem dd_21_115 : decode (mB 21) 115 = .ok (.return_, 1) := by decide +kernel
theorem u_21_115 {G : aG} {S : Nat → Bool} {f : Nat} {ls : aL} {h : aH} {k n : Nat} (hs : S 115 = false) : WP 21 G S (f + 1) 115 ls [] h k n = (RET G none h k n) := by rw [wp_s dd_21_115 rfl hs]; rfl
theorem dd_63_0 : decode (mB 63) 0 = .ok (.aload_n 0, 1) := by decide +kernel
theorem u_63_0 {G : aG} {S : Nat → Bool} {f : Nat} {st : List Value} {ls : aL} {h : aH} {k n : Nat} (hs : S 0 = false) : WP 63 G S (f + 1) 0 ls st h k n = (oA (lget ls 0) (WP 63 G S f) 1 ls st h k n) := by rw [wp_s dd_63_0 rfl hs]; rfl
theorem dd_63_1 : decode (mB 63) 1 = .ok (.getfield 39, 3) := by decide +kernel
theorem u_63_1 {G : aG} {S : Nat → Bool} {f : Nat} {st : List Value} {ls : aL} {h : aH} {k n : Nat} {a : Nat} (hs : S 1 = false) : WP 63 G S (f + 1) 1 ls (.ref a :: st) h k n = (oV (fget h a 5 5) (WP 63 G S f) 4 ls st h k n) := by rw [wp_s dd_63_1 rfl hs]; rfl
theorem dd_63_4 : decode (mB 63) 4 = .ok (.ifCond .lt 15, 3) := by decide +kernel
theorem u_63_4 {G : aG} {S : Nat → Bool} {f : Nat} {st : List Value} {ls : aL} {h : aH} {k n : Nat} {x : Int32} (hs : S 4 = false) : WP 63 G S (f + 1) 4 ls (.int x :: st) h k n = (if x < nI 0 then WP 63 G S f 19 ls st h k n else WP 63 G S f 7 ls st h k n) := by rw [wp_s dd_63_4 rfl hs]; exact br_ite (c := x < nI 0)
theorem dd_63_7 : decode (mB 63) 7 = .ok (.aload_n 0, 1) := by decide +kernel
theorem u_63_7 {G : aG} {S : Nat → Bool} {f : Nat} {st : List Value} {ls : aL} {h : aH} {k n : Nat} (hs : S 7 = false) : WP 63 G S (f + 1) 7 ls st h k n = (oA (lget ls 0) (WP 63 G S f) 8 ls st h k n) := by rw [wp_s dd_63_7 rfl hs]; rfl
theorem dd_63_8 : decode (mB 63) 8 = .ok (.getfield 24, 3) := by decide +kernel
theorem u_63_8 {G : aG} {S : Nat → Bool} {f : Nat} {st : List Value} {ls : aL} {h : aH} {k n : Nat} {a : Nat} (hs : S 8 = false) : WP 63 G S (f + 1) 8 ls (.ref a :: st) h k n = (oV (fget h a 5 4) (WP 63 G S f) 11 ls st h k n) := by rw [wp_s dd_63_8 rfl hs]; rfl
theorem dd_63_11 : decode (mB 63) 11 = .ok (.aload_n 0, 1) := by decide +kernel
theorem u_63_11 {G : aG} {S : Nat → Bool} {f : Nat} {st : List Value} {ls : aL} {h : aH} {k n : Nat} (hs : S 11 = false) : WP 63 G S (f + 1) 11 ls st h k n = (oA (lget ls 0) (WP 63 G S f) 12 ls st h k n) := by rw [wp_s dd_63_11 rfl hs]; rfl
theorem dd_63_12 : decode (mB 63) 12 = .ok (.getfield 39, 3) := by decide +kernel
theorem u_63_12 {G : aG} {S : Nat → Bool} {f : Nat} {st : List Value} {ls : aL} {h : aH} {k n : Nat} {a : Nat} (hs : S 12 = false) : WP 63 G S (f + 1) 12 ls (.ref a :: st) h k n = (oV (fget h a 5 5) (WP 63 G S f) 15 ls st h k n) := by rw [wp_s dd_63_12 rfl hs]; rfl
theorem dd_63_15 : decode (mB 63) 15 = .ok (.iaload, 1) := by decide +kernel
theorem u_63_15 {G : aG} {S : Nat → Bool} {f : Nat} {st : List Value} {ls : aL} {h : aH} {k n : Nat} {i : Int32} {a : Nat} (hs : S 15 = false) : WP 63 G S (f + 1) 15 ls (.int i :: .ref a :: st) h k n = (oIld (iget h a 1) i (WP 63 G S f) 16 ls st h k n) := by rw [wp_s dd_63_15 rfl hs]; rfl
theorem dd_63_16 : decode (mB 63) 16 = .ok (.goto 4, 3) := by decide +kernel
theorem u_63_16 {G : aG} {S : Nat → Bool} {f : Nat} {st : List Value} {ls : aL} {h : aH} {k n : Nat} (hs : S 16 = false) : WP 63 G S (f + 1) 16 ls st h k n = (WP 63 G S f 20 ls st h k n) := by rw [wp_s dd_63_16 rfl hs]; rfl
theorem dd_63_19 : decode (mB 63) 19 = .ok (.iconst 0, 1) := by decide +kernel
theorem u_63_19 {G : aG} {S : Nat → Bool} {f : Nat} {st : List Value} {ls : aL} {h : aH} {k n : Nat} (hs : S 19 = false) : WP 63 G S (f + 1) 19 ls st h k n = (WP 63 G S f 20 ls (.int (nI 0) :: st) h k n) := by rw [wp_s dd_63_19 rfl hs]; rfl
theorem dd_63_20 : decode (mB 63) 20 = .ok (.ireturn, 1) := by decide +kernel
theorem u_63_20 {G : aG} {S : Nat → Bool} {f : Nat} {ls : aL} {h : aH} {k n : Nat} {x : Int32} (hs : S 20 = false) : WP 63 G S (f + 1) 20 ls [.int x] h k n = (RET G (some (.int x)) h k n) := by rw [wp_s dd_63_20 rfl hs]; rfl
theorem dd_74_0 : decode (mB 74) 0 = .ok (.iconst 0, 1) := by decide +kernel
theorem u_74_0 {G : aG} {S : Nat → Bool} {f : Nat} {st : List Value} {ls : aL} {h : aH} {k n : Nat} (hs : S 0 = false) : WP 74 G S (f + 1) 0 ls st h k n = (WP 74 G S f 1 ls (.int (nI 0) :: st) h k n) := by rw [wp_s dd_74_0 rfl hs]; rfl
theorem dd_74_1 : decode (mB 74) 1 = .ok (.istore 4, 2) := by decide +kernel
theorem u_74_1 {G : aG} {S : Nat → Bool} {f : Nat} {st : List Value} {ls : aL} {h : aH} {k n : Nat} {x : Int32} (hs : S 1 = false) : WP 74 G S (f + 1) 1 ls (.int x :: st) h k n = (WP 74 G S f 3 (lput1 ls 4 (.int x)) st h k n) := by rw [wp_s dd_74_1 rfl hs]; rfl
theorem dd_74_3 : decode (mB 74) 3 = .ok (.iload_n 1, 1) := by decide +kernel
theorem u_74_3 {G : aG} {S : Nat → Bool} {f : Nat} {st : List Value} {ls : aL} {h : aH} {k n : Nat} (hs : S 3 = false) : WP 74 G S (f + 1) 3 ls st h k n = (oI (lget ls 1) (WP 74 G S f) 4 ls st h k n) := by rw [wp_s dd_74_3 rfl hs]; rfl
theorem dd_74_4 : decode (mB 74) 4 = .ok (.ifCond .lt 11, 3) := by decide +kernel
theorem u_74_4 {G : aG} {S : Nat → Bool} {f : Nat} {st : List Value} {ls : aL} {h : aH} {k n : Nat} {x : Int32} (hs : S 4 = false) : WP 74 G S (f + 1) 4 ls (.int x :: st) h k n = (if x < nI 0 then WP 74 G S f 15 ls st h k n else WP 74 G S f 7 ls st h k n) := by rw [wp_s dd_74_4 rfl hs]; exact br_ite (c := x < nI 0)
theorem dd_74_7 : decode (mB 74) 7 = .ok (.iload_n 1, 1) := by decide +kernel
theorem u_74_7 {G : aG} {S : Nat → Bool} {f : Nat} {st : List Value} {ls : aL} {h : aH} {k n : Nat} (hs : S 7 = false) : WP 74 G S (f + 1) 7 ls st h k n = (oI (lget ls 1) (WP 74 G S f) 8 ls st h k n) := by rw [wp_s dd_74_7 rfl hs]; rfl
theorem dd_74_8 : decode (mB 74) 8 = .ok (.aload_n 0, 1) := by decide +kernel
theorem u_74_8 {G : aG} {S : Nat → Bool} {f : Nat} {st : List Value} {ls : aL} {h : aH} {k n : Nat} (hs : S 8 = false) : WP 74 G S (f + 1) 8 ls st h k n = (oA (lget ls 0) (WP 74 G S f) 9 ls st h k n) := by rw [wp_s dd_74_8 rfl hs]; rfl
theorem dd_74_9 : decode (mB 74) 9 = .ok (.getfield 56, 3) := by decide +kernel
theorem u_74_9 {G : aG} {S : Nat → Bool} {f : Nat} {st : List Value} {ls : aL} {h : aH} {k n : Nat} {a : Nat} (hs : S 9 = false) : WP 74 G S (f + 1) 9 ls (.ref a :: st) h k n = (oV (fget h a 5 6) (WP 74 G S f) 12 ls st h k n) := by rw [wp_s dd_74_9 rfl hs]; rfl
theorem dd_74_12 : decode (mB 74) 12 = .ok (.if_icmp .lt 6, 3) := by decide +kernel
theorem u_74_12 {G : aG} {S : Nat → Bool} {f : Nat} {st : List Value} {ls : aL} {h : aH} {k n : Nat} {x y : Int32} (hs : S 12 = false) : WP 74 G S (f + 1) 12 ls (.int y :: .int x :: st) h k n = (if x < y then WP 74 G S f 18 ls st h k n else WP 74 G S f 15 ls st h k n) := by rw [wp_s dd_74_12 rfl hs]; exact br_ite (c := x < y)
theorem dd_74_15 : decode (mB 74) 15 = .ok (.iload 4, 2) := by decide +kernel
theorem u_74_15 {G : aG} {S : Nat → Bool} {f : Nat} {st : List Value} {ls : aL} {h : aH} {k n : Nat} (hs : S 15 = false) : WP 74 G S (f + 1) 15 ls st h k n = (oI (lget ls 4) (WP 74 G S f) 17 ls st h k n) := by rw [wp_s dd_74_15 rfl hs]; rfl
theorem dd_74_17 : decode (mB 74) 17 = .ok (.ireturn, 1) := by decide +kernel
theorem u_74_17 {G : aG} {S : Nat → Bool} {f : Nat} {ls : aL} {h : aH} {k n : Nat} {x : Int32} (hs : S 17 = false) : WP 74 G S (f + 1) 17 ls [.int x] h k n = (RET G (some (.int x)) h k n) := by rw [wp_s dd_74_17 rfl hs]; rfl
theorem dd_74_18 : decode (mB 74) 18 = .ok (.aload_n 0, 1) := by decide +kernel
theorem u_74_18 {G : aG} {S : Nat → Bool} {f : Nat} {st : List Value} {ls : aL} {h : aH} {k n : Nat} (hs : S 18 = false) : WP 74 G S (f + 1) 18 ls st h k n = (oA (lget ls 0) (WP 74 G S f) 19 ls st h k n) := by rw [wp_s dd_74_18 rfl hs]; rfl
theorem dd_74_19 : decode (mB 74) 19 = .ok (.getfield 33, 3) := by decide +kernel
theorem u_74_19 {G : aG} {S : Nat → Bool} {f : Nat} {st : List Value} {ls : aL} {h : aH} {k n : Nat} {a : Nat} (hs : S 19 = false) : WP 74 G S (f + 1) 19 ls (.ref a :: st) h k n = (oV (fget h a 5 10) (WP 74 G S f) 22 ls st h k n) := by rw [wp_s dd_74_19 rfl hs]; rfl
theorem dd_74_22 : decode (mB 74) 22 = .ok (.iload_n 1, 1) := by decide +kernel
theorem u_74_22 {G : aG} {S : Nat → Bool} {f : Nat} {st : List Value} {ls : aL} {h : aH} {k n : Nat} (hs : S 22 = false) : WP 74 G S (f + 1) 22 ls st h k n = (oI (lget ls 1) (WP 74 G S f) 23 ls st h k n) := by rw [wp_s dd_74_22 rfl hs]; rfl
theorem dd_74_23 : decode (mB 74) 23 = .ok (.iaload, 1) := by decide +kernel
theorem u_74_23 {G : aG} {S : Nat → Bool} {f : Nat} {st : List Value} {ls : aL} {h : aH} {k n : Nat} {i : Int32} {a : Nat} (hs : S 23 = false) : WP 74 G S (f + 1) 23 ls (.int i :: .ref a :: st) h k n = (oIld (iget h a 1) i (WP 74 G S f) 24 ls st h k n) := by rw [wp_s dd_74_23 rfl hs]; rfl
theorem dd_74_24 : decode (mB 74) 24 = .ok (.istore 5, 2) := by decide +kernel
theorem u_74_24 {G : aG} {S : Nat → Bool} {f : Nat} {st : List Value} {ls : aL} {h : aH} {k n : Nat} {x : Int32} (hs : S 24 = false) : WP 74 G S (f + 1) 24 ls (.int x :: st) h k n = (WP 74 G S f 26 (lput1 ls 5 (.int x)) st h k n) := by rw [wp_s dd_74_24 rfl hs]; rfl
theorem dd_74_26 : decode (mB 74) 26 = .ok (.iload 5, 2) := by decide +kernel
theorem u_74_26 {G : aG} {S : Nat → Bool} {f : Nat} {st : List Value} {ls : aL} {h : aH} {k n : Nat} (hs : S 26 = false) : WP 74 G S (f + 1) 26 ls st h k n = (oI (lget ls 5) (WP 74 G S f) 28 ls st h k n) := by rw [wp_s dd_74_26 rfl hs]; rfl
theorem v_74_26 {G : aG} {S : Nat → Bool} {f : Nat} {st : List Value} {ls : aL} {h : aH} {k n : Nat} : WQ 74 G S f 26 ls st h k n = (oI (lget ls 5) (WP 74 G S f) 28 ls st h k n) := by rw [wq_s dd_74_26 rfl]; rfl
theorem dd_74_28 : decode (mB 74) 28 = .ok (.aload_n 0, 1) := by decide +kernel
theorem u_74_28 {G : aG} {S : Nat → Bool} {f : Nat} {st : List Value} {ls : aL} {h : aH} {k n : Nat} (hs : S 28 = false) : WP 74 G S (f + 1) 28 ls st h k n = (oA (lget ls 0) (WP 74 G S f) 29 ls st h k n) := by rw [wp_s dd_74_28 rfl hs]; rfl
theorem dd_74_29 : decode (mB 74) 29 = .ok (.getfield 36, 3) := by decide +kernel
theorem u_74_29 {G : aG} {S : Nat → Bool} {f : Nat} {st : List Value} {ls : aL} {h : aH} {k n : Nat} {a : Nat} (hs : S 29 = false) : WP 74 G S (f + 1) 29 ls (.ref a :: st) h k n = (oV (fget h a 5 11) (WP 74 G S f) 32 ls st h k n) := by rw [wp_s dd_74_29 rfl hs]; rfl
theorem dd_74_32 : decode (mB 74) 32 = .ok (.iload_n 1, 1) := by decide +kernel
theorem u_74_32 {G : aG} {S : Nat → Bool} {f : Nat} {st : List Value} {ls : aL} {h : aH} {k n : Nat} (hs : S 32 = false) : WP 74 G S (f + 1) 32 ls st h k n = (oI (lget ls 1) (WP 74 G S f) 33 ls st h k n) := by rw [wp_s dd_74_32 rfl hs]; rfl
theorem dd_74_33 : decode (mB 74) 33 = .ok (.iaload, 1) := by decide +kernel
theorem u_74_33 {G : aG} {S : Nat → Bool} {f : Nat} {st : List Value} {ls : aL} {h : aH} {k n : Nat} {i : Int32} {a : Nat} (hs : S 33 = false) : WP 74 G S (f + 1) 33 ls (.int i :: .ref a :: st) h k n = (oIld (iget h a 1) i (WP 74 G S f) 34 ls st h k n) := by rw [wp_s dd_74_33 rfl hs]; rfl
theorem dd_74_34 : decode (mB 74) 34 = .ok (.if_icmp .ge 84, 3) := by decide +kernel
theorem u_74_34 {G : aG} {S : Nat → Bool} {f : Nat} {st : List Value} {ls : aL} {h : aH} {k n : Nat} {x y : Int32} (hs : S 34 = false) : WP 74 G S (f + 1) 34 ls (.int y :: .int x :: st) h k n = (if y ≤ x then WP 74 G S f 118 ls st h k n else WP 74 G S f 37 ls st h k n) := by rw [wp_s dd_74_34 rfl hs]; exact br_ite (c := y ≤ x)
theorem dd_74_37 : decode (mB 74) 37 = .ok (.aload_n 0, 1) := by decide +kernel
theorem u_74_37 {G : aG} {S : Nat → Bool} {f : Nat} {st : List Value} {ls : aL} {h : aH} {k n : Nat} (hs : S 37 = false) : WP 74 G S (f + 1) 37 ls st h k n = (oA (lget ls 0) (WP 74 G S f) 38 ls st h k n) := by rw [wp_s dd_74_37 rfl hs]; rfl
theorem dd_74_38 : decode (mB 74) 38 = .ok (.getfield 30, 3) := by decide +kernel
theorem u_74_38 {G : aG} {S : Nat → Bool} {f : Nat} {st : List Value} {ls : aL} {h : aH} {k n : Nat} {a : Nat} (hs : S 38 = false) : WP 74 G S (f + 1) 38 ls (.ref a :: st) h k n = (oV (fget h a 5 9) (WP 74 G S f) 41 ls st h k n) := by rw [wp_s dd_74_38 rfl hs]; rfl
theorem dd_74_41 : decode (mB 74) 41 = .ok (.iload 5, 2) := by decide +kernel
theorem u_74_41 {G : aG} {S : Nat → Bool} {f : Nat} {st : List Value} {ls : aL} {h : aH} {k n : Nat} (hs : S 41 = false) : WP 74 G S (f + 1) 41 ls st h k n = (oI (lget ls 5) (WP 74 G S f) 43 ls st h k n) := by rw [wp_s dd_74_41 rfl hs]; rfl
theorem dd_74_43 : decode (mB 74) 43 = .ok (.iaload, 1) := by decide +kernel
theorem u_74_43 {G : aG} {S : Nat → Bool} {f : Nat} {st : List Value} {ls : aL} {h : aH} {k n : Nat} {i : Int32} {a : Nat} (hs : S 43 = false) : WP 74 G S (f + 1) 43 ls (.int i :: .ref a :: st) h k n = (oIld (iget h a 1) i (WP 74 G S f) 44 ls st h k n) := by rw [wp_s dd_74_43 rfl hs]; rfl
theorem dd_74_44 : decode (mB 74) 44 = .ok (.sipush 255, 3) := by decide +kernel
theorem u_74_44 {G : aG} {S : Nat → Bool} {f : Nat} {st : List Value} {ls : aL} {h : aH} {k n : Nat} (hs : S 44 = false) : WP 74 G S (f + 1) 44 ls st h k n = (WP 74 G S f 47 ls (.int (nI 255) :: st) h k n) := by rw [wp_s dd_74_44 rfl hs]; rfl
theorem dd_74_47 : decode (mB 74) 47 = .ok (.iand, 1) := by decide +kernel
theorem u_74_47 {G : aG} {S : Nat → Bool} {f : Nat} {st : List Value} {ls : aL} {h : aH} {k n : Nat} {x y : Int32} (hs : S 47 = false) : WP 74 G S (f + 1) 47 ls (.int y :: .int x :: st) h k n = (WP 74 G S f 48 ls (.int (x &&& y) :: st) h k n) := by rw [wp_s dd_74_47 rfl hs]; rfl
theorem dd_74_48 : decode (mB 74) 48 = .ok (.istore 6, 2) := by decide +kernel
theorem u_74_48 {G : aG} {S : Nat → Bool} {f : Nat} {st : List Value} {ls : aL} {h : aH} {k n : Nat} {x : Int32} (hs : S 48 = false) : WP 74 G S (f + 1) 48 ls (.int x :: st) h k n = (WP 74 G S f 50 (lput1 ls 6 (.int x)) st h k n) := by rw [wp_s dd_74_48 rfl hs]; rfl
theorem dd_74_50 : decode (mB 74) 50 = .ok (.aload_n 0, 1) := by decide +kernel
theorem u_74_50 {G : aG} {S : Nat → Bool} {f : Nat} {st : List Value} {ls : aL} {h : aH} {k n : Nat} (hs : S 50 = false) : WP 74 G S (f + 1) 50 ls st h k n = (oA (lget ls 0) (WP 74 G S f) 51 ls st h k n) := by rw [wp_s dd_74_50 rfl hs]; rfl
theorem dd_74_51 : decode (mB 74) 51 = .ok (.getfield 30, 3) := by decide +kernel
theorem u_74_51 {G : aG} {S : Nat → Bool} {f : Nat} {st : List Value} {ls : aL} {h : aH} {k n : Nat} {a : Nat} (hs : S 51 = false) : WP 74 G S (f + 1) 51 ls (.ref a :: st) h k n = (oV (fget h a 5 9) (WP 74 G S f) 54 ls st h k n) := by rw [wp_s dd_74_51 rfl hs]; rfl
theorem dd_74_54 : decode (mB 74) 54 = .ok (.iload 5, 2) := by decide +kernel
theorem u_74_54 {G : aG} {S : Nat → Bool} {f : Nat} {st : List Value} {ls : aL} {h : aH} {k n : Nat} (hs : S 54 = false) : WP 74 G S (f + 1) 54 ls st h k n = (oI (lget ls 5) (WP 74 G S f) 56 ls st h k n) := by rw [wp_s dd_74_54 rfl hs]; rfl
theorem dd_74_56 : decode (mB 74) 56 = .ok (.iaload, 1) := by decide +kernel
theorem u_74_56 {G : aG} {S : Nat → Bool} {f : Nat} {st : List Value} {ls : aL} {h : aH} {k n : Nat} {i : Int32} {a : Nat} (hs : S 56 = false) : WP 74 G S (f + 1) 56 ls (.int i :: .ref a :: st) h k n = (oIld (iget h a 1) i (WP 74 G S f) 57 ls st h k n) := by rw [wp_s dd_74_56 rfl hs]; rfl
theorem dd_74_57 : decode (mB 74) 57 = .ok (.bipush 8, 2) := by decide +kernel
theorem u_74_57 {G : aG} {S : Nat → Bool} {f : Nat} {st : List Value} {ls : aL} {h : aH} {k n : Nat} (hs : S 57 = false) : WP 74 G S (f + 1) 57 ls st h k n = (WP 74 G S f 59 ls (.int (nI 8) :: st) h k n) := by rw [wp_s dd_74_57 rfl hs]; rfl
theorem dd_74_59 : decode (mB 74) 59 = .ok (.ishr, 1) := by decide +kernel
theorem u_74_59 {G : aG} {S : Nat → Bool} {f : Nat} {st : List Value} {ls : aL} {h : aH} {k n : Nat} {x y : Int32} (hs : S 59 = false) : WP 74 G S (f + 1) 59 ls (.int y :: .int x :: st) h k n = (WP 74 G S f 60 ls (.int (x >>> (y &&& 31)) :: st) h k n) := by rw [wp_s dd_74_59 rfl hs]; rfl
theorem dd_74_60 : decode (mB 74) 60 = .ok (.iload_n 2, 1) := by decide +kernel
theorem u_74_60 {G : aG} {S : Nat → Bool} {f : Nat} {st : List Value} {ls : aL} {h : aH} {k n : Nat} (hs : S 60 = false) : WP 74 G S (f + 1) 60 ls st h k n = (oI (lget ls 2) (WP 74 G S f) 61 ls st h k n) := by rw [wp_s dd_74_60 rfl hs]; rfl
theorem dd_74_61 : decode (mB 74) 61 = .ok (.if_icmp .ne 51, 3) := by decide +kernel
theorem u_74_61 {G : aG} {S : Nat → Bool} {f : Nat} {st : List Value} {ls : aL} {h : aH} {k n : Nat} {x y : Int32} (hs : S 61 = false) : WP 74 G S (f + 1) 61 ls (.int y :: .int x :: st) h k n = (if x = y then WP 74 G S f 64 ls st h k n else WP 74 G S f 112 ls st h k n) := by rw [wp_s dd_74_61 rfl hs]; exact br_iten (c := x = y)
theorem dd_74_64 : decode (mB 74) 64 = .ok (.iload 6, 2) := by decide +kernel
theorem u_74_64 {G : aG} {S : Nat → Bool} {f : Nat} {st : List Value} {ls : aL} {h : aH} {k n : Nat} (hs : S 64 = false) : WP 74 G S (f + 1) 64 ls st h k n = (oI (lget ls 6) (WP 74 G S f) 66 ls st h k n) := by rw [wp_s dd_74_64 rfl hs]; rfl
theorem dd_74_66 : decode (mB 74) 66 = .ok (.aload_n 0, 1) := by decide +kernel
theorem u_74_66 {G : aG} {S : Nat → Bool} {f : Nat} {st : List Value} {ls : aL} {h : aH} {k n : Nat} (hs : S 66 = false) : WP 74 G S (f + 1) 66 ls st h k n = (oA (lget ls 0) (WP 74 G S f) 67 ls st h k n) := by rw [wp_s dd_74_66 rfl hs]; rfl
theorem dd_74_67 : decode (mB 74) 67 = .ok (.getfield 56, 3) := by decide +kernel
theorem u_74_67 {G : aG} {S : Nat → Bool} {f : Nat} {st : List Value} {ls : aL} {h : aH} {k n : Nat} {a : Nat} (hs : S 67 = false) : WP 74 G S (f + 1) 67 ls (.ref a :: st) h k n = (oV (fget h a 5 6) (WP 74 G S f) 70 ls st h k n) := by rw [wp_s dd_74_67 rfl hs]; rfl
theorem dd_74_70 : decode (mB 74) 70 = .ok (.if_icmp .ge 42, 3) := by decide +kernel
theorem u_74_70 {G : aG} {S : Nat → Bool} {f : Nat} {st : List Value} {ls : aL} {h : aH} {k n : Nat} {x y : Int32} (hs : S 70 = false) : WP 74 G S (f + 1) 70 ls (.int y :: .int x :: st) h k n = (if y ≤ x then WP 74 G S f 112 ls st h k n else WP 74 G S f 73 ls st h k n) := by rw [wp_s dd_74_70 rfl hs]; exact br_ite (c := y ≤ x)
theorem dd_74_73 : decode (mB 74) 73 = .ok (.iload 6, 2) := by decide +kernel
theorem u_74_73 {G : aG} {S : Nat → Bool} {f : Nat} {st : List Value} {ls : aL} {h : aH} {k n : Nat} (hs : S 73 = false) : WP 74 G S (f + 1) 73 ls st h k n = (oI (lget ls 6) (WP 74 G S f) 75 ls st h k n) := by rw [wp_s dd_74_73 rfl hs]; rfl
theorem dd_74_75 : decode (mB 74) 75 = .ok (.bipush 6, 2) := by decide +kernel
theorem u_74_75 {G : aG} {S : Nat → Bool} {f : Nat} {st : List Value} {ls : aL} {h : aH} {k n : Nat} (hs : S 75 = false) : WP 74 G S (f + 1) 75 ls st h k n = (WP 74 G S f 77 ls (.int (nI 6) :: st) h k n) := by rw [wp_s dd_74_75 rfl hs]; rfl
theorem dd_74_77 : decode (mB 74) 77 = .ok (.ishr, 1) := by decide +kernel
theorem u_74_77 {G : aG} {S : Nat → Bool} {f : Nat} {st : List Value} {ls : aL} {h : aH} {k n : Nat} {x y : Int32} (hs : S 77 = false) : WP 74 G S (f + 1) 77 ls (.int y :: .int x :: st) h k n = (WP 74 G S f 78 ls (.int (x >>> (y &&& 31)) :: st) h k n) := by rw [wp_s dd_74_77 rfl hs]; rfl
theorem dd_74_78 : decode (mB 74) 78 = .ok (.aload_n 3, 1) := by decide +kernel
theorem u_74_78 {G : aG} {S : Nat → Bool} {f : Nat} {st : List Value} {ls : aL} {h : aH} {k n : Nat} (hs : S 78 = false) : WP 74 G S (f + 1) 78 ls st h k n = (oA (lget ls 3) (WP 74 G S f) 79 ls st h k n) := by rw [wp_s dd_74_78 rfl hs]; rfl
theorem dd_74_79 : decode (mB 74) 79 = .ok (.arraylength, 1) := by decide +kernel
theorem u_74_79 {G : aG} {S : Nat → Bool} {f : Nat} {st : List Value} {ls : aL} {h : aH} {k n : Nat} {a : Nat} (hs : S 79 = false) : WP 74 G S (f + 1) 79 ls (.ref a :: st) h k n = (oLen (alen h a) (WP 74 G S f) 80 ls st h k n) := by rw [wp_s dd_74_79 rfl hs]; rfl
theorem dd_74_80 : decode (mB 74) 80 = .ok (.if_icmp .ge 32, 3) := by decide +kernel
theorem u_74_80 {G : aG} {S : Nat → Bool} {f : Nat} {st : List Value} {ls : aL} {h : aH} {k n : Nat} {x y : Int32} (hs : S 80 = false) : WP 74 G S (f + 1) 80 ls (.int y :: .int x :: st) h k n = (if y ≤ x then WP 74 G S f 112 ls st h k n else WP 74 G S f 83 ls st h k n) := by rw [wp_s dd_74_80 rfl hs]; exact br_ite (c := y ≤ x)
theorem dd_74_83 : decode (mB 74) 83 = .ok (.aload_n 3, 1) := by decide +kernel
theorem u_74_83 {G : aG} {S : Nat → Bool} {f : Nat} {st : List Value} {ls : aL} {h : aH} {k n : Nat} (hs : S 83 = false) : WP 74 G S (f + 1) 83 ls st h k n = (oA (lget ls 3) (WP 74 G S f) 84 ls st h k n) := by rw [wp_s dd_74_83 rfl hs]; rfl
theorem dd_74_84 : decode (mB 74) 84 = .ok (.iload 6, 2) := by decide +kernel
theorem u_74_84 {G : aG} {S : Nat → Bool} {f : Nat} {st : List Value} {ls : aL} {h : aH} {k n : Nat} (hs : S 84 = false) : WP 74 G S (f + 1) 84 ls st h k n = (oI (lget ls 6) (WP 74 G S f) 86 ls st h k n) := by rw [wp_s dd_74_84 rfl hs]; rfl
theorem dd_74_86 : decode (mB 74) 86 = .ok (.bipush 6, 2) := by decide +kernel
theorem u_74_86 {G : aG} {S : Nat → Bool} {f : Nat} {st : List Value} {ls : aL} {h : aH} {k n : Nat} (hs : S 86 = false) : WP 74 G S (f + 1) 86 ls st h k n = (WP 74 G S f 88 ls (.int (nI 6) :: st) h k n) := by rw [wp_s dd_74_86 rfl hs]; rfl
theorem dd_74_88 : decode (mB 74) 88 = .ok (.ishr, 1) := by decide +kernel
theorem u_74_88 {G : aG} {S : Nat → Bool} {f : Nat} {st : List Value} {ls : aL} {h : aH} {k n : Nat} {x y : Int32} (hs : S 88 = false) : WP 74 G S (f + 1) 88 ls (.int y :: .int x :: st) h k n = (WP 74 G S f 89 ls (.int (x >>> (y &&& 31)) :: st) h k n) := by rw [wp_s dd_74_88 rfl hs]; rfl
theorem dd_74_89 : decode (mB 74) 89 = .ok (.dup2, 1) := by decide +kernel
theorem u_74_89 {G : aG} {S : Nat → Bool} {f : Nat} {st : List Value} {ls : aL} {h : aH} {k n : Nat} {v v2 : Value} (hs : S 89 = false) : WP 74 G S (f + 1) 89 ls (v :: v2 :: st) h k n = (cond (cat1 v && cat1 v2) (WP 74 G S f 90 ls (v :: v2 :: v :: v2 :: st) h k n) False) := by rw [wp_s dd_74_89 rfl hs]; rfl
theorem dd_74_90 : decode (mB 74) 90 = .ok (.laload, 1) := by decide +kernel
theorem u_74_90 {G : aG} {S : Nat → Bool} {f : Nat} {st : List Value} {ls : aL} {h : aH} {k n : Nat} {i : Int32} {a : Nat} (hs : S 90 = false) : WP 74 G S (f + 1) 90 ls (.int i :: .ref a :: st) h k n = (oJld (jget h a) i (WP 74 G S f) 91 ls st h k n) := by rw [wp_s dd_74_90 rfl hs]; rfl
theorem dd_74_91 : decode (mB 74) 91 = .ok (.lconst 1, 1) := by decide +kernel
theorem u_74_91 {G : aG} {S : Nat → Bool} {f : Nat} {st : List Value} {ls : aL} {h : aH} {k n : Nat} (hs : S 91 = false) : WP 74 G S (f + 1) 91 ls st h k n = (WP 74 G S f 92 ls (.long (lN 1) :: st) h k n) := by rw [wp_s dd_74_91 rfl hs]; rfl
theorem dd_74_92 : decode (mB 74) 92 = .ok (.iload 6, 2) := by decide +kernel
theorem u_74_92 {G : aG} {S : Nat → Bool} {f : Nat} {st : List Value} {ls : aL} {h : aH} {k n : Nat} (hs : S 92 = false) : WP 74 G S (f + 1) 92 ls st h k n = (oI (lget ls 6) (WP 74 G S f) 94 ls st h k n) := by rw [wp_s dd_74_92 rfl hs]; rfl
theorem dd_74_94 : decode (mB 74) 94 = .ok (.bipush 63, 2) := by decide +kernel
theorem u_74_94 {G : aG} {S : Nat → Bool} {f : Nat} {st : List Value} {ls : aL} {h : aH} {k n : Nat} (hs : S 94 = false) : WP 74 G S (f + 1) 94 ls st h k n = (WP 74 G S f 96 ls (.int (nI 63) :: st) h k n) := by rw [wp_s dd_74_94 rfl hs]; rfl
theorem dd_74_96 : decode (mB 74) 96 = .ok (.iand, 1) := by decide +kernel
theorem u_74_96 {G : aG} {S : Nat → Bool} {f : Nat} {st : List Value} {ls : aL} {h : aH} {k n : Nat} {x y : Int32} (hs : S 96 = false) : WP 74 G S (f + 1) 96 ls (.int y :: .int x :: st) h k n = (WP 74 G S f 97 ls (.int (x &&& y) :: st) h k n) := by rw [wp_s dd_74_96 rfl hs]; rfl
theorem dd_74_97 : decode (mB 74) 97 = .ok (.lshl, 1) := by decide +kernel
theorem u_74_97 {G : aG} {S : Nat → Bool} {f : Nat} {st : List Value} {ls : aL} {h : aH} {k n : Nat} {x : Int64} {y : Int32} (hs : S 97 = false) : WP 74 G S (f + 1) 97 ls (.int y :: .long x :: st) h k n = (WP 74 G S f 98 ls (.long (x <<< (y.toInt64 &&& 63)) :: st) h k n) := by rw [wp_s dd_74_97 rfl hs]; rfl
theorem dd_74_98 : decode (mB 74) 98 = .ok (.lor, 1) := by decide +kernel
theorem u_74_98 {G : aG} {S : Nat → Bool} {f : Nat} {st : List Value} {ls : aL} {h : aH} {k n : Nat} {x y : Int64} (hs : S 98 = false) : WP 74 G S (f + 1) 98 ls (.long y :: .long x :: st) h k n = (WP 74 G S f 99 ls (.long (x ||| y) :: st) h k n) := by rw [wp_s dd_74_98 rfl hs]; rfl
theorem dd_74_99 : decode (mB 74) 99 = .ok (.lastore, 1) := by decide +kernel
theorem u_74_99 {G : aG} {S : Nat → Bool} {f : Nat} {st : List Value} {ls : aL} {h : aH} {k n : Nat} {i : Int32} {x : Int64} {a : Nat} (hs : S 99 = false) : WP 74 G S (f + 1) 99 ls (.long x :: .int i :: .ref a :: st) h k n = (oJst (jget h a) a i x (WP 74 G S f) 100 ls st h k n) := by rw [wp_s dd_74_99 rfl hs]; rfl
theorem dd_74_100 : decode (mB 74) 100 = .ok (.iload 4, 2) := by decide +kernel
theorem u_74_100 {G : aG} {S : Nat → Bool} {f : Nat} {st : List Value} {ls : aL} {h : aH} {k n : Nat} (hs : S 100 = false) : WP 74 G S (f + 1) 100 ls st h k n = (oI (lget ls 4) (WP 74 G S f) 102 ls st h k n) := by rw [wp_s dd_74_100 rfl hs]; rfl
theorem dd_74_102 : decode (mB 74) 102 = .ok (.aload_n 0, 1) := by decide +kernel
theorem u_74_102 {G : aG} {S : Nat → Bool} {f : Nat} {st : List Value} {ls : aL} {h : aH} {k n : Nat} (hs : S 102 = false) : WP 74 G S (f + 1) 102 ls st h k n = (oA (lget ls 0) (WP 74 G S f) 103 ls st h k n) := by rw [wp_s dd_74_102 rfl hs]; rfl
theorem dd_74_103 : decode (mB 74) 103 = .ok (.getfield 27, 3) := by decide +kernel
theorem u_74_103 {G : aG} {S : Nat → Bool} {f : Nat} {st : List Value} {ls : aL} {h : aH} {k n : Nat} {a : Nat} (hs : S 103 = false) : WP 74 G S (f + 1) 103 ls (.ref a :: st) h k n = (oV (fget h a 5 8) (WP 74 G S f) 106 ls st h k n) := by rw [wp_s dd_74_103 rfl hs]; rfl
theorem dd_74_106 : decode (mB 74) 106 = .ok (.iload 6, 2) := by decide +kernel
theorem u_74_106 {G : aG} {S : Nat → Bool} {f : Nat} {st : List Value} {ls : aL} {h : aH} {k n : Nat} (hs : S 106 = false) : WP 74 G S (f + 1) 106 ls st h k n = (oI (lget ls 6) (WP 74 G S f) 108 ls st h k n) := by rw [wp_s dd_74_106 rfl hs]; rfl
theorem dd_74_108 : decode (mB 74) 108 = .ok (.iaload, 1) := by decide +kernel
theorem u_74_108 {G : aG} {S : Nat → Bool} {f : Nat} {st : List Value} {ls : aL} {h : aH} {k n : Nat} {i : Int32} {a : Nat} (hs : S 108 = false) : WP 74 G S (f + 1) 108 ls (.int i :: .ref a :: st) h k n = (oIld (iget h a 1) i (WP 74 G S f) 109 ls st h k n) := by rw [wp_s dd_74_108 rfl hs]; rfl
theorem dd_74_109 : decode (mB 74) 109 = .ok (.ior, 1) := by decide +kernel
theorem u_74_109 {G : aG} {S : Nat → Bool} {f : Nat} {st : List Value} {ls : aL} {h : aH} {k n : Nat} {x y : Int32} (hs : S 109 = false) : WP 74 G S (f + 1) 109 ls (.int y :: .int x :: st) h k n = (WP 74 G S f 110 ls (.int (x ||| y) :: st) h k n) := by rw [wp_s dd_74_109 rfl hs]; rfl
theorem dd_74_110 : decode (mB 74) 110 = .ok (.istore 4, 2) := by decide +kernel
theorem u_74_110 {G : aG} {S : Nat → Bool} {f : Nat} {st : List Value} {ls : aL} {h : aH} {k n : Nat} {x : Int32} (hs : S 110 = false) : WP 74 G S (f + 1) 110 ls (.int x :: st) h k n = (WP 74 G S f 112 (lput1 ls 4 (.int x)) st h k n) := by rw [wp_s dd_74_110 rfl hs]; rfl
theorem dd_74_112 : decode (mB 74) 112 = .ok (.iinc 5 1, 3) := by decide +kernel
theorem u_74_112 {G : aG} {S : Nat → Bool} {f : Nat} {st : List Value} {ls : aL} {h : aH} {k n : Nat} (hs : S 112 = false) : WP 74 G S (f + 1) 112 ls st h k n = (oInc (lget ls 5) (nI 1) (WP 74 G S f) 5 115 ls st h k n) := by rw [wp_s dd_74_112 rfl hs]; rfl
theorem dd_74_115 : decode (mB 74) 115 = .ok (.goto (-89), 3) := by decide +kernel
theorem u_74_115 {G : aG} {S : Nat → Bool} {f : Nat} {st : List Value} {ls : aL} {h : aH} {k n : Nat} (hs : S 115 = false) : WP 74 G S (f + 1) 115 ls st h k n = (WP 74 G S f 26 ls st h k n) := by rw [wp_s dd_74_115 rfl hs]; rfl
theorem dd_74_118 : decode (mB 74) 118 = .ok (.iload 4, 2) := by decide +kernel
theorem u_74_118 {G : aG} {S : Nat → Bool} {f : Nat} {st : List Value} {ls : aL} {h : aH} {k n : Nat} (hs : S 118 = false) : WP 74 G S (f + 1) 118 ls st h k n = (oI (lget ls 4) (WP 74 G S f) 120 ls st h k n) := by rw [wp_s dd_74_118 rfl hs]; rfl
theorem dd_74_120 : decode (mB 74) 120 = .ok (.ireturn, 1) := by decide +kernel
theorem u_74_120 {G : aG} {S : Nat → Bool} {f : Nat} {ls : aL} {h : aH} {k n : Nat} {x : Int32} (hs : S 120 = false) : WP 74 G S (f + 1) 120 ls [.int x] h k n = (RET G (some (.int x)) h k n) := by rw [wp_s dd_74_120 rfl hs]; rfl
