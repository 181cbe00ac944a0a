/-! rows of 100 Model.init, 101 Model.empties, 102 Model.forgets, 103 Model.type, 104 Model.in, 105 Model.refuses, 106 Model.clear, 107 Model.reads, 108 Model.takesOrder, 109 Model.here, 110 Model.takesPattern, 111 Model.takesUnit, 112 Model.node, 113 Model.reduces, 114 Model.binds, 115 Model.pops, 116 Model.operator, 117 Model.takesOperator, 118 Model.keep, 119 Model.clears, 120 Model.isPattern, 121 Model.of, 122 Model.ofPattern, 123 Model.loads -/
theorem dd_100_0 : decode (mB 100) 0 = .ok (.aload_n 0, 1) := by decide +kernel
theorem u_100_0 {G : aG} {S : Nat → Bool} {f : Nat} {st : List Value} {ls : aL} {h : aH} {k n : Nat} (hs : S 0 = false) : WP 100 G S (f + 1) 0 ls st h k n = (oA (lget ls 0) (WP 100 G S f) 1 ls st h k n) := by rw [wp_s dd_100_0 rfl hs]; rfl
theorem dd_100_1 : decode (mB 100) 1 = .ok (.invokespecial 1, 3) := by decide +kernel
theorem u_100_1 {G : aG} {S : Nat → Bool} {f : Nat} {st : List Value} {ls : aL} {h : aH} {k n : Nat} {a : Nat} (hs : S 1 = false) : WP 100 G S (f + 1) 1 ls (.ref a :: st) h k n = ((st.map fun v => v.category).sum ≤ 8 ∧ 1 ≤ gD G ∧ WP 100 G S f 4 ls st h k n) := by rw [wp_s dd_100_1 rfl hs]; rfl
theorem dd_100_4 : decode (mB 100) 4 = .ok (.aload_n 0, 1) := by decide +kernel
theorem u_100_4 {G : aG} {S : Nat → Bool} {f : Nat} {st : List Value} {ls : aL} {h : aH} {k n : Nat} (hs : S 4 = false) : WP 100 G S (f + 1) 4 ls st h k n = (oA (lget ls 0) (WP 100 G S f) 5 ls st h k n) := by rw [wp_s dd_100_4 rfl hs]; rfl
theorem dd_100_5 : decode (mB 100) 5 = .ok (.sipush 464, 3) := by decide +kernel
theorem u_100_5 {G : aG} {S : Nat → Bool} {f : Nat} {st : List Value} {ls : aL} {h : aH} {k n : Nat} (hs : S 5 = false) : WP 100 G S (f + 1) 5 ls st h k n = (WP 100 G S f 8 ls (.int (nI 464) :: st) h k n) := by rw [wp_s dd_100_5 rfl hs]; rfl
theorem dd_100_8 : decode (mB 100) 8 = .ok (.newarray .int, 2) := by decide +kernel
theorem u_100_8 {G : aG} {S : Nat → Bool} {f : Nat} {st : List Value} {ls : aL} {h : aH} {k n : Nat} {x : Int32} (hs : S 8 = false) : WP 100 G S (f + 1) 8 ls (.int x :: st) h k n = (¬ x < 0 ∧ x.toNatClampNeg * 4 ≤ 536870912 ∧ oNew G (cI x.toNatClampNeg) x.toNatClampNeg (WP 100 G S f) 10 ls st h k n) := by rw [wp_s dd_100_8 rfl hs]; rfl
theorem dd_100_10 : decode (mB 100) 10 = .ok (.putfield 7, 3) := by decide +kernel
theorem u_100_10 {G : aG} {S : Nat → Bool} {f : Nat} {st : List Value} {ls : aL} {h : aH} {k n : Nat} {a : Nat} {x : Nat} (hs : S 10 = false) : WP 100 G S (f + 1) 10 ls (.ref x :: .ref a :: st) h k n = (oH (fput h a 10 0 (.ref x)) (WP 100 G S f) 13 ls st k n) := by rw [wp_s dd_100_10 rfl hs]; rfl
theorem dd_100_13 : decode (mB 100) 13 = .ok (.aload_n 0, 1) := by decide +kernel
theorem u_100_13 {G : aG} {S : Nat → Bool} {f : Nat} {st : List Value} {ls : aL} {h : aH} {k n : Nat} (hs : S 13 = false) : WP 100 G S (f + 1) 13 ls st h k n = (oA (lget ls 0) (WP 100 G S f) 14 ls st h k n) := by rw [wp_s dd_100_13 rfl hs]; rfl
theorem dd_100_14 : decode (mB 100) 14 = .ok (.sipush 1856, 3) := by decide +kernel
theorem u_100_14 {G : aG} {S : Nat → Bool} {f : Nat} {st : List Value} {ls : aL} {h : aH} {k n : Nat} (hs : S 14 = false) : WP 100 G S (f + 1) 14 ls st h k n = (WP 100 G S f 17 ls (.int (nI 1856) :: st) h k n) := by rw [wp_s dd_100_14 rfl hs]; rfl
theorem dd_100_17 : decode (mB 100) 17 = .ok (.newarray .int, 2) := by decide +kernel
theorem u_100_17 {G : aG} {S : Nat → Bool} {f : Nat} {st : List Value} {ls : aL} {h : aH} {k n : Nat} {x : Int32} (hs : S 17 = false) : WP 100 G S (f + 1) 17 ls (.int x :: st) h k n = (¬ x < 0 ∧ x.toNatClampNeg * 4 ≤ 536870912 ∧ oNew G (cI x.toNatClampNeg) x.toNatClampNeg (WP 100 G S f) 19 ls st h k n) := by rw [wp_s dd_100_17 rfl hs]; rfl
theorem dd_100_19 : decode (mB 100) 19 = .ok (.putfield 13, 3) := by decide +kernel
theorem u_100_19 {G : aG} {S : Nat → Bool} {f : Nat} {st : List Value} {ls : aL} {h : aH} {k n : Nat} {a : Nat} {x : Nat} (hs : S 19 = false) : WP 100 G S (f + 1) 19 ls (.ref x :: .ref a :: st) h k n = (oH (fput h a 10 1 (.ref x)) (WP 100 G S f) 22 ls st k n) := by rw [wp_s dd_100_19 rfl hs]; rfl
theorem dd_100_22 : decode (mB 100) 22 = .ok (.aload_n 0, 1) := by decide +kernel
theorem u_100_22 {G : aG} {S : Nat → Bool} {f : Nat} {st : List Value} {ls : aL} {h : aH} {k n : Nat} (hs : S 22 = false) : WP 100 G S (f + 1) 22 ls st h k n = (oA (lget ls 0) (WP 100 G S f) 23 ls st h k n) := by rw [wp_s dd_100_22 rfl hs]; rfl
theorem dd_100_23 : decode (mB 100) 23 = .ok (.iconst 3, 1) := by decide +kernel
theorem u_100_23 {G : aG} {S : Nat → Bool} {f : Nat} {st : List Value} {ls : aL} {h : aH} {k n : Nat} (hs : S 23 = false) : WP 100 G S (f + 1) 23 ls st h k n = (WP 100 G S f 24 ls (.int (nI 3) :: st) h k n) := by rw [wp_s dd_100_23 rfl hs]; rfl
theorem dd_100_24 : decode (mB 100) 24 = .ok (.newarray .int, 2) := by decide +kernel
theorem u_100_24 {G : aG} {S : Nat → Bool} {f : Nat} {st : List Value} {ls : aL} {h : aH} {k n : Nat} {x : Int32} (hs : S 24 = false) : WP 100 G S (f + 1) 24 ls (.int x :: st) h k n = (¬ x < 0 ∧ x.toNatClampNeg * 4 ≤ 536870912 ∧ oNew G (cI x.toNatClampNeg) x.toNatClampNeg (WP 100 G S f) 26 ls st h k n) := by rw [wp_s dd_100_24 rfl hs]; rfl
theorem dd_100_26 : decode (mB 100) 26 = .ok (.putfield 16, 3) := by decide +kernel
theorem u_100_26 {G : aG} {S : Nat → Bool} {f : Nat} {st : List Value} {ls : aL} {h : aH} {k n : Nat} {a : Nat} {x : Nat} (hs : S 26 = false) : WP 100 G S (f + 1) 26 ls (.ref x :: .ref a :: st) h k n = (oH (fput h a 10 3 (.ref x)) (WP 100 G S f) 29 ls st k n) := by rw [wp_s dd_100_26 rfl hs]; rfl
theorem dd_100_29 : decode (mB 100) 29 = .ok (.aload_n 0, 1) := by decide +kernel
theorem u_100_29 {G : aG} {S : Nat → Bool} {f : Nat} {st : List Value} {ls : aL} {h : aH} {k n : Nat} (hs : S 29 = false) : WP 100 G S (f + 1) 29 ls st h k n = (oA (lget ls 0) (WP 100 G S f) 30 ls st h k n) := by rw [wp_s dd_100_29 rfl hs]; rfl
theorem dd_100_30 : decode (mB 100) 30 = .ok (.bipush 16, 2) := by decide +kernel
theorem u_100_30 {G : aG} {S : Nat → Bool} {f : Nat} {st : List Value} {ls : aL} {h : aH} {k n : Nat} (hs : S 30 = false) : WP 100 G S (f + 1) 30 ls st h k n = (WP 100 G S f 32 ls (.int (nI 16) :: st) h k n) := by rw [wp_s dd_100_30 rfl hs]; rfl
theorem dd_100_32 : decode (mB 100) 32 = .ok (.newarray .int, 2) := by decide +kernel
theorem u_100_32 {G : aG} {S : Nat → Bool} {f : Nat} {st : List Value} {ls : aL} {h : aH} {k n : Nat} {x : Int32} (hs : S 32 = false) : WP 100 G S (f + 1) 32 ls (.int x :: st) h k n = (¬ x < 0 ∧ x.toNatClampNeg * 4 ≤ 536870912 ∧ oNew G (cI x.toNatClampNeg) x.toNatClampNeg (WP 100 G S f) 34 ls st h k n) := by rw [wp_s dd_100_32 rfl hs]; rfl
theorem dd_100_34 : decode (mB 100) 34 = .ok (.putfield 19, 3) := by decide +kernel
theorem u_100_34 {G : aG} {S : Nat → Bool} {f : Nat} {st : List Value} {ls : aL} {h : aH} {k n : Nat} {a : Nat} {x : Nat} (hs : S 34 = false) : WP 100 G S (f + 1) 34 ls (.ref x :: .ref a :: st) h k n = (oH (fput h a 10 5 (.ref x)) (WP 100 G S f) 37 ls st k n) := by rw [wp_s dd_100_34 rfl hs]; rfl
theorem dd_100_37 : decode (mB 100) 37 = .ok (.aload_n 0, 1) := by decide +kernel
theorem u_100_37 {G : aG} {S : Nat → Bool} {f : Nat} {st : List Value} {ls : aL} {h : aH} {k n : Nat} (hs : S 37 = false) : WP 100 G S (f + 1) 37 ls st h k n = (oA (lget ls 0) (WP 100 G S f) 38 ls st h k n) := by rw [wp_s dd_100_37 rfl hs]; rfl
theorem dd_100_38 : decode (mB 100) 38 = .ok (.bipush 16, 2) := by decide +kernel
theorem u_100_38 {G : aG} {S : Nat → Bool} {f : Nat} {st : List Value} {ls : aL} {h : aH} {k n : Nat} (hs : S 38 = false) : WP 100 G S (f + 1) 38 ls st h k n = (WP 100 G S f 40 ls (.int (nI 16) :: st) h k n) := by rw [wp_s dd_100_38 rfl hs]; rfl
theorem dd_100_40 : decode (mB 100) 40 = .ok (.newarray .int, 2) := by decide +kernel
theorem u_100_40 {G : aG} {S : Nat → Bool} {f : Nat} {st : List Value} {ls : aL} {h : aH} {k n : Nat} {x : Int32} (hs : S 40 = false) : WP 100 G S (f + 1) 40 ls (.int x :: st) h k n = (¬ x < 0 ∧ x.toNatClampNeg * 4 ≤ 536870912 ∧ oNew G (cI x.toNatClampNeg) x.toNatClampNeg (WP 100 G S f) 42 ls st h k n) := by rw [wp_s dd_100_40 rfl hs]; rfl
theorem dd_100_42 : decode (mB 100) 42 = .ok (.putfield 22, 3) := by decide +kernel
theorem u_100_42 {G : aG} {S : Nat → Bool} {f : Nat} {st : List Value} {ls : aL} {h : aH} {k n : Nat} {a : Nat} {x : Nat} (hs : S 42 = false) : WP 100 G S (f + 1) 42 ls (.ref x :: .ref a :: st) h k n = (oH (fput h a 10 6 (.ref x)) (WP 100 G S f) 45 ls st k n) := by rw [wp_s dd_100_42 rfl hs]; rfl
theorem dd_100_45 : decode (mB 100) 45 = .ok (.aload_n 0, 1) := by decide +kernel
theorem u_100_45 {G : aG} {S : Nat → Bool} {f : Nat} {st : List Value} {ls : aL} {h : aH} {k n : Nat} (hs : S 45 = false) : WP 100 G S (f + 1) 45 ls st h k n = (oA (lget ls 0) (WP 100 G S f) 46 ls st h k n) := by rw [wp_s dd_100_45 rfl hs]; rfl
theorem dd_100_46 : decode (mB 100) 46 = .ok (.bipush 16, 2) := by decide +kernel
theorem u_100_46 {G : aG} {S : Nat → Bool} {f : Nat} {st : List Value} {ls : aL} {h : aH} {k n : Nat} (hs : S 46 = false) : WP 100 G S (f + 1) 46 ls st h k n = (WP 100 G S f 48 ls (.int (nI 16) :: st) h k n) := by rw [wp_s dd_100_46 rfl hs]; rfl
theorem dd_100_48 : decode (mB 100) 48 = .ok (.newarray .int, 2) := by decide +kernel
theorem u_100_48 {G : aG} {S : Nat → Bool} {f : Nat} {st : List Value} {ls : aL} {h : aH} {k n : Nat} {x : Int32} (hs : S 48 = false) : WP 100 G S (f + 1) 48 ls (.int x :: st) h k n = (¬ x < 0 ∧ x.toNatClampNeg * 4 ≤ 536870912 ∧ oNew G (cI x.toNatClampNeg) x.toNatClampNeg (WP 100 G S f) 50 ls st h k n) := by rw [wp_s dd_100_48 rfl hs]; rfl
theorem dd_100_50 : decode (mB 100) 50 = .ok (.putfield 25, 3) := by decide +kernel
theorem u_100_50 {G : aG} {S : Nat → Bool} {f : Nat} {st : List Value} {ls : aL} {h : aH} {k n : Nat} {a : Nat} {x : Nat} (hs : S 50 = false) : WP 100 G S (f + 1) 50 ls (.ref x :: .ref a :: st) h k n = (oH (fput h a 10 7 (.ref x)) (WP 100 G S f) 53 ls st k n) := by rw [wp_s dd_100_50 rfl hs]; rfl
theorem dd_100_53 : decode (mB 100) 53 = .ok (.aload_n 0, 1) := by decide +kernel
theorem u_100_53 {G : aG} {S : Nat → Bool} {f : Nat} {st : List Value} {ls : aL} {h : aH} {k n : Nat} (hs : S 53 = false) : WP 100 G S (f + 1) 53 ls st h k n = (oA (lget ls 0) (WP 100 G S f) 54 ls st h k n) := by rw [wp_s dd_100_53 rfl hs]; rfl
theorem dd_100_54 : decode (mB 100) 54 = .ok (.bipush 16, 2) := by decide +kernel
theorem u_100_54 {G : aG} {S : Nat → Bool} {f : Nat} {st : List Value} {ls : aL} {h : aH} {k n : Nat} (hs : S 54 = false) : WP 100 G S (f + 1) 54 ls st h k n = (WP 100 G S f 56 ls (.int (nI 16) :: st) h k n) := by rw [wp_s dd_100_54 rfl hs]; rfl
theorem dd_100_56 : decode (mB 100) 56 = .ok (.newarray .int, 2) := by decide +kernel
theorem u_100_56 {G : aG} {S : Nat → Bool} {f : Nat} {st : List Value} {ls : aL} {h : aH} {k n : Nat} {x : Int32} (hs : S 56 = false) : WP 100 G S (f + 1) 56 ls (.int x :: st) h k n = (¬ x < 0 ∧ x.toNatClampNeg * 4 ≤ 536870912 ∧ oNew G (cI x.toNatClampNeg) x.toNatClampNeg (WP 100 G S f) 58 ls st h k n) := by rw [wp_s dd_100_56 rfl hs]; rfl
theorem dd_100_58 : decode (mB 100) 58 = .ok (.putfield 28, 3) := by decide +kernel
theorem u_100_58 {G : aG} {S : Nat → Bool} {f : Nat} {st : List Value} {ls : aL} {h : aH} {k n : Nat} {a : Nat} {x : Nat} (hs : S 58 = false) : WP 100 G S (f + 1) 58 ls (.ref x :: .ref a :: st) h k n = (oH (fput h a 10 8 (.ref x)) (WP 100 G S f) 61 ls st k n) := by rw [wp_s dd_100_58 rfl hs]; rfl
theorem dd_100_61 : decode (mB 100) 61 = .ok (.aload_n 0, 1) := by decide +kernel
theorem u_100_61 {G : aG} {S : Nat → Bool} {f : Nat} {st : List Value} {ls : aL} {h : aH} {k n : Nat} (hs : S 61 = false) : WP 100 G S (f + 1) 61 ls st h k n = (oA (lget ls 0) (WP 100 G S f) 62 ls st h k n) := by rw [wp_s dd_100_61 rfl hs]; rfl
theorem dd_100_62 : decode (mB 100) 62 = .ok (.bipush 16, 2) := by decide +kernel
theorem u_100_62 {G : aG} {S : Nat → Bool} {f : Nat} {st : List Value} {ls : aL} {h : aH} {k n : Nat} (hs : S 62 = false) : WP 100 G S (f + 1) 62 ls st h k n = (WP 100 G S f 64 ls (.int (nI 16) :: st) h k n) := by rw [wp_s dd_100_62 rfl hs]; rfl
theorem dd_100_64 : decode (mB 100) 64 = .ok (.newarray .int, 2) := by decide +kernel
theorem u_100_64 {G : aG} {S : Nat → Bool} {f : Nat} {st : List Value} {ls : aL} {h : aH} {k n : Nat} {x : Int32} (hs : S 64 = false) : WP 100 G S (f + 1) 64 ls (.int x :: st) h k n = (¬ x < 0 ∧ x.toNatClampNeg * 4 ≤ 536870912 ∧ oNew G (cI x.toNatClampNeg) x.toNatClampNeg (WP 100 G S f) 66 ls st h k n) := by rw [wp_s dd_100_64 rfl hs]; rfl
theorem dd_100_66 : decode (mB 100) 66 = .ok (.putfield 31, 3) := by decide +kernel
theorem u_100_66 {G : aG} {S : Nat → Bool} {f : Nat} {st : List Value} {ls : aL} {h : aH} {k n : Nat} {a : Nat} {x : Nat} (hs : S 66 = false) : WP 100 G S (f + 1) 66 ls (.ref x :: .ref a :: st) h k n = (oH (fput h a 10 9 (.ref x)) (WP 100 G S f) 69 ls st k n) := by rw [wp_s dd_100_66 rfl hs]; rfl
theorem dd_100_69 : decode (mB 100) 69 = .ok (.aload_n 0, 1) := by decide +kernel
theorem u_100_69 {G : aG} {S : Nat → Bool} {f : Nat} {st : List Value} {ls : aL} {h : aH} {k n : Nat} (hs : S 69 = false) : WP 100 G S (f + 1) 69 ls st h k n = (oA (lget ls 0) (WP 100 G S f) 70 ls st h k n) := by rw [wp_s dd_100_69 rfl hs]; rfl
theorem dd_100_70 : decode (mB 100) 70 = .ok (.bipush 16, 2) := by decide +kernel
theorem u_100_70 {G : aG} {S : Nat → Bool} {f : Nat} {st : List Value} {ls : aL} {h : aH} {k n : Nat} (hs : S 70 = false) : WP 100 G S (f + 1) 70 ls st h k n = (WP 100 G S f 72 ls (.int (nI 16) :: st) h k n) := by rw [wp_s dd_100_70 rfl hs]; rfl
theorem dd_100_72 : decode (mB 100) 72 = .ok (.newarray .int, 2) := by decide +kernel
theorem u_100_72 {G : aG} {S : Nat → Bool} {f : Nat} {st : List Value} {ls : aL} {h : aH} {k n : Nat} {x : Int32} (hs : S 72 = false) : WP 100 G S (f + 1) 72 ls (.int x :: st) h k n = (¬ x < 0 ∧ x.toNatClampNeg * 4 ≤ 536870912 ∧ oNew G (cI x.toNatClampNeg) x.toNatClampNeg (WP 100 G S f) 74 ls st h k n) := by rw [wp_s dd_100_72 rfl hs]; rfl
theorem dd_100_74 : decode (mB 100) 74 = .ok (.putfield 34, 3) := by decide +kernel
theorem u_100_74 {G : aG} {S : Nat → Bool} {f : Nat} {st : List Value} {ls : aL} {h : aH} {k n : Nat} {a : Nat} {x : Nat} (hs : S 74 = false) : WP 100 G S (f + 1) 74 ls (.ref x :: .ref a :: st) h k n = (oH (fput h a 10 10 (.ref x)) (WP 100 G S f) 77 ls st k n) := by rw [wp_s dd_100_74 rfl hs]; rfl
theorem dd_100_77 : decode (mB 100) 77 = .ok (.aload_n 0, 1) := by decide +kernel
theorem u_100_77 {G : aG} {S : Nat → Bool} {f : Nat} {st : List Value} {ls : aL} {h : aH} {k n : Nat} (hs : S 77 = false) : WP 100 G S (f + 1) 77 ls st h k n = (oA (lget ls 0) (WP 100 G S f) 78 ls st h k n) := by rw [wp_s dd_100_77 rfl hs]; rfl
theorem dd_100_78 : decode (mB 100) 78 = .ok (.bipush 16, 2) := by decide +kernel
theorem u_100_78 {G : aG} {S : Nat → Bool} {f : Nat} {st : List Value} {ls : aL} {h : aH} {k n : Nat} (hs : S 78 = false) : WP 100 G S (f + 1) 78 ls st h k n = (WP 100 G S f 80 ls (.int (nI 16) :: st) h k n) := by rw [wp_s dd_100_78 rfl hs]; rfl
theorem dd_100_80 : decode (mB 100) 80 = .ok (.newarray .int, 2) := by decide +kernel
theorem u_100_80 {G : aG} {S : Nat → Bool} {f : Nat} {st : List Value} {ls : aL} {h : aH} {k n : Nat} {x : Int32} (hs : S 80 = false) : WP 100 G S (f + 1) 80 ls (.int x :: st) h k n = (¬ x < 0 ∧ x.toNatClampNeg * 4 ≤ 536870912 ∧ oNew G (cI x.toNatClampNeg) x.toNatClampNeg (WP 100 G S f) 82 ls st h k n) := by rw [wp_s dd_100_80 rfl hs]; rfl
theorem dd_100_82 : decode (mB 100) 82 = .ok (.putfield 37, 3) := by decide +kernel
theorem u_100_82 {G : aG} {S : Nat → Bool} {f : Nat} {st : List Value} {ls : aL} {h : aH} {k n : Nat} {a : Nat} {x : Nat} (hs : S 82 = false) : WP 100 G S (f + 1) 82 ls (.ref x :: .ref a :: st) h k n = (oH (fput h a 10 11 (.ref x)) (WP 100 G S f) 85 ls st k n) := by rw [wp_s dd_100_82 rfl hs]; rfl
theorem dd_100_85 : decode (mB 100) 85 = .ok (.aload_n 0, 1) := by decide +kernel
theorem u_100_85 {G : aG} {S : Nat → Bool} {f : Nat} {st : List Value} {ls : aL} {h : aH} {k n : Nat} (hs : S 85 = false) : WP 100 G S (f + 1) 85 ls st h k n = (oA (lget ls 0) (WP 100 G S f) 86 ls st h k n) := by rw [wp_s dd_100_85 rfl hs]; rfl
theorem dd_100_86 : decode (mB 100) 86 = .ok (.bipush 16, 2) := by decide +kernel
theorem u_100_86 {G : aG} {S : Nat → Bool} {f : Nat} {st : List Value} {ls : aL} {h : aH} {k n : Nat} (hs : S 86 = false) : WP 100 G S (f + 1) 86 ls st h k n = (WP 100 G S f 88 ls (.int (nI 16) :: st) h k n) := by rw [wp_s dd_100_86 rfl hs]; rfl
theorem dd_100_88 : decode (mB 100) 88 = .ok (.newarray .int, 2) := by decide +kernel
theorem u_100_88 {G : aG} {S : Nat → Bool} {f : Nat} {st : List Value} {ls : aL} {h : aH} {k n : Nat} {x : Int32} (hs : S 88 = false) : WP 100 G S (f + 1) 88 ls (.int x :: st) h k n = (¬ x < 0 ∧ x.toNatClampNeg * 4 ≤ 536870912 ∧ oNew G (cI x.toNatClampNeg) x.toNatClampNeg (WP 100 G S f) 90 ls st h k n) := by rw [wp_s dd_100_88 rfl hs]; rfl
theorem dd_100_90 : decode (mB 100) 90 = .ok (.putfield 40, 3) := by decide +kernel
theorem u_100_90 {G : aG} {S : Nat → Bool} {f : Nat} {st : List Value} {ls : aL} {h : aH} {k n : Nat} {a : Nat} {x : Nat} (hs : S 90 = false) : WP 100 G S (f + 1) 90 ls (.ref x :: .ref a :: st) h k n = (oH (fput h a 10 12 (.ref x)) (WP 100 G S f) 93 ls st k n) := by rw [wp_s dd_100_90 rfl hs]; rfl
theorem dd_100_93 : decode (mB 100) 93 = .ok (.aload_n 0, 1) := by decide +kernel
theorem u_100_93 {G : aG} {S : Nat → Bool} {f : Nat} {st : List Value} {ls : aL} {h : aH} {k n : Nat} (hs : S 93 = false) : WP 100 G S (f + 1) 93 ls st h k n = (oA (lget ls 0) (WP 100 G S f) 94 ls st h k n) := by rw [wp_s dd_100_93 rfl hs]; rfl
theorem dd_100_94 : decode (mB 100) 94 = .ok (.sipush 5376, 3) := by decide +kernel
theorem u_100_94 {G : aG} {S : Nat → Bool} {f : Nat} {st : List Value} {ls : aL} {h : aH} {k n : Nat} (hs : S 94 = false) : WP 100 G S (f + 1) 94 ls st h k n = (WP 100 G S f 97 ls (.int (nI 5376) :: st) h k n) := by rw [wp_s dd_100_94 rfl hs]; rfl
theorem dd_100_97 : decode (mB 100) 97 = .ok (.newarray .int, 2) := by decide +kernel
theorem u_100_97 {G : aG} {S : Nat → Bool} {f : Nat} {st : List Value} {ls : aL} {h : aH} {k n : Nat} {x : Int32} (hs : S 97 = false) : WP 100 G S (f + 1) 97 ls (.int x :: st) h k n = (¬ x < 0 ∧ x.toNatClampNeg * 4 ≤ 536870912 ∧ oNew G (cI x.toNatClampNeg) x.toNatClampNeg (WP 100 G S f) 99 ls st h k n) := by rw [wp_s dd_100_97 rfl hs]; rfl
theorem dd_100_99 : decode (mB 100) 99 = .ok (.putfield 43, 3) := by decide +kernel
theorem u_100_99 {G : aG} {S : Nat → Bool} {f : Nat} {st : List Value} {ls : aL} {h : aH} {k n : Nat} {a : Nat} {x : Nat} (hs : S 99 = false) : WP 100 G S (f + 1) 99 ls (.ref x :: .ref a :: st) h k n = (oH (fput h a 10 13 (.ref x)) (WP 100 G S f) 102 ls st k n) := by rw [wp_s dd_100_99 rfl hs]; rfl
theorem dd_100_102 : decode (mB 100) 102 = .ok (.aload_n 0, 1) := by decide +kernel
theorem u_100_102 {G : aG} {S : Nat → Bool} {f : Nat} {st : List Value} {ls : aL} {h : aH} {k n : Nat} (hs : S 102 = false) : WP 100 G S (f + 1) 102 ls st h k n = (oA (lget ls 0) (WP 100 G S f) 103 ls st h k n) := by rw [wp_s dd_100_102 rfl hs]; rfl
theorem dd_100_103 : decode (mB 100) 103 = .ok (.bipush 21, 2) := by decide +kernel
theorem u_100_103 {G : aG} {S : Nat → Bool} {f : Nat} {st : List Value} {ls : aL} {h : aH} {k n : Nat} (hs : S 103 = false) : WP 100 G S (f + 1) 103 ls st h k n = (WP 100 G S f 105 ls (.int (nI 21) :: st) h k n) := by rw [wp_s dd_100_103 rfl hs]; rfl
theorem dd_100_105 : decode (mB 100) 105 = .ok (.newarray .int, 2) := by decide +kernel
theorem u_100_105 {G : aG} {S : Nat → Bool} {f : Nat} {st : List Value} {ls : aL} {h : aH} {k n : Nat} {x : Int32} (hs : S 105 = false) : WP 100 G S (f + 1) 105 ls (.int x :: st) h k n = (¬ x < 0 ∧ x.toNatClampNeg * 4 ≤ 536870912 ∧ oNew G (cI x.toNatClampNeg) x.toNatClampNeg (WP 100 G S f) 107 ls st h k n) := by rw [wp_s dd_100_105 rfl hs]; rfl
theorem dd_100_107 : decode (mB 100) 107 = .ok (.putfield 46, 3) := by decide +kernel
theorem u_100_107 {G : aG} {S : Nat → Bool} {f : Nat} {st : List Value} {ls : aL} {h : aH} {k n : Nat} {a : Nat} {x : Nat} (hs : S 107 = false) : WP 100 G S (f + 1) 107 ls (.ref x :: .ref a :: st) h k n = (oH (fput h a 10 14 (.ref x)) (WP 100 G S f) 110 ls st k n) := by rw [wp_s dd_100_107 rfl hs]; rfl
theorem dd_100_110 : decode (mB 100) 110 = .ok (.aload_n 0, 1) := by decide +kernel
theorem u_100_110 {G : aG} {S : Nat → Bool} {f : Nat} {st : List Value} {ls : aL} {h : aH} {k n : Nat} (hs : S 110 = false) : WP 100 G S (f + 1) 110 ls st h k n = (oA (lget ls 0) (WP 100 G S f) 111 ls st h k n) := by rw [wp_s dd_100_110 rfl hs]; rfl
theorem dd_100_111 : decode (mB 100) 111 = .ok (.sipush 150, 3) := by decide +kernel
theorem u_100_111 {G : aG} {S : Nat → Bool} {f : Nat} {st : List Value} {ls : aL} {h : aH} {k n : Nat} (hs : S 111 = false) : WP 100 G S (f + 1) 111 ls st h k n = (WP 100 G S f 114 ls (.int (nI 150) :: st) h k n) := by rw [wp_s dd_100_111 rfl hs]; rfl
theorem dd_100_114 : decode (mB 100) 114 = .ok (.newarray .int, 2) := by decide +kernel
theorem u_100_114 {G : aG} {S : Nat → Bool} {f : Nat} {st : List Value} {ls : aL} {h : aH} {k n : Nat} {x : Int32} (hs : S 114 = false) : WP 100 G S (f + 1) 114 ls (.int x :: st) h k n = (¬ x < 0 ∧ x.toNatClampNeg * 4 ≤ 536870912 ∧ oNew G (cI x.toNatClampNeg) x.toNatClampNeg (WP 100 G S f) 116 ls st h k n) := by rw [wp_s dd_100_114 rfl hs]; rfl
theorem dd_100_116 : decode (mB 100) 116 = .ok (.putfield 49, 3) := by decide +kernel
theorem u_100_116 {G : aG} {S : Nat → Bool} {f : Nat} {st : List Value} {ls : aL} {h : aH} {k n : Nat} {a : Nat} {x : Nat} (hs : S 116 = false) : WP 100 G S (f + 1) 116 ls (.ref x :: .ref a :: st) h k n = (oH (fput h a 10 15 (.ref x)) (WP 100 G S f) 119 ls st k n) := by rw [wp_s dd_100_116 rfl hs]; rfl
theorem dd_100_119 : decode (mB 100) 119 = .ok (.aload_n 0, 1) := by decide +kernel
theorem u_100_119 {G : aG} {S : Nat → Bool} {f : Nat} {st : List Value} {ls : aL} {h : aH} {k n : Nat} (hs : S 119 = false) : WP 100 G S (f + 1) 119 ls st h k n = (oA (lget ls 0) (WP 100 G S f) 120 ls st h k n) := by rw [wp_s dd_100_119 rfl hs]; rfl
theorem dd_100_120 : decode (mB 100) 120 = .ok (.bipush 49, 2) := by decide +kernel
theorem u_100_120 {G : aG} {S : Nat → Bool} {f : Nat} {st : List Value} {ls : aL} {h : aH} {k n : Nat} (hs : S 120 = false) : WP 100 G S (f + 1) 120 ls st h k n = (WP 100 G S f 122 ls (.int (nI 49) :: st) h k n) := by rw [wp_s dd_100_120 rfl hs]; rfl
theorem dd_100_122 : decode (mB 100) 122 = .ok (.newarray .int, 2) := by decide +kernel
theorem u_100_122 {G : aG} {S : Nat → Bool} {f : Nat} {st : List Value} {ls : aL} {h : aH} {k n : Nat} {x : Int32} (hs : S 122 = false) : WP 100 G S (f + 1) 122 ls (.int x :: st) h k n = (¬ x < 0 ∧ x.toNatClampNeg * 4 ≤ 536870912 ∧ oNew G (cI x.toNatClampNeg) x.toNatClampNeg (WP 100 G S f) 124 ls st h k n) := by rw [wp_s dd_100_122 rfl hs]; rfl
theorem dd_100_124 : decode (mB 100) 124 = .ok (.putfield 52, 3) := by decide +kernel
theorem u_100_124 {G : aG} {S : Nat → Bool} {f : Nat} {st : List Value} {ls : aL} {h : aH} {k n : Nat} {a : Nat} {x : Nat} (hs : S 124 = false) : WP 100 G S (f + 1) 124 ls (.ref x :: .ref a :: st) h k n = (oH (fput h a 10 18 (.ref x)) (WP 100 G S f) 127 ls st k n) := by rw [wp_s dd_100_124 rfl hs]; rfl
theorem dd_100_127 : decode (mB 100) 127 = .ok (.aload_n 0, 1) := by decide +kernel
theorem u_100_127 {G : aG} {S : Nat → Bool} {f : Nat} {st : List Value} {ls : aL} {h : aH} {k n : Nat} (hs : S 127 = false) : WP 100 G S (f + 1) 127 ls st h k n = (oA (lget ls 0) (WP 100 G S f) 128 ls st h k n) := by rw [wp_s dd_100_127 rfl hs]; rfl
theorem dd_100_128 : decode (mB 100) 128 = .ok (.bipush 20, 2) := by decide +kernel
theorem u_100_128 {G : aG} {S : Nat → Bool} {f : Nat} {st : List Value} {ls : aL} {h : aH} {k n : Nat} (hs : S 128 = false) : WP 100 G S (f + 1) 128 ls st h k n = (WP 100 G S f 130 ls (.int (nI 20) :: st) h k n) := by rw [wp_s dd_100_128 rfl hs]; rfl
theorem dd_100_130 : decode (mB 100) 130 = .ok (.newarray .int, 2) := by decide +kernel
theorem u_100_130 {G : aG} {S : Nat → Bool} {f : Nat} {st : List Value} {ls : aL} {h : aH} {k n : Nat} {x : Int32} (hs : S 130 = false) : WP 100 G S (f + 1) 130 ls (.int x :: st) h k n = (¬ x < 0 ∧ x.toNatClampNeg * 4 ≤ 536870912 ∧ oNew G (cI x.toNatClampNeg) x.toNatClampNeg (WP 100 G S f) 132 ls st h k n) := by rw [wp_s dd_100_130 rfl hs]; rfl
theorem dd_100_132 : decode (mB 100) 132 = .ok (.putfield 55, 3) := by decide +kernel
theorem u_100_132 {G : aG} {S : Nat → Bool} {f : Nat} {st : List Value} {ls : aL} {h : aH} {k n : Nat} {a : Nat} {x : Nat} (hs : S 132 = false) : WP 100 G S (f + 1) 132 ls (.ref x :: .ref a :: st) h k n = (oH (fput h a 10 19 (.ref x)) (WP 100 G S f) 135 ls st k n) := by rw [wp_s dd_100_132 rfl hs]; rfl
theorem dd_100_135 : decode (mB 100) 135 = .ok (.aload_n 0, 1) := by decide +kernel
theorem u_100_135 {G : aG} {S : Nat → Bool} {f : Nat} {st : List Value} {ls : aL} {h : aH} {k n : Nat} (hs : S 135 = false) : WP 100 G S (f + 1) 135 ls st h k n = (oA (lget ls 0) (WP 100 G S f) 136 ls st h k n) := by rw [wp_s dd_100_135 rfl hs]; rfl
theorem dd_100_136 : decode (mB 100) 136 = .ok (.bipush 40, 2) := by decide +kernel
theorem u_100_136 {G : aG} {S : Nat → Bool} {f : Nat} {st : List Value} {ls : aL} {h : aH} {k n : Nat} (hs : S 136 = false) : WP 100 G S (f + 1) 136 ls st h k n = (WP 100 G S f 138 ls (.int (nI 40) :: st) h k n) := by rw [wp_s dd_100_136 rfl hs]; rfl
theorem dd_100_138 : decode (mB 100) 138 = .ok (.newarray .int, 2) := by decide +kernel
theorem u_100_138 {G : aG} {S : Nat → Bool} {f : Nat} {st : List Value} {ls : aL} {h : aH} {k n : Nat} {x : Int32} (hs : S 138 = false) : WP 100 G S (f + 1) 138 ls (.int x :: st) h k n = (¬ x < 0 ∧ x.toNatClampNeg * 4 ≤ 536870912 ∧ oNew G (cI x.toNatClampNeg) x.toNatClampNeg (WP 100 G S f) 140 ls st h k n) := by rw [wp_s dd_100_138 rfl hs]; rfl
theorem dd_100_140 : decode (mB 100) 140 = .ok (.putfield 58, 3) := by decide +kernel
theorem u_100_140 {G : aG} {S : Nat → Bool} {f : Nat} {st : List Value} {ls : aL} {h : aH} {k n : Nat} {a : Nat} {x : Nat} (hs : S 140 = false) : WP 100 G S (f + 1) 140 ls (.ref x :: .ref a :: st) h k n = (oH (fput h a 10 21 (.ref x)) (WP 100 G S f) 143 ls st k n) := by rw [wp_s dd_100_140 rfl hs]; rfl
theorem dd_100_143 : decode (mB 100) 143 = .ok (.aload_n 0, 1) := by decide +kernel
theorem u_100_143 {G : aG} {S : Nat → Bool} {f : Nat} {st : List Value} {ls : aL} {h : aH} {k n : Nat} (hs : S 143 = false) : WP 100 G S (f + 1) 143 ls st h k n = (oA (lget ls 0) (WP 100 G S f) 144 ls st h k n) := by rw [wp_s dd_100_143 rfl hs]; rfl
theorem dd_100_144 : decode (mB 100) 144 = .ok (.bipush 16, 2) := by decide +kernel
theorem u_100_144 {G : aG} {S : Nat → Bool} {f : Nat} {st : List Value} {ls : aL} {h : aH} {k n : Nat} (hs : S 144 = false) : WP 100 G S (f + 1) 144 ls st h k n = (WP 100 G S f 146 ls (.int (nI 16) :: st) h k n) := by rw [wp_s dd_100_144 rfl hs]; rfl
theorem dd_100_146 : decode (mB 100) 146 = .ok (.newarray .int, 2) := by decide +kernel
theorem u_100_146 {G : aG} {S : Nat → Bool} {f : Nat} {st : List Value} {ls : aL} {h : aH} {k n : Nat} {x : Int32} (hs : S 146 = false) : WP 100 G S (f + 1) 146 ls (.int x :: st) h k n = (¬ x < 0 ∧ x.toNatClampNeg * 4 ≤ 536870912 ∧ oNew G (cI x.toNatClampNeg) x.toNatClampNeg (WP 100 G S f) 148 ls st h k n) := by rw [wp_s dd_100_146 rfl hs]; rfl
theorem dd_100_148 : decode (mB 100) 148 = .ok (.putfield 61, 3) := by decide +kernel
theorem u_100_148 {G : aG} {S : Nat → Bool} {f : Nat} {st : List Value} {ls : aL} {h : aH} {k n : Nat} {a : Nat} {x : Nat} (hs : S 148 = false) : WP 100 G S (f + 1) 148 ls (.ref x :: .ref a :: st) h k n = (oH (fput h a 10 25 (.ref x)) (WP 100 G S f) 151 ls st k n) := by rw [wp_s dd_100_148 rfl hs]; rfl
theorem dd_100_151 : decode (mB 100) 151 = .ok (.aload_n 0, 1) := by decide +kernel
theorem u_100_151 {G : aG} {S : Nat → Bool} {f : Nat} {st : List Value} {ls : aL} {h : aH} {k n : Nat} (hs : S 151 = false) : WP 100 G S (f + 1) 151 ls st h k n = (oA (lget ls 0) (WP 100 G S f) 152 ls st h k n) := by rw [wp_s dd_100_151 rfl hs]; rfl
theorem dd_100_152 : decode (mB 100) 152 = .ok (.bipush 8, 2) := by decide +kernel
theorem u_100_152 {G : aG} {S : Nat → Bool} {f : Nat} {st : List Value} {ls : aL} {h : aH} {k n : Nat} (hs : S 152 = false) : WP 100 G S (f + 1) 152 ls st h k n = (WP 100 G S f 154 ls (.int (nI 8) :: st) h k n) := by rw [wp_s dd_100_152 rfl hs]; rfl
theorem dd_100_154 : decode (mB 100) 154 = .ok (.newarray .int, 2) := by decide +kernel
theorem u_100_154 {G : aG} {S : Nat → Bool} {f : Nat} {st : List Value} {ls : aL} {h : aH} {k n : Nat} {x : Int32} (hs : S 154 = false) : WP 100 G S (f + 1) 154 ls (.int x :: st) h k n = (¬ x < 0 ∧ x.toNatClampNeg * 4 ≤ 536870912 ∧ oNew G (cI x.toNatClampNeg) x.toNatClampNeg (WP 100 G S f) 156 ls st h k n) := by rw [wp_s dd_100_154 rfl hs]; rfl
theorem dd_100_156 : decode (mB 100) 156 = .ok (.putfield 64, 3) := by decide +kernel
theorem u_100_156 {G : aG} {S : Nat → Bool} {f : Nat} {st : List Value} {ls : aL} {h : aH} {k n : Nat} {a : Nat} {x : Nat} (hs : S 156 = false) : WP 100 G S (f + 1) 156 ls (.ref x :: .ref a :: st) h k n = (oH (fput h a 10 26 (.ref x)) (WP 100 G S f) 159 ls st k n) := by rw [wp_s dd_100_156 rfl hs]; rfl
theorem dd_100_159 : decode (mB 100) 159 = .ok (.aload_n 0, 1) := by decide +kernel
theorem u_100_159 {G : aG} {S : Nat → Bool} {f : Nat} {st : List Value} {ls : aL} {h : aH} {k n : Nat} (hs : S 159 = false) : WP 100 G S (f + 1) 159 ls st h k n = (oA (lget ls 0) (WP 100 G S f) 160 ls st h k n) := by rw [wp_s dd_100_159 rfl hs]; rfl
theorem dd_100_160 : decode (mB 100) 160 = .ok (.bipush 10, 2) := by decide +kernel
theorem u_100_160 {G : aG} {S : Nat → Bool} {f : Nat} {st : List Value} {ls : aL} {h : aH} {k n : Nat} (hs : S 160 = false) : WP 100 G S (f + 1) 160 ls st h k n = (WP 100 G S f 162 ls (.int (nI 10) :: st) h k n) := by rw [wp_s dd_100_160 rfl hs]; rfl
theorem dd_100_162 : decode (mB 100) 162 = .ok (.newarray .int, 2) := by decide +kernel
theorem u_100_162 {G : aG} {S : Nat → Bool} {f : Nat} {st : List Value} {ls : aL} {h : aH} {k n : Nat} {x : Int32} (hs : S 162 = false) : WP 100 G S (f + 1) 162 ls (.int x :: st) h k n = (¬ x < 0 ∧ x.toNatClampNeg * 4 ≤ 536870912 ∧ oNew G (cI x.toNatClampNeg) x.toNatClampNeg (WP 100 G S f) 164 ls st h k n) := by rw [wp_s dd_100_162 rfl hs]; rfl
theorem dd_100_164 : decode (mB 100) 164 = .ok (.putfield 67, 3) := by decide +kernel
theorem u_100_164 {G : aG} {S : Nat → Bool} {f : Nat} {st : List Value} {ls : aL} {h : aH} {k n : Nat} {a : Nat} {x : Nat} (hs : S 164 = false) : WP 100 G S (f + 1) 164 ls (.ref x :: .ref a :: st) h k n = (oH (fput h a 10 29 (.ref x)) (WP 100 G S f) 167 ls st k n) := by rw [wp_s dd_100_164 rfl hs]; rfl
theorem dd_100_167 : decode (mB 100) 167 = .ok (.iconst 0, 1) := by decide +kernel
theorem u_100_167 {G : aG} {S : Nat → Bool} {f : Nat} {st : List Value} {ls : aL} {h : aH} {k n : Nat} (hs : S 167 = false) : WP 100 G S (f + 1) 167 ls st h k n = (WP 100 G S f 168 ls (.int (nI 0) :: st) h k n) := by rw [wp_s dd_100_167 rfl hs]; rfl
theorem dd_100_168 : decode (mB 100) 168 = .ok (.istore_n 1, 1) := by decide +kernel
theorem u_100_168 {G : aG} {S : Nat → Bool} {f : Nat} {st : List Value} {ls : aL} {h : aH} {k n : Nat} {x : Int32} (hs : S 168 = false) : WP 100 G S (f + 1) 168 ls (.int x :: st) h k n = (WP 100 G S f 169 (lput1 ls 1 (.int x)) st h k n) := by rw [wp_s dd_100_168 rfl hs]; rfl
theorem dd_100_169 : decode (mB 100) 169 = .ok (.iload_n 1, 1) := by decide +kernel
theorem u_100_169 {G : aG} {S : Nat → Bool} {f : Nat} {st : List Value} {ls : aL} {h : aH} {k n : Nat} (hs : S 169 = false) : WP 100 G S (f + 1) 169 ls st h k n = (oI (lget ls 1) (WP 100 G S f) 170 ls st h k n) := by rw [wp_s dd_100_169 rfl hs]; rfl
theorem v_100_169 {G : aG} {S : Nat → Bool} {f : Nat} {st : List Value} {ls : aL} {h : aH} {k n : Nat} : WQ 100 G S f 169 ls st h k n = (oI (lget ls 1) (WP 100 G S f) 170 ls st h k n) := by rw [wq_s dd_100_169 rfl]; rfl
theorem dd_100_170 : decode (mB 100) 170 = .ok (.bipush 9, 2) := by decide +kernel
theorem u_100_170 {G : aG} {S : Nat → Bool} {f : Nat} {st : List Value} {ls : aL} {h : aH} {k n : Nat} (hs : S 170 = false) : WP 100 G S (f + 1) 170 ls st h k n = (WP 100 G S f 172 ls (.int (nI 9) :: st) h k n) := by rw [wp_s dd_100_170 rfl hs]; rfl
theorem dd_100_172 : decode (mB 100) 172 = .ok (.if_icmp .ge 14, 3) := by decide +kernel
theorem u_100_172 {G : aG} {S : Nat → Bool} {f : Nat} {st : List Value} {ls : aL} {h : aH} {k n : Nat} {x y : Int32} (hs : S 172 = false) : WP 100 G S (f + 1) 172 ls (.int y :: .int x :: st) h k n = (if y ≤ x then WP 100 G S f 186 ls st h k n else WP 100 G S f 175 ls st h k n) := by rw [wp_s dd_100_172 rfl hs]; exact br_ite (c := y ≤ x)
theorem dd_100_175 : decode (mB 100) 175 = .ok (.aload_n 0, 1) := by decide +kernel
theorem u_100_175 {G : aG} {S : Nat → Bool} {f : Nat} {st : List Value} {ls : aL} {h : aH} {k n : Nat} (hs : S 175 = false) : WP 100 G S (f + 1) 175 ls st h k n = (oA (lget ls 0) (WP 100 G S f) 176 ls st h k n) := by rw [wp_s dd_100_175 rfl hs]; rfl
theorem dd_100_176 : decode (mB 100) 176 = .ok (.iload_n 1, 1) := by decide +kernel
theorem u_100_176 {G : aG} {S : Nat → Bool} {f : Nat} {st : List Value} {ls : aL} {h : aH} {k n : Nat} (hs : S 176 = false) : WP 100 G S (f + 1) 176 ls st h k n = (oI (lget ls 1) (WP 100 G S f) 177 ls st h k n) := by rw [wp_s dd_100_176 rfl hs]; rfl
theorem dd_100_177 : decode (mB 100) 177 = .ok (.invokevirtual 70, 3) := by decide +kernel
theorem u_100_177 {G : aG} {S : Nat → Bool} {f : Nat} {st : List Value} {ls : aL} {h : aH} {k n : Nat} {v1 : Value} {b : Nat} (hs : S 177 = false) : WP 100 G S (f + 1) 177 ls (v1 :: .ref b :: st) h k n = (rcv (hget h b) 10 ∧ CAL G (WP 100 G S f) 101 [.ref b, v1] 180 ls st h k n) := by rw [wp_s dd_100_177 rfl hs]; rfl
theorem dd_100_180 : decode (mB 100) 180 = .ok (.iinc 1 1, 3) := by decide +kernel
theorem u_100_180 {G : aG} {S : Nat → Bool} {f : Nat} {st : List Value} {ls : aL} {h : aH} {k n : Nat} (hs : S 180 = false) : WP 100 G S (f + 1) 180 ls st h k n = (oInc (lget ls 1) (nI 1) (WP 100 G S f) 1 183 ls st h k n) := by rw [wp_s dd_100_180 rfl hs]; rfl
theorem dd_100_183 : decode (mB 100) 183 = .ok (.goto (-14), 3) := by decide +kernel
theorem u_100_183 {G : aG} {S : Nat → Bool} {f : Nat} {st : List Value} {ls : aL} {h : aH} {k n : Nat} (hs : S 183 = false) : WP 100 G S (f + 1) 183 ls st h k n = (WP 100 G S f 169 ls st h k n) := by rw [wp_s dd_100_183 rfl hs]; rfl
theorem dd_100_186 : decode (mB 100) 186 = .ok (.aload_n 0, 1) := by decide +kernel
theorem u_100_186 {G : aG} {S : Nat → Bool} {f : Nat} {st : List Value} {ls : aL} {h : aH} {k n : Nat} (hs : S 186 = false) : WP 100 G S (f + 1) 186 ls st h k n = (oA (lget ls 0) (WP 100 G S f) 187 ls st h k n) := by rw [wp_s dd_100_186 rfl hs]; rfl
theorem dd_100_187 : decode (mB 100) 187 = .ok (.invokevirtual 74, 3) := by decide +kernel
theorem u_100_187 {G : aG} {S : Nat → Bool} {f : Nat} {st : List Value} {ls : aL} {h : aH} {k n : Nat} {b : Nat} (hs : S 187 = false) : WP 100 G S (f + 1) 187 ls (.ref b :: st) h k n = (rcv (hget h b) 10 ∧ CAL G (WP 100 G S f) 102 [.ref b] 190 ls st h k n) := by rw [wp_s dd_100_187 rfl hs]; rfl
theorem dd_100_190 : decode (mB 100) 190 = .ok (.return_, 1) := by decide +kernel
theorem u_100_190 {G : aG} {S : Nat → Bool} {f : Nat} {ls : aL} {h : aH} {k n : Nat} (hs : S 190 = false) : WP 100 G S (f + 1) 190 ls [] h k n = (RET G none h k n) := by rw [wp_s dd_100_190 rfl hs]; rfl
theorem dd_101_0 : decode (mB 101) 0 = .ok (.aload_n 0, 1) := by decide +kernel
theorem u_101_0 {G : aG} {S : Nat → Bool} {f : Nat} {st : List Value} {ls : aL} {h : aH} {k n : Nat} (hs : S 0 = false) : WP 101 G S (f + 1) 0 ls st h k n = (oA (lget ls 0) (WP 101 G S f) 1 ls st h k n) := by rw [wp_s dd_101_0 rfl hs]; rfl
theorem dd_101_1 : decode (mB 101) 1 = .ok (.getfield 7, 3) := by decide +kernel
theorem u_101_1 {G : aG} {S : Nat → Bool} {f : Nat} {st : List Value} {ls : aL} {h : aH} {k n : Nat} {a : Nat} (hs : S 1 = false) : WP 101 G S (f + 1) 1 ls (.ref a :: st) h k n = (oV (fget h a 10 0) (WP 101 G S f) 4 ls st h k n) := by rw [wp_s dd_101_1 rfl hs]; rfl
theorem dd_101_4 : decode (mB 101) 4 = .ok (.bipush 49, 2) := by decide +kernel
theorem u_101_4 {G : aG} {S : Nat → Bool} {f : Nat} {st : List Value} {ls : aL} {h : aH} {k n : Nat} (hs : S 4 = false) : WP 101 G S (f + 1) 4 ls st h k n = (WP 101 G S f 6 ls (.int (nI 49) :: st) h k n) := by rw [wp_s dd_101_4 rfl hs]; rfl
theorem dd_101_6 : decode (mB 101) 6 = .ok (.iload_n 1, 1) := by decide +kernel
theorem u_101_6 {G : aG} {S : Nat → Bool} {f : Nat} {st : List Value} {ls : aL} {h : aH} {k n : Nat} (hs : S 6 = false) : WP 101 G S (f + 1) 6 ls st h k n = (oI (lget ls 1) (WP 101 G S f) 7 ls st h k n) := by rw [wp_s dd_101_6 rfl hs]; rfl
theorem dd_101_7 : decode (mB 101) 7 = .ok (.imul, 1) := by decide +kernel
theorem u_101_7 {G : aG} {S : Nat → Bool} {f : Nat} {st : List Value} {ls : aL} {h : aH} {k n : Nat} {x y : Int32} (hs : S 7 = false) : WP 101 G S (f + 1) 7 ls (.int y :: .int x :: st) h k n = (WP 101 G S f 8 ls (.int (x * y) :: st) h k n) := by rw [wp_s dd_101_7 rfl hs]; rfl
theorem dd_101_8 : decode (mB 101) 8 = .ok (.iconst 1, 1) := by decide +kernel
theorem u_101_8 {G : aG} {S : Nat → Bool} {f : Nat} {st : List Value} {ls : aL} {h : aH} {k n : Nat} (hs : S 8 = false) : WP 101 G S (f + 1) 8 ls st h k n = (WP 101 G S f 9 ls (.int (nI 1) :: st) h k n) := by rw [wp_s dd_101_8 rfl hs]; rfl
theorem dd_101_9 : decode (mB 101) 9 = .ok (.iastore, 1) := by decide +kernel
theorem u_101_9 {G : aG} {S : Nat → Bool} {f : Nat} {st : List Value} {ls : aL} {h : aH} {k n : Nat} {i x : Int32} {a : Nat} (hs : S 9 = false) : WP 101 G S (f + 1) 9 ls (.int x :: .int i :: .ref a :: st) h k n = (oIst (iget h a 1) a i x (WP 101 G S f) 10 ls st h k n) := by rw [wp_s dd_101_9 rfl hs]; rfl
theorem dd_101_10 : decode (mB 101) 10 = .ok (.aload_n 0, 1) := by decide +kernel
theorem u_101_10 {G : aG} {S : Nat → Bool} {f : Nat} {st : List Value} {ls : aL} {h : aH} {k n : Nat} (hs : S 10 = false) : WP 101 G S (f + 1) 10 ls st h k n = (oA (lget ls 0) (WP 101 G S f) 11 ls st h k n) := by rw [wp_s dd_101_10 rfl hs]; rfl
theorem dd_101_11 : decode (mB 101) 11 = .ok (.getfield 7, 3) := by decide +kernel
theorem u_101_11 {G : aG} {S : Nat → Bool} {f : Nat} {st : List Value} {ls : aL} {h : aH} {k n : Nat} {a : Nat} (hs : S 11 = false) : WP 101 G S (f + 1) 11 ls (.ref a :: st) h k n = (oV (fget h a 10 0) (WP 101 G S f) 14 ls st h k n) := by rw [wp_s dd_101_11 rfl hs]; rfl
theorem dd_101_14 : decode (mB 101) 14 = .ok (.bipush 49, 2) := by decide +kernel
theorem u_101_14 {G : aG} {S : Nat → Bool} {f : Nat} {st : List Value} {ls : aL} {h : aH} {k n : Nat} (hs : S 14 = false) : WP 101 G S (f + 1) 14 ls st h k n = (WP 101 G S f 16 ls (.int (nI 49) :: st) h k n) := by rw [wp_s dd_101_14 rfl hs]; rfl
theorem dd_101_16 : decode (mB 101) 16 = .ok (.iload_n 1, 1) := by decide +kernel
theorem u_101_16 {G : aG} {S : Nat → Bool} {f : Nat} {st : List Value} {ls : aL} {h : aH} {k n : Nat} (hs : S 16 = false) : WP 101 G S (f + 1) 16 ls st h k n = (oI (lget ls 1) (WP 101 G S f) 17 ls st h k n) := by rw [wp_s dd_101_16 rfl hs]; rfl
theorem dd_101_17 : decode (mB 101) 17 = .ok (.imul, 1) := by decide +kernel
theorem u_101_17 {G : aG} {S : Nat → Bool} {f : Nat} {st : List Value} {ls : aL} {h : aH} {k n : Nat} {x y : Int32} (hs : S 17 = false) : WP 101 G S (f + 1) 17 ls (.int y :: .int x :: st) h k n = (WP 101 G S f 18 ls (.int (x * y) :: st) h k n) := by rw [wp_s dd_101_17 rfl hs]; rfl
theorem dd_101_18 : decode (mB 101) 18 = .ok (.iconst 1, 1) := by decide +kernel
theorem u_101_18 {G : aG} {S : Nat → Bool} {f : Nat} {st : List Value} {ls : aL} {h : aH} {k n : Nat} (hs : S 18 = false) : WP 101 G S (f + 1) 18 ls st h k n = (WP 101 G S f 19 ls (.int (nI 1) :: st) h k n) := by rw [wp_s dd_101_18 rfl hs]; rfl
theorem dd_101_19 : decode (mB 101) 19 = .ok (.iadd, 1) := by decide +kernel
theorem u_101_19 {G : aG} {S : Nat → Bool} {f : Nat} {st : List Value} {ls : aL} {h : aH} {k n : Nat} {x y : Int32} (hs : S 19 = false) : WP 101 G S (f + 1) 19 ls (.int y :: .int x :: st) h k n = (WP 101 G S f 20 ls (.int (x + y) :: st) h k n) := by rw [wp_s dd_101_19 rfl hs]; rfl
theorem dd_101_20 : decode (mB 101) 20 = .ok (.iconst 0, 1) := by decide +kernel
theorem u_101_20 {G : aG} {S : Nat → Bool} {f : Nat} {st : List Value} {ls : aL} {h : aH} {k n : Nat} (hs : S 20 = false) : WP 101 G S (f + 1) 20 ls st h k n = (WP 101 G S f 21 ls (.int (nI 0) :: st) h k n) := by rw [wp_s dd_101_20 rfl hs]; rfl
theorem dd_101_21 : decode (mB 101) 21 = .ok (.iastore, 1) := by decide +kernel
theorem u_101_21 {G : aG} {S : Nat → Bool} {f : Nat} {st : List Value} {ls : aL} {h : aH} {k n : Nat} {i x : Int32} {a : Nat} (hs : S 21 = false) : WP 101 G S (f + 1) 21 ls (.int x :: .int i :: .ref a :: st) h k n = (oIst (iget h a 1) a i x (WP 101 G S f) 22 ls st h k n) := by rw [wp_s dd_101_21 rfl hs]; rfl
theorem dd_101_22 : decode (mB 101) 22 = .ok (.aload_n 0, 1) := by decide +kernel
theorem u_101_22 {G : aG} {S : Nat → Bool} {f : Nat} {st : List Value} {ls : aL} {h : aH} {k n : Nat} (hs : S 22 = false) : WP 101 G S (f + 1) 22 ls st h k n = (oA (lget ls 0) (WP 101 G S f) 23 ls st h k n) := by rw [wp_s dd_101_22 rfl hs]; rfl
theorem dd_101_23 : decode (mB 101) 23 = .ok (.getfield 7, 3) := by decide +kernel
theorem u_101_23 {G : aG} {S : Nat → Bool} {f : Nat} {st : List Value} {ls : aL} {h : aH} {k n : Nat} {a : Nat} (hs : S 23 = false) : WP 101 G S (f + 1) 23 ls (.ref a :: st) h k n = (oV (fget h a 10 0) (WP 101 G S f) 26 ls st h k n) := by rw [wp_s dd_101_23 rfl hs]; rfl
theorem dd_101_26 : decode (mB 101) 26 = .ok (.bipush 49, 2) := by decide +kernel
theorem u_101_26 {G : aG} {S : Nat → Bool} {f : Nat} {st : List Value} {ls : aL} {h : aH} {k n : Nat} (hs : S 26 = false) : WP 101 G S (f + 1) 26 ls st h k n = (WP 101 G S f 28 ls (.int (nI 49) :: st) h k n) := by rw [wp_s dd_101_26 rfl hs]; rfl
theorem dd_101_28 : decode (mB 101) 28 = .ok (.iload_n 1, 1) := by decide +kernel
theorem u_101_28 {G : aG} {S : Nat → Bool} {f : Nat} {st : List Value} {ls : aL} {h : aH} {k n : Nat} (hs : S 28 = false) : WP 101 G S (f + 1) 28 ls st h k n = (oI (lget ls 1) (WP 101 G S f) 29 ls st h k n) := by rw [wp_s dd_101_28 rfl hs]; rfl
theorem dd_101_29 : decode (mB 101) 29 = .ok (.imul, 1) := by decide +kernel
theorem u_101_29 {G : aG} {S : Nat → Bool} {f : Nat} {st : List Value} {ls : aL} {h : aH} {k n : Nat} {x y : Int32} (hs : S 29 = false) : WP 101 G S (f + 1) 29 ls (.int y :: .int x :: st) h k n = (WP 101 G S f 30 ls (.int (x * y) :: st) h k n) := by rw [wp_s dd_101_29 rfl hs]; rfl
theorem dd_101_30 : decode (mB 101) 30 = .ok (.iconst 2, 1) := by decide +kernel
theorem u_101_30 {G : aG} {S : Nat → Bool} {f : Nat} {st : List Value} {ls : aL} {h : aH} {k n : Nat} (hs : S 30 = false) : WP 101 G S (f + 1) 30 ls st h k n = (WP 101 G S f 31 ls (.int (nI 2) :: st) h k n) := by rw [wp_s dd_101_30 rfl hs]; rfl
theorem dd_101_31 : decode (mB 101) 31 = .ok (.iadd, 1) := by decide +kernel
theorem u_101_31 {G : aG} {S : Nat → Bool} {f : Nat} {st : List Value} {ls : aL} {h : aH} {k n : Nat} {x y : Int32} (hs : S 31 = false) : WP 101 G S (f + 1) 31 ls (.int y :: .int x :: st) h k n = (WP 101 G S f 32 ls (.int (x + y) :: st) h k n) := by rw [wp_s dd_101_31 rfl hs]; rfl
theorem dd_101_32 : decode (mB 101) 32 = .ok (.iconst (-1), 1) := by decide +kernel
theorem u_101_32 {G : aG} {S : Nat → Bool} {f : Nat} {st : List Value} {ls : aL} {h : aH} {k n : Nat} (hs : S 32 = false) : WP 101 G S (f + 1) 32 ls st h k n = (WP 101 G S f 33 ls (.int (-1) :: st) h k n) := by rw [wp_s dd_101_32 rfl hs]; rfl
theorem dd_101_33 : decode (mB 101) 33 = .ok (.iastore, 1) := by decide +kernel
theorem u_101_33 {G : aG} {S : Nat → Bool} {f : Nat} {st : List Value} {ls : aL} {h : aH} {k n : Nat} {i x : Int32} {a : Nat} (hs : S 33 = false) : WP 101 G S (f + 1) 33 ls (.int x :: .int i :: .ref a :: st) h k n = (oIst (iget h a 1) a i x (WP 101 G S f) 34 ls st h k n) := by rw [wp_s dd_101_33 rfl hs]; rfl
theorem dd_101_34 : decode (mB 101) 34 = .ok (.aload_n 0, 1) := by decide +kernel
theorem u_101_34 {G : aG} {S : Nat → Bool} {f : Nat} {st : List Value} {ls : aL} {h : aH} {k n : Nat} (hs : S 34 = false) : WP 101 G S (f + 1) 34 ls st h k n = (oA (lget ls 0) (WP 101 G S f) 35 ls st h k n) := by rw [wp_s dd_101_34 rfl hs]; rfl
theorem dd_101_35 : decode (mB 101) 35 = .ok (.getfield 7, 3) := by decide +kernel
theorem u_101_35 {G : aG} {S : Nat → Bool} {f : Nat} {st : List Value} {ls : aL} {h : aH} {k n : Nat} {a : Nat} (hs : S 35 = false) : WP 101 G S (f + 1) 35 ls (.ref a :: st) h k n = (oV (fget h a 10 0) (WP 101 G S f) 38 ls st h k n) := by rw [wp_s dd_101_35 rfl hs]; rfl
theorem dd_101_38 : decode (mB 101) 38 = .ok (.bipush 49, 2) := by decide +kernel
theorem u_101_38 {G : aG} {S : Nat → Bool} {f : Nat} {st : List Value} {ls : aL} {h : aH} {k n : Nat} (hs : S 38 = false) : WP 101 G S (f + 1) 38 ls st h k n = (WP 101 G S f 40 ls (.int (nI 49) :: st) h k n) := by rw [wp_s dd_101_38 rfl hs]; rfl
theorem dd_101_40 : decode (mB 101) 40 = .ok (.iload_n 1, 1) := by decide +kernel
theorem u_101_40 {G : aG} {S : Nat → Bool} {f : Nat} {st : List Value} {ls : aL} {h : aH} {k n : Nat} (hs : S 40 = false) : WP 101 G S (f + 1) 40 ls st h k n = (oI (lget ls 1) (WP 101 G S f) 41 ls st h k n) := by rw [wp_s dd_101_40 rfl hs]; rfl
theorem dd_101_41 : decode (mB 101) 41 = .ok (.imul, 1) := by decide +kernel
theorem u_101_41 {G : aG} {S : Nat → Bool} {f : Nat} {st : List Value} {ls : aL} {h : aH} {k n : Nat} {x y : Int32} (hs : S 41 = false) : WP 101 G S (f + 1) 41 ls (.int y :: .int x :: st) h k n = (WP 101 G S f 42 ls (.int (x * y) :: st) h k n) := by rw [wp_s dd_101_41 rfl hs]; rfl
theorem dd_101_42 : decode (mB 101) 42 = .ok (.iconst 3, 1) := by decide +kernel
theorem u_101_42 {G : aG} {S : Nat → Bool} {f : Nat} {st : List Value} {ls : aL} {h : aH} {k n : Nat} (hs : S 42 = false) : WP 101 G S (f + 1) 42 ls st h k n = (WP 101 G S f 43 ls (.int (nI 3) :: st) h k n) := by rw [wp_s dd_101_42 rfl hs]; rfl
theorem dd_101_43 : decode (mB 101) 43 = .ok (.iadd, 1) := by decide +kernel
theorem u_101_43 {G : aG} {S : Nat → Bool} {f : Nat} {st : List Value} {ls : aL} {h : aH} {k n : Nat} {x y : Int32} (hs : S 43 = false) : WP 101 G S (f + 1) 43 ls (.int y :: .int x :: st) h k n = (WP 101 G S f 44 ls (.int (x + y) :: st) h k n) := by rw [wp_s dd_101_43 rfl hs]; rfl
theorem dd_101_44 : decode (mB 101) 44 = .ok (.iconst (-1), 1) := by decide +kernel
theorem u_101_44 {G : aG} {S : Nat → Bool} {f : Nat} {st : List Value} {ls : aL} {h : aH} {k n : Nat} (hs : S 44 = false) : WP 101 G S (f + 1) 44 ls st h k n = (WP 101 G S f 45 ls (.int (-1) :: st) h k n) := by rw [wp_s dd_101_44 rfl hs]; rfl
theorem dd_101_45 : decode (mB 101) 45 = .ok (.iastore, 1) := by decide +kernel
theorem u_101_45 {G : aG} {S : Nat → Bool} {f : Nat} {st : List Value} {ls : aL} {h : aH} {k n : Nat} {i x : Int32} {a : Nat} (hs : S 45 = false) : WP 101 G S (f + 1) 45 ls (.int x :: .int i :: .ref a :: st) h k n = (oIst (iget h a 1) a i x (WP 101 G S f) 46 ls st h k n) := by rw [wp_s dd_101_45 rfl hs]; rfl
theorem dd_101_46 : decode (mB 101) 46 = .ok (.return_, 1) := by decide +kernel
theorem u_101_46 {G : aG} {S : Nat → Bool} {f : Nat} {ls : aL} {h : aH} {k n : Nat} (hs : S 46 = false) : WP 101 G S (f + 1) 46 ls [] h k n = (RET G none h k n) := by rw [wp_s dd_101_46 rfl hs]; rfl
theorem dd_102_0 : decode (mB 102) 0 = .ok (.aload_n 0, 1) := by decide +kernel
theorem u_102_0 {G : aG} {S : Nat → Bool} {f : Nat} {st : List Value} {ls : aL} {h : aH} {k n : Nat} (hs : S 0 = false) : WP 102 G S (f + 1) 0 ls st h k n = (oA (lget ls 0) (WP 102 G S f) 1 ls st h k n) := by rw [wp_s dd_102_0 rfl hs]; rfl
theorem dd_102_1 : decode (mB 102) 1 = .ok (.getfield 7, 3) := by decide +kernel
theorem u_102_1 {G : aG} {S : Nat → Bool} {f : Nat} {st : List Value} {ls : aL} {h : aH} {k n : Nat} {a : Nat} (hs : S 1 = false) : WP 102 G S (f + 1) 1 ls (.ref a :: st) h k n = (oV (fget h a 10 0) (WP 102 G S f) 4 ls st h k n) := by rw [wp_s dd_102_1 rfl hs]; rfl
theorem dd_102_4 : decode (mB 102) 4 = .ok (.sipush 442, 3) := by decide +kernel
theorem u_102_4 {G : aG} {S : Nat → Bool} {f : Nat} {st : List Value} {ls : aL} {h : aH} {k n : Nat} (hs : S 4 = false) : WP 102 G S (f + 1) 4 ls st h k n = (WP 102 G S f 7 ls (.int (nI 442) :: st) h k n) := by rw [wp_s dd_102_4 rfl hs]; rfl
theorem dd_102_7 : decode (mB 102) 7 = .ok (.bipush 8, 2) := by decide +kernel
theorem u_102_7 {G : aG} {S : Nat → Bool} {f : Nat} {st : List Value} {ls : aL} {h : aH} {k n : Nat} (hs : S 7 = false) : WP 102 G S (f + 1) 7 ls st h k n = (WP 102 G S f 9 ls (.int (nI 8) :: st) h k n) := by rw [wp_s dd_102_7 rfl hs]; rfl
theorem dd_102_9 : decode (mB 102) 9 = .ok (.iastore, 1) := by decide +kernel
theorem u_102_9 {G : aG} {S : Nat → Bool} {f : Nat} {st : List Value} {ls : aL} {h : aH} {k n : Nat} {i x : Int32} {a : Nat} (hs : S 9 = false) : WP 102 G S (f + 1) 9 ls (.int x :: .int i :: .ref a :: st) h k n = (oIst (iget h a 1) a i x (WP 102 G S f) 10 ls st h k n) := by rw [wp_s dd_102_9 rfl hs]; rfl
theorem dd_102_10 : decode (mB 102) 10 = .ok (.aload_n 0, 1) := by decide +kernel
theorem u_102_10 {G : aG} {S : Nat → Bool} {f : Nat} {st : List Value} {ls : aL} {h : aH} {k n : Nat} (hs : S 10 = false) : WP 102 G S (f + 1) 10 ls st h k n = (oA (lget ls 0) (WP 102 G S f) 11 ls st h k n) := by rw [wp_s dd_102_10 rfl hs]; rfl
theorem dd_102_11 : decode (mB 102) 11 = .ok (.getfield 7, 3) := by decide +kernel
theorem u_102_11 {G : aG} {S : Nat → Bool} {f : Nat} {st : List Value} {ls : aL} {h : aH} {k n : Nat} {a : Nat} (hs : S 11 = false) : WP 102 G S (f + 1) 11 ls (.ref a :: st) h k n = (oV (fget h a 10 0) (WP 102 G S f) 14 ls st h k n) := by rw [wp_s dd_102_11 rfl hs]; rfl
theorem dd_102_14 : decode (mB 102) 14 = .ok (.sipush 443, 3) := by decide +kernel
theorem u_102_14 {G : aG} {S : Nat → Bool} {f : Nat} {st : List Value} {ls : aL} {h : aH} {k n : Nat} (hs : S 14 = false) : WP 102 G S (f + 1) 14 ls st h k n = (WP 102 G S f 17 ls (.int (nI 443) :: st) h k n) := by rw [wp_s dd_102_14 rfl hs]; rfl
theorem dd_102_17 : decode (mB 102) 17 = .ok (.iconst 0, 1) := by decide +kernel
theorem u_102_17 {G : aG} {S : Nat → Bool} {f : Nat} {st : List Value} {ls : aL} {h : aH} {k n : Nat} (hs : S 17 = false) : WP 102 G S (f + 1) 17 ls st h k n = (WP 102 G S f 18 ls (.int (nI 0) :: st) h k n) := by rw [wp_s dd_102_17 rfl hs]; rfl
theorem dd_102_18 : decode (mB 102) 18 = .ok (.iastore, 1) := by decide +kernel
theorem u_102_18 {G : aG} {S : Nat → Bool} {f : Nat} {st : List Value} {ls : aL} {h : aH} {k n : Nat} {i x : Int32} {a : Nat} (hs : S 18 = false) : WP 102 G S (f + 1) 18 ls (.int x :: .int i :: .ref a :: st) h k n = (oIst (iget h a 1) a i x (WP 102 G S f) 19 ls st h k n) := by rw [wp_s dd_102_18 rfl hs]; rfl
theorem dd_102_19 : decode (mB 102) 19 = .ok (.return_, 1) := by decide +kernel
theorem u_102_19 {G : aG} {S : Nat → Bool} {f : Nat} {ls : aL} {h : aH} {k n : Nat} (hs : S 19 = false) : WP 102 G S (f + 1) 19 ls [] h k n = (RET G none h k n) := by rw [wp_s dd_102_19 rfl hs]; rfl
theorem dd_103_0 : decode (mB 103) 0 = .ok (.iload_n 1, 1) := by decide +kernel
theorem u_103_0 {G : aG} {S : Nat → Bool} {f : Nat} {st : List Value} {ls : aL} {h : aH} {k n : Nat} (hs : S 0 = false) : WP 103 G S (f + 1) 0 ls st h k n = (oI (lget ls 1) (WP 103 G S f) 1 ls st h k n) := by rw [wp_s dd_103_0 rfl hs]; rfl
theorem dd_103_1 : decode (mB 103) 1 = .ok (.i2l, 1) := by decide +kernel
theorem u_103_1 {G : aG} {S : Nat → Bool} {f : Nat} {st : List Value} {ls : aL} {h : aH} {k n : Nat} {x : Int32} (hs : S 1 = false) : WP 103 G S (f + 1) 1 ls (.int x :: st) h k n = (WP 103 G S f 2 ls (.long x.toInt64 :: st) h k n) := by rw [wp_s dd_103_1 rfl hs]; rfl
theorem dd_103_2 : decode (mB 103) 2 = .ok (.lconst 0, 1) := by decide +kernel
theorem u_103_2 {G : aG} {S : Nat → Bool} {f : Nat} {st : List Value} {ls : aL} {h : aH} {k n : Nat} (hs : S 2 = false) : WP 103 G S (f + 1) 2 ls st h k n = (WP 103 G S f 3 ls (.long (lN 0) :: st) h k n) := by rw [wp_s dd_103_2 rfl hs]; rfl
theorem dd_103_3 : decode (mB 103) 3 = .ok (.ldc2_w 107, 3) := by decide +kernel
theorem u_103_3 {G : aG} {S : Nat → Bool} {f : Nat} {st : List Value} {ls : aL} {h : aH} {k n : Nat} (hs : S 3 = false) : WP 103 G S (f + 1) 3 ls st h k n = (WP 103 G S f 6 ls (.long (lN 127) :: st) h k n) := by rw [wp_s dd_103_3 rfl hs]; rfl
theorem dd_103_6 : decode (mB 103) 6 = .ok (.invokestatic 109, 3) := by decide +kernel
theorem u_103_6 {G : aG} {S : Nat → Bool} {f : Nat} {st : List Value} {ls : aL} {h : aH} {k n : Nat} {v1 v2 v3 : Value} (hs : S 6 = false) : WP 103 G S (f + 1) 6 ls (v3 :: v2 :: v1 :: st) h k n = (CAL G (WP 103 G S f) 104 [v1, v2, v3] 9 ls st h k n) := by rw [wp_s dd_103_6 rfl hs]; rfl
theorem dd_103_9 : decode (mB 103) 9 = .ok (.ifCond .ne 10, 3) := by decide +kernel
theorem u_103_9 {G : aG} {S : Nat → Bool} {f : Nat} {st : List Value} {ls : aL} {h : aH} {k n : Nat} {x : Int32} (hs : S 9 = false) : WP 103 G S (f + 1) 9 ls (.int x :: st) h k n = (if x = nI 0 then WP 103 G S f 12 ls st h k n else WP 103 G S f 19 ls st h k n) := by rw [wp_s dd_103_9 rfl hs]; exact br_iten (c := x = nI 0)
theorem dd_103_12 : decode (mB 103) 12 = .ok (.aload_n 0, 1) := by decide +kernel
theorem u_103_12 {G : aG} {S : Nat → Bool} {f : Nat} {st : List Value} {ls : aL} {h : aH} {k n : Nat} (hs : S 12 = false) : WP 103 G S (f + 1) 12 ls st h k n = (oA (lget ls 0) (WP 103 G S f) 13 ls st h k n) := by rw [wp_s dd_103_12 rfl hs]; rfl
theorem dd_103_13 : decode (mB 103) 13 = .ok (.bipush (-2), 2) := by decide +kernel
theorem u_103_13 {G : aG} {S : Nat → Bool} {f : Nat} {st : List Value} {ls : aL} {h : aH} {k n : Nat} (hs : S 13 = false) : WP 103 G S (f + 1) 13 ls st h k n = (WP 103 G S f 15 ls (.int (-2) :: st) h k n) := by rw [wp_s dd_103_13 rfl hs]; rfl
theorem dd_103_15 : decode (mB 103) 15 = .ok (.invokevirtual 113, 3) := by decide +kernel
theorem u_103_15 {G : aG} {S : Nat → Bool} {f : Nat} {st : List Value} {ls : aL} {h : aH} {k n : Nat} {v1 : Value} {b : Nat} (hs : S 15 = false) : WP 103 G S (f + 1) 15 ls (v1 :: .ref b :: st) h k n = (rcv (hget h b) 10 ∧ CAL G (WP 103 G S f) 105 [.ref b, v1] 18 ls st h k n) := by rw [wp_s dd_103_15 rfl hs]; rfl
theorem dd_103_18 : decode (mB 103) 18 = .ok (.ireturn, 1) := by decide +kernel
theorem u_103_18 {G : aG} {S : Nat → Bool} {f : Nat} {ls : aL} {h : aH} {k n : Nat} {x : Int32} (hs : S 18 = false) : WP 103 G S (f + 1) 18 ls [.int x] h k n = (RET G (some (.int x)) h k n) := by rw [wp_s dd_103_18 rfl hs]; rfl
theorem dd_103_19 : decode (mB 103) 19 = .ok (.aload_n 0, 1) := by decide +kernel
theorem u_103_19 {G : aG} {S : Nat → Bool} {f : Nat} {st : List Value} {ls : aL} {h : aH} {k n : Nat} (hs : S 19 = false) : WP 103 G S (f + 1) 19 ls st h k n = (oA (lget ls 0) (WP 103 G S f) 20 ls st h k n) := by rw [wp_s dd_103_19 rfl hs]; rfl
theorem dd_103_20 : decode (mB 103) 20 = .ok (.getfield 117, 3) := by decide +kernel
theorem u_103_20 {G : aG} {S : Nat → Bool} {f : Nat} {st : List Value} {ls : aL} {h : aH} {k n : Nat} {a : Nat} (hs : S 20 = false) : WP 103 G S (f + 1) 20 ls (.ref a :: st) h k n = (oV (fget h a 10 16) (WP 103 G S f) 23 ls st h k n) := by rw [wp_s dd_103_20 rfl hs]; rfl
theorem dd_103_23 : decode (mB 103) 23 = .ok (.sipush 150, 3) := by decide +kernel
theorem u_103_23 {G : aG} {S : Nat → Bool} {f : Nat} {st : List Value} {ls : aL} {h : aH} {k n : Nat} (hs : S 23 = false) : WP 103 G S (f + 1) 23 ls st h k n = (WP 103 G S f 26 ls (.int (nI 150) :: st) h k n) := by rw [wp_s dd_103_23 rfl hs]; rfl
theorem dd_103_26 : decode (mB 103) 26 = .ok (.if_icmp .ne 10, 3) := by decide +kernel
theorem u_103_26 {G : aG} {S : Nat → Bool} {f : Nat} {st : List Value} {ls : aL} {h : aH} {k n : Nat} {x y : Int32} (hs : S 26 = false) : WP 103 G S (f + 1) 26 ls (.int y :: .int x :: st) h k n = (if x = y then WP 103 G S f 29 ls st h k n else WP 103 G S f 36 ls st h k n) := by rw [wp_s dd_103_26 rfl hs]; exact br_iten (c := x = y)
theorem dd_103_29 : decode (mB 103) 29 = .ok (.aload_n 0, 1) := by decide +kernel
theorem u_103_29 {G : aG} {S : Nat → Bool} {f : Nat} {st : List Value} {ls : aL} {h : aH} {k n : Nat} (hs : S 29 = false) : WP 103 G S (f + 1) 29 ls st h k n = (oA (lget ls 0) (WP 103 G S f) 30 ls st h k n) := by rw [wp_s dd_103_29 rfl hs]; rfl
theorem dd_103_30 : decode (mB 103) 30 = .ok (.bipush (-4), 2) := by decide +kernel
theorem u_103_30 {G : aG} {S : Nat → Bool} {f : Nat} {st : List Value} {ls : aL} {h : aH} {k n : Nat} (hs : S 30 = false) : WP 103 G S (f + 1) 30 ls st h k n = (WP 103 G S f 32 ls (.int (-4) :: st) h k n) := by rw [wp_s dd_103_30 rfl hs]; rfl
theorem dd_103_32 : decode (mB 103) 32 = .ok (.invokevirtual 113, 3) := by decide +kernel
theorem u_103_32 {G : aG} {S : Nat → Bool} {f : Nat} {st : List Value} {ls : aL} {h : aH} {k n : Nat} {v1 : Value} {b : Nat} (hs : S 32 = false) : WP 103 G S (f + 1) 32 ls (v1 :: .ref b :: st) h k n = (rcv (hget h b) 10 ∧ CAL G (WP 103 G S f) 105 [.ref b, v1] 35 ls st h k n) := by rw [wp_s dd_103_32 rfl hs]; rfl
theorem dd_103_35 : decode (mB 103) 35 = .ok (.ireturn, 1) := by decide +kernel
theorem u_103_35 {G : aG} {S : Nat → Bool} {f : Nat} {ls : aL} {h : aH} {k n : Nat} {x : Int32} (hs : S 35 = false) : WP 103 G S (f + 1) 35 ls [.int x] h k n = (RET G (some (.int x)) h k n) := by rw [wp_s dd_103_35 rfl hs]; rfl
theorem dd_103_36 : decode (mB 103) 36 = .ok (.aload_n 0, 1) := by decide +kernel
theorem u_103_36 {G : aG} {S : Nat → Bool} {f : Nat} {st : List Value} {ls : aL} {h : aH} {k n : Nat} (hs : S 36 = false) : WP 103 G S (f + 1) 36 ls st h k n = (oA (lget ls 0) (WP 103 G S f) 37 ls st h k n) := by rw [wp_s dd_103_36 rfl hs]; rfl
theorem dd_103_37 : decode (mB 103) 37 = .ok (.getfield 49, 3) := by decide +kernel
theorem u_103_37 {G : aG} {S : Nat → Bool} {f : Nat} {st : List Value} {ls : aL} {h : aH} {k n : Nat} {a : Nat} (hs : S 37 = false) : WP 103 G S (f + 1) 37 ls (.ref a :: st) h k n = (oV (fget h a 10 15) (WP 103 G S f) 40 ls st h k n) := by rw [wp_s dd_103_37 rfl hs]; rfl
theorem dd_103_40 : decode (mB 103) 40 = .ok (.aload_n 0, 1) := by decide +kernel
theorem u_103_40 {G : aG} {S : Nat → Bool} {f : Nat} {st : List Value} {ls : aL} {h : aH} {k n : Nat} (hs : S 40 = false) : WP 103 G S (f + 1) 40 ls st h k n = (oA (lget ls 0) (WP 103 G S f) 41 ls st h k n) := by rw [wp_s dd_103_40 rfl hs]; rfl
theorem dd_103_41 : decode (mB 103) 41 = .ok (.getfield 117, 3) := by decide +kernel
theorem u_103_41 {G : aG} {S : Nat → Bool} {f : Nat} {st : List Value} {ls : aL} {h : aH} {k n : Nat} {a : Nat} (hs : S 41 = false) : WP 103 G S (f + 1) 41 ls (.ref a :: st) h k n = (oV (fget h a 10 16) (WP 103 G S f) 44 ls st h k n) := by rw [wp_s dd_103_41 rfl hs]; rfl
theorem dd_103_44 : decode (mB 103) 44 = .ok (.iload_n 1, 1) := by decide +kernel
theorem u_103_44 {G : aG} {S : Nat → Bool} {f : Nat} {st : List Value} {ls : aL} {h : aH} {k n : Nat} (hs : S 44 = false) : WP 103 G S (f + 1) 44 ls st h k n = (oI (lget ls 1) (WP 103 G S f) 45 ls st h k n) := by rw [wp_s dd_103_44 rfl hs]; rfl
theorem dd_103_45 : decode (mB 103) 45 = .ok (.iastore, 1) := by decide +kernel
theorem u_103_45 {G : aG} {S : Nat → Bool} {f : Nat} {st : List Value} {ls : aL} {h : aH} {k n : Nat} {i x : Int32} {a : Nat} (hs : S 45 = false) : WP 103 G S (f + 1) 45 ls (.int x :: .int i :: .ref a :: st) h k n = (oIst (iget h a 1) a i x (WP 103 G S f) 46 ls st h k n) := by rw [wp_s dd_103_45 rfl hs]; rfl
theorem dd_103_46 : decode (mB 103) 46 = .ok (.aload_n 0, 1) := by decide +kernel
theorem u_103_46 {G : aG} {S : Nat → Bool} {f : Nat} {st : List Value} {ls : aL} {h : aH} {k n : Nat} (hs : S 46 = false) : WP 103 G S (f + 1) 46 ls st h k n = (oA (lget ls 0) (WP 103 G S f) 47 ls st h k n) := by rw [wp_s dd_103_46 rfl hs]; rfl
theorem dd_103_47 : decode (mB 103) 47 = .ok (.dup, 1) := by decide +kernel
theorem u_103_47 {G : aG} {S : Nat → Bool} {f : Nat} {st : List Value} {ls : aL} {h : aH} {k n : Nat} {v : Value} (hs : S 47 = false) : WP 103 G S (f + 1) 47 ls (v :: st) h k n = (cond (cat1 v) (WP 103 G S f 48 ls (v :: v :: st) h k n) False) := by rw [wp_s dd_103_47 rfl hs]; rfl
theorem dd_103_48 : decode (mB 103) 48 = .ok (.getfield 117, 3) := by decide +kernel
theorem u_103_48 {G : aG} {S : Nat → Bool} {f : Nat} {st : List Value} {ls : aL} {h : aH} {k n : Nat} {a : Nat} (hs : S 48 = false) : WP 103 G S (f + 1) 48 ls (.ref a :: st) h k n = (oV (fget h a 10 16) (WP 103 G S f) 51 ls st h k n) := by rw [wp_s dd_103_48 rfl hs]; rfl
theorem dd_103_51 : decode (mB 103) 51 = .ok (.iconst 1, 1) := by decide +kernel
theorem u_103_51 {G : aG} {S : Nat → Bool} {f : Nat} {st : List Value} {ls : aL} {h : aH} {k n : Nat} (hs : S 51 = false) : WP 103 G S (f + 1) 51 ls st h k n = (WP 103 G S f 52 ls (.int (nI 1) :: st) h k n) := by rw [wp_s dd_103_51 rfl hs]; rfl
theorem dd_103_52 : decode (mB 103) 52 = .ok (.iadd, 1) := by decide +kernel
theorem u_103_52 {G : aG} {S : Nat → Bool} {f : Nat} {st : List Value} {ls : aL} {h : aH} {k n : Nat} {x y : Int32} (hs : S 52 = false) : WP 103 G S (f + 1) 52 ls (.int y :: .int x :: st) h k n = (WP 103 G S f 53 ls (.int (x + y) :: st) h k n) := by rw [wp_s dd_103_52 rfl hs]; rfl
theorem dd_103_53 : decode (mB 103) 53 = .ok (.putfield 117, 3) := by decide +kernel
theorem u_103_53 {G : aG} {S : Nat → Bool} {f : Nat} {st : List Value} {ls : aL} {h : aH} {k n : Nat} {a : Nat} {x : Int32} (hs : S 53 = false) : WP 103 G S (f + 1) 53 ls (.int x :: .ref a :: st) h k n = (oH (fput h a 10 16 (.int x)) (WP 103 G S f) 56 ls st k n) := by rw [wp_s dd_103_53 rfl hs]; rfl
theorem dd_103_56 : decode (mB 103) 56 = .ok (.aload_n 0, 1) := by decide +kernel
theorem u_103_56 {G : aG} {S : Nat → Bool} {f : Nat} {st : List Value} {ls : aL} {h : aH} {k n : Nat} (hs : S 56 = false) : WP 103 G S (f + 1) 56 ls st h k n = (oA (lget ls 0) (WP 103 G S f) 57 ls st h k n) := by rw [wp_s dd_103_56 rfl hs]; rfl
theorem dd_103_57 : decode (mB 103) 57 = .ok (.getfield 117, 3) := by decide +kernel
theorem u_103_57 {G : aG} {S : Nat → Bool} {f : Nat} {st : List Value} {ls : aL} {h : aH} {k n : Nat} {a : Nat} (hs : S 57 = false) : WP 103 G S (f + 1) 57 ls (.ref a :: st) h k n = (oV (fget h a 10 16) (WP 103 G S f) 60 ls st h k n) := by rw [wp_s dd_103_57 rfl hs]; rfl
theorem dd_103_60 : decode (mB 103) 60 = .ok (.ireturn, 1) := by decide +kernel
theorem u_103_60 {G : aG} {S : Nat → Bool} {f : Nat} {ls : aL} {h : aH} {k n : Nat} {x : Int32} (hs : S 60 = false) : WP 103 G S (f + 1) 60 ls [.int x] h k n = (RET G (some (.int x)) h k n) := by rw [wp_s dd_103_60 rfl hs]; rfl
theorem dd_104_0 : decode (mB 104) 0 = .ok (.lload_n 0, 1) := by decide +kernel
theorem u_104_0 {G : aG} {S : Nat → Bool} {f : Nat} {st : List Value} {ls : aL} {h : aH} {k n : Nat} (hs : S 0 = false) : WP 104 G S (f + 1) 0 ls st h k n = (oJ (lget ls 0) (WP 104 G S f) 1 ls st h k n) := by rw [wp_s dd_104_0 rfl hs]; rfl
theorem dd_104_1 : decode (mB 104) 1 = .ok (.lload_n 2, 1) := by decide +kernel
theorem u_104_1 {G : aG} {S : Nat → Bool} {f : Nat} {st : List Value} {ls : aL} {h : aH} {k n : Nat} (hs : S 1 = false) : WP 104 G S (f + 1) 1 ls st h k n = (oJ (lget ls 2) (WP 104 G S f) 2 ls st h k n) := by rw [wp_s dd_104_1 rfl hs]; rfl
theorem dd_104_2 : decode (mB 104) 2 = .ok (.lcmp, 1) := by decide +kernel
theorem u_104_2 {G : aG} {S : Nat → Bool} {f : Nat} {st : List Value} {ls : aL} {h : aH} {k n : Nat} {x y : Int64} (hs : S 2 = false) : WP 104 G S (f + 1) 2 ls (.long y :: .long x :: st) h k n = (WP 104 G S f 3 ls (.int (lg_cmp x y) :: st) h k n) := by rw [wp_s dd_104_2 rfl hs]; rfl
theorem dd_104_3 : decode (mB 104) 3 = .ok (.ifCond .lt 14, 3) := by decide +kernel
theorem u_104_3 {G : aG} {S : Nat → Bool} {f : Nat} {st : List Value} {ls : aL} {h : aH} {k n : Nat} {x : Int32} (hs : S 3 = false) : WP 104 G S (f + 1) 3 ls (.int x :: st) h k n = (if x < nI 0 then WP 104 G S f 17 ls st h k n else WP 104 G S f 6 ls st h k n) := by rw [wp_s dd_104_3 rfl hs]; exact br_ite (c := x < nI 0)
theorem dd_104_6 : decode (mB 104) 6 = .ok (.lload_n 0, 1) := by decide +kernel
theorem u_104_6 {G : aG} {S : Nat → Bool} {f : Nat} {st : List Value} {ls : aL} {h : aH} {k n : Nat} (hs : S 6 = false) : WP 104 G S (f + 1) 6 ls st h k n = (oJ (lget ls 0) (WP 104 G S f) 7 ls st h k n) := by rw [wp_s dd_104_6 rfl hs]; rfl
theorem dd_104_7 : decode (mB 104) 7 = .ok (.lload 4, 2) := by decide +kernel
theorem u_104_7 {G : aG} {S : Nat → Bool} {f : Nat} {st : List Value} {ls : aL} {h : aH} {k n : Nat} (hs : S 7 = false) : WP 104 G S (f + 1) 7 ls st h k n = (oJ (lget ls 4) (WP 104 G S f) 9 ls st h k n) := by rw [wp_s dd_104_7 rfl hs]; rfl
theorem dd_104_9 : decode (mB 104) 9 = .ok (.lcmp, 1) := by decide +kernel
theorem u_104_9 {G : aG} {S : Nat → Bool} {f : Nat} {st : List Value} {ls : aL} {h : aH} {k n : Nat} {x y : Int64} (hs : S 9 = false) : WP 104 G S (f + 1) 9 ls (.long y :: .long x :: st) h k n = (WP 104 G S f 10 ls (.int (lg_cmp x y) :: st) h k n) := by rw [wp_s dd_104_9 rfl hs]; rfl
theorem dd_104_10 : decode (mB 104) 10 = .ok (.ifCond .gt 7, 3) := by decide +kernel
theorem u_104_10 {G : aG} {S : Nat → Bool} {f : Nat} {st : List Value} {ls : aL} {h : aH} {k n : Nat} {x : Int32} (hs : S 10 = false) : WP 104 G S (f + 1) 10 ls (.int x :: st) h k n = (if nI 0 < x then WP 104 G S f 17 ls st h k n else WP 104 G S f 13 ls st h k n) := by rw [wp_s dd_104_10 rfl hs]; exact br_ite (c := nI 0 < x)
theorem dd_104_13 : decode (mB 104) 13 = .ok (.iconst 1, 1) := by decide +kernel
theorem u_104_13 {G : aG} {S : Nat → Bool} {f : Nat} {st : List Value} {ls : aL} {h : aH} {k n : Nat} (hs : S 13 = false) : WP 104 G S (f + 1) 13 ls st h k n = (WP 104 G S f 14 ls (.int (nI 1) :: st) h k n) := by rw [wp_s dd_104_13 rfl hs]; rfl
theorem dd_104_14 : decode (mB 104) 14 = .ok (.goto 4, 3) := by decide +kernel
theorem u_104_14 {G : aG} {S : Nat → Bool} {f : Nat} {st : List Value} {ls : aL} {h : aH} {k n : Nat} (hs : S 14 = false) : WP 104 G S (f + 1) 14 ls st h k n = (WP 104 G S f 18 ls st h k n) := by rw [wp_s dd_104_14 rfl hs]; rfl
theorem dd_104_17 : decode (mB 104) 17 = .ok (.iconst 0, 1) := by decide +kernel
theorem u_104_17 {G : aG} {S : Nat → Bool} {f : Nat} {st : List Value} {ls : aL} {h : aH} {k n : Nat} (hs : S 17 = false) : WP 104 G S (f + 1) 17 ls st h k n = (WP 104 G S f 18 ls (.int (nI 0) :: st) h k n) := by rw [wp_s dd_104_17 rfl hs]; rfl
theorem dd_104_18 : decode (mB 104) 18 = .ok (.ireturn, 1) := by decide +kernel
theorem u_104_18 {G : aG} {S : Nat → Bool} {f : Nat} {ls : aL} {h : aH} {k n : Nat} {x : Int32} (hs : S 18 = false) : WP 104 G S (f + 1) 18 ls [.int x] h k n = (cond (x == nI 0 || x == nI 1) (RET G (some (.int x)) h k n) False) := by rw [wp_s dd_104_18 rfl hs]; rfl
theorem dd_105_0 : decode (mB 105) 0 = .ok (.aload_n 0, 1) := by decide +kernel
theorem u_105_0 {G : aG} {S : Nat → Bool} {f : Nat} {st : List Value} {ls : aL} {h : aH} {k n : Nat} (hs : S 0 = false) : WP 105 G S (f + 1) 0 ls st h k n = (oA (lget ls 0) (WP 105 G S f) 1 ls st h k n) := by rw [wp_s dd_105_0 rfl hs]; rfl
theorem dd_105_1 : decode (mB 105) 1 = .ok (.getfield 16, 3) := by decide +kernel
theorem u_105_1 {G : aG} {S : Nat → Bool} {f : Nat} {st : List Value} {ls : aL} {h : aH} {k n : Nat} {a : Nat} (hs : S 1 = false) : WP 105 G S (f + 1) 1 ls (.ref a :: st) h k n = (oV (fget h a 10 3) (WP 105 G S f) 4 ls st h k n) := by rw [wp_s dd_105_1 rfl hs]; rfl
theorem dd_105_4 : decode (mB 105) 4 = .ok (.bipush (-2), 2) := by decide +kernel
theorem u_105_4 {G : aG} {S : Nat → Bool} {f : Nat} {st : List Value} {ls : aL} {h : aH} {k n : Nat} (hs : S 4 = false) : WP 105 G S (f + 1) 4 ls st h k n = (WP 105 G S f 6 ls (.int (-2) :: st) h k n) := by rw [wp_s dd_105_4 rfl hs]; rfl
theorem dd_105_6 : decode (mB 105) 6 = .ok (.iload_n 1, 1) := by decide +kernel
theorem u_105_6 {G : aG} {S : Nat → Bool} {f : Nat} {st : List Value} {ls : aL} {h : aH} {k n : Nat} (hs : S 6 = false) : WP 105 G S (f + 1) 6 ls st h k n = (oI (lget ls 1) (WP 105 G S f) 7 ls st h k n) := by rw [wp_s dd_105_6 rfl hs]; rfl
theorem dd_105_7 : decode (mB 105) 7 = .ok (.isub, 1) := by decide +kernel
theorem u_105_7 {G : aG} {S : Nat → Bool} {f : Nat} {st : List Value} {ls : aL} {h : aH} {k n : Nat} {x y : Int32} (hs : S 7 = false) : WP 105 G S (f + 1) 7 ls (.int y :: .int x :: st) h k n = (WP 105 G S f 8 ls (.int (x - y) :: st) h k n) := by rw [wp_s dd_105_7 rfl hs]; rfl
theorem dd_105_8 : decode (mB 105) 8 = .ok (.dup2, 1) := by decide +kernel
theorem u_105_8 {G : aG} {S : Nat → Bool} {f : Nat} {st : List Value} {ls : aL} {h : aH} {k n : Nat} {v v2 : Value} (hs : S 8 = false) : WP 105 G S (f + 1) 8 ls (v :: v2 :: st) h k n = (cond (cat1 v && cat1 v2) (WP 105 G S f 9 ls (v :: v2 :: v :: v2 :: st) h k n) False) := by rw [wp_s dd_105_8 rfl hs]; rfl
theorem dd_105_9 : decode (mB 105) 9 = .ok (.iaload, 1) := by decide +kernel
theorem u_105_9 {G : aG} {S : Nat → Bool} {f : Nat} {st : List Value} {ls : aL} {h : aH} {k n : Nat} {i : Int32} {a : Nat} (hs : S 9 = false) : WP 105 G S (f + 1) 9 ls (.int i :: .ref a :: st) h k n = (oIld (iget h a 1) i (WP 105 G S f) 10 ls st h k n) := by rw [wp_s dd_105_9 rfl hs]; rfl
theorem dd_105_10 : decode (mB 105) 10 = .ok (.iconst 1, 1) := by decide +kernel
theorem u_105_10 {G : aG} {S : Nat → Bool} {f : Nat} {st : List Value} {ls : aL} {h : aH} {k n : Nat} (hs : S 10 = false) : WP 105 G S (f + 1) 10 ls st h k n = (WP 105 G S f 11 ls (.int (nI 1) :: st) h k n) := by rw [wp_s dd_105_10 rfl hs]; rfl
theorem dd_105_11 : decode (mB 105) 11 = .ok (.iadd, 1) := by decide +kernel
theorem u_105_11 {G : aG} {S : Nat → Bool} {f : Nat} {st : List Value} {ls : aL} {h : aH} {k n : Nat} {x y : Int32} (hs : S 11 = false) : WP 105 G S (f + 1) 11 ls (.int y :: .int x :: st) h k n = (WP 105 G S f 12 ls (.int (x + y) :: st) h k n) := by rw [wp_s dd_105_11 rfl hs]; rfl
theorem dd_105_12 : decode (mB 105) 12 = .ok (.iastore, 1) := by decide +kernel
theorem u_105_12 {G : aG} {S : Nat → Bool} {f : Nat} {st : List Value} {ls : aL} {h : aH} {k n : Nat} {i x : Int32} {a : Nat} (hs : S 12 = false) : WP 105 G S (f + 1) 12 ls (.int x :: .int i :: .ref a :: st) h k n = (oIst (iget h a 1) a i x (WP 105 G S f) 13 ls st h k n) := by rw [wp_s dd_105_12 rfl hs]; rfl
theorem dd_105_13 : decode (mB 105) 13 = .ok (.iload_n 1, 1) := by decide +kernel
theorem u_105_13 {G : aG} {S : Nat → Bool} {f : Nat} {st : List Value} {ls : aL} {h : aH} {k n : Nat} (hs : S 13 = false) : WP 105 G S (f + 1) 13 ls st h k n = (oI (lget ls 1) (WP 105 G S f) 14 ls st h k n) := by rw [wp_s dd_105_13 rfl hs]; rfl
theorem dd_105_14 : decode (mB 105) 14 = .ok (.ireturn, 1) := by decide +kernel
theorem u_105_14 {G : aG} {S : Nat → Bool} {f : Nat} {ls : aL} {h : aH} {k n : Nat} {x : Int32} (hs : S 14 = false) : WP 105 G S (f + 1) 14 ls [.int x] h k n = (RET G (some (.int x)) h k n) := by rw [wp_s dd_105_14 rfl hs]; rfl
theorem dd_106_0 : decode (mB 106) 0 = .ok (.aload_n 0, 1) := by decide +kernel
theorem u_106_0 {G : aG} {S : Nat → Bool} {f : Nat} {st : List Value} {ls : aL} {h : aH} {k n : Nat} (hs : S 0 = false) : WP 106 G S (f + 1) 0 ls st h k n = (oA (lget ls 0) (WP 106 G S f) 1 ls st h k n) := by rw [wp_s dd_106_0 rfl hs]; rfl
theorem dd_106_1 : decode (mB 106) 1 = .ok (.getfield 117, 3) := by decide +kernel
theorem u_106_1 {G : aG} {S : Nat → Bool} {f : Nat} {st : List Value} {ls : aL} {h : aH} {k n : Nat} {a : Nat} (hs : S 1 = false) : WP 106 G S (f + 1) 1 ls (.ref a :: st) h k n = (oV (fget h a 10 16) (WP 106 G S f) 4 ls st h k n) := by rw [wp_s dd_106_1 rfl hs]; rfl
theorem dd_106_4 : decode (mB 106) 4 = .ok (.istore_n 1, 1) := by decide +kernel
theorem u_106_4 {G : aG} {S : Nat → Bool} {f : Nat} {st : List Value} {ls : aL} {h : aH} {k n : Nat} {x : Int32} (hs : S 4 = false) : WP 106 G S (f + 1) 4 ls (.int x :: st) h k n = (WP 106 G S f 5 (lput1 ls 1 (.int x)) st h k n) := by rw [wp_s dd_106_4 rfl hs]; rfl
theorem dd_106_5 : decode (mB 106) 5 = .ok (.aload_n 0, 1) := by decide +kernel
theorem u_106_5 {G : aG} {S : Nat → Bool} {f : Nat} {st : List Value} {ls : aL} {h : aH} {k n : Nat} (hs : S 5 = false) : WP 106 G S (f + 1) 5 ls st h k n = (oA (lget ls 0) (WP 106 G S f) 6 ls st h k n) := by rw [wp_s dd_106_5 rfl hs]; rfl
theorem dd_106_6 : decode (mB 106) 6 = .ok (.iconst 0, 1) := by decide +kernel
theorem u_106_6 {G : aG} {S : Nat → Bool} {f : Nat} {st : List Value} {ls : aL} {h : aH} {k n : Nat} (hs : S 6 = false) : WP 106 G S (f + 1) 6 ls st h k n = (WP 106 G S f 7 ls (.int (nI 0) :: st) h k n) := by rw [wp_s dd_106_6 rfl hs]; rfl
theorem dd_106_7 : decode (mB 106) 7 = .ok (.putfield 117, 3) := by decide +kernel
theorem u_106_7 {G : aG} {S : Nat → Bool} {f : Nat} {st : List Value} {ls : aL} {h : aH} {k n : Nat} {a : Nat} {x : Int32} (hs : S 7 = false) : WP 106 G S (f + 1) 7 ls (.int x :: .ref a :: st) h k n = (oH (fput h a 10 16 (.int x)) (WP 106 G S f) 10 ls st k n) := by rw [wp_s dd_106_7 rfl hs]; rfl
theorem dd_106_10 : decode (mB 106) 10 = .ok (.iload_n 1, 1) := by decide +kernel
theorem u_106_10 {G : aG} {S : Nat → Bool} {f : Nat} {st : List Value} {ls : aL} {h : aH} {k n : Nat} (hs : S 10 = false) : WP 106 G S (f + 1) 10 ls st h k n = (oI (lget ls 1) (WP 106 G S f) 11 ls st h k n) := by rw [wp_s dd_106_10 rfl hs]; rfl
theorem dd_106_11 : decode (mB 106) 11 = .ok (.ireturn, 1) := by decide +kernel
theorem u_106_11 {G : aG} {S : Nat → Bool} {f : Nat} {ls : aL} {h : aH} {k n : Nat} {x : Int32} (hs : S 11 = false) : WP 106 G S (f + 1) 11 ls [.int x] h k n = (RET G (some (.int x)) h k n) := by rw [wp_s dd_106_11 rfl hs]; rfl
theorem dd_107_0 : decode (mB 107) 0 = .ok (.aload_n 0, 1) := by decide +kernel
theorem u_107_0 {G : aG} {S : Nat → Bool} {f : Nat} {st : List Value} {ls : aL} {h : aH} {k n : Nat} (hs : S 0 = false) : WP 107 G S (f + 1) 0 ls st h k n = (oA (lget ls 0) (WP 107 G S f) 1 ls st h k n) := by rw [wp_s dd_107_0 rfl hs]; rfl
theorem dd_107_1 : decode (mB 107) 1 = .ok (.iconst 0, 1) := by decide +kernel
theorem u_107_1 {G : aG} {S : Nat → Bool} {f : Nat} {st : List Value} {ls : aL} {h : aH} {k n : Nat} (hs : S 1 = false) : WP 107 G S (f + 1) 1 ls st h k n = (WP 107 G S f 2 ls (.int (nI 0) :: st) h k n) := by rw [wp_s dd_107_1 rfl hs]; rfl
theorem dd_107_2 : decode (mB 107) 2 = .ok (.putfield 120, 3) := by decide +kernel
theorem u_107_2 {G : aG} {S : Nat → Bool} {f : Nat} {st : List Value} {ls : aL} {h : aH} {k n : Nat} {a : Nat} {x : Int32} (hs : S 2 = false) : WP 107 G S (f + 1) 2 ls (.int x :: .ref a :: st) h k n = (oH (fput h a 10 17 (.int x)) (WP 107 G S f) 5 ls st k n) := by rw [wp_s dd_107_2 rfl hs]; rfl
theorem dd_107_5 : decode (mB 107) 5 = .ok (.iconst 0, 1) := by decide +kernel
theorem u_107_5 {G : aG} {S : Nat → Bool} {f : Nat} {st : List Value} {ls : aL} {h : aH} {k n : Nat} (hs : S 5 = false) : WP 107 G S (f + 1) 5 ls st h k n = (WP 107 G S f 6 ls (.int (nI 0) :: st) h k n) := by rw [wp_s dd_107_5 rfl hs]; rfl
theorem dd_107_6 : decode (mB 107) 6 = .ok (.istore_n 1, 1) := by decide +kernel
theorem u_107_6 {G : aG} {S : Nat → Bool} {f : Nat} {st : List Value} {ls : aL} {h : aH} {k n : Nat} {x : Int32} (hs : S 6 = false) : WP 107 G S (f + 1) 6 ls (.int x :: st) h k n = (WP 107 G S f 7 (lput1 ls 1 (.int x)) st h k n) := by rw [wp_s dd_107_6 rfl hs]; rfl
theorem dd_107_7 : decode (mB 107) 7 = .ok (.aload_n 0, 1) := by decide +kernel
theorem u_107_7 {G : aG} {S : Nat → Bool} {f : Nat} {st : List Value} {ls : aL} {h : aH} {k n : Nat} (hs : S 7 = false) : WP 107 G S (f + 1) 7 ls st h k n = (oA (lget ls 0) (WP 107 G S f) 8 ls st h k n) := by rw [wp_s dd_107_7 rfl hs]; rfl
theorem v_107_7 {G : aG} {S : Nat → Bool} {f : Nat} {st : List Value} {ls : aL} {h : aH} {k n : Nat} : WQ 107 G S f 7 ls st h k n = (oA (lget ls 0) (WP 107 G S f) 8 ls st h k n) := by rw [wq_s dd_107_7 rfl]; rfl
theorem dd_107_8 : decode (mB 107) 8 = .ok (.iconst 0, 1) := by decide +kernel
theorem u_107_8 {G : aG} {S : Nat → Bool} {f : Nat} {st : List Value} {ls : aL} {h : aH} {k n : Nat} (hs : S 8 = false) : WP 107 G S (f + 1) 8 ls st h k n = (WP 107 G S f 9 ls (.int (nI 0) :: st) h k n) := by rw [wp_s dd_107_8 rfl hs]; rfl
theorem dd_107_9 : decode (mB 107) 9 = .ok (.invokevirtual 168, 3) := by decide +kernel
theorem u_107_9 {G : aG} {S : Nat → Bool} {f : Nat} {st : List Value} {ls : aL} {h : aH} {k n : Nat} {v1 : Value} {b : Nat} (hs : S 9 = false) : WP 107 G S (f + 1) 9 ls (v1 :: .ref b :: st) h k n = (rcv (hget h b) 10 ∧ CAL G (WP 107 G S f) 108 [.ref b, v1] 12 ls st h k n) := by rw [wp_s dd_107_9 rfl hs]; rfl
theorem dd_107_12 : decode (mB 107) 12 = .ok (.ifCond .ne 11, 3) := by decide +kernel
theorem u_107_12 {G : aG} {S : Nat → Bool} {f : Nat} {st : List Value} {ls : aL} {h : aH} {k n : Nat} {x : Int32} (hs : S 12 = false) : WP 107 G S (f + 1) 12 ls (.int x :: st) h k n = (if x = nI 0 then WP 107 G S f 15 ls st h k n else WP 107 G S f 23 ls st h k n) := by rw [wp_s dd_107_12 rfl hs]; exact br_iten (c := x = nI 0)
theorem dd_107_15 : decode (mB 107) 15 = .ok (.bipush (-10), 2) := by decide +kernel
theorem u_107_15 {G : aG} {S : Nat → Bool} {f : Nat} {st : List Value} {ls : aL} {h : aH} {k n : Nat} (hs : S 15 = false) : WP 107 G S (f + 1) 15 ls st h k n = (WP 107 G S f 17 ls (.int (-10) :: st) h k n) := by rw [wp_s dd_107_15 rfl hs]; rfl
theorem dd_107_17 : decode (mB 107) 17 = .ok (.aload_n 0, 1) := by decide +kernel
theorem u_107_17 {G : aG} {S : Nat → Bool} {f : Nat} {st : List Value} {ls : aL} {h : aH} {k n : Nat} (hs : S 17 = false) : WP 107 G S (f + 1) 17 ls st h k n = (oA (lget ls 0) (WP 107 G S f) 18 ls st h k n) := by rw [wp_s dd_107_17 rfl hs]; rfl
theorem dd_107_18 : decode (mB 107) 18 = .ok (.getfield 120, 3) := by decide +kernel
theorem u_107_18 {G : aG} {S : Nat → Bool} {f : Nat} {st : List Value} {ls : aL} {h : aH} {k n : Nat} {a : Nat} (hs : S 18 = false) : WP 107 G S (f + 1) 18 ls (.ref a :: st) h k n = (oV (fget h a 10 17) (WP 107 G S f) 21 ls st h k n) := by rw [wp_s dd_107_18 rfl hs]; rfl
theorem dd_107_21 : decode (mB 107) 21 = .ok (.isub, 1) := by decide +kernel
theorem u_107_21 {G : aG} {S : Nat → Bool} {f : Nat} {st : List Value} {ls : aL} {h : aH} {k n : Nat} {x y : Int32} (hs : S 21 = false) : WP 107 G S (f + 1) 21 ls (.int y :: .int x :: st) h k n = (WP 107 G S f 22 ls (.int (x - y) :: st) h k n) := by rw [wp_s dd_107_21 rfl hs]; rfl
theorem dd_107_22 : decode (mB 107) 22 = .ok (.ireturn, 1) := by decide +kernel
theorem u_107_22 {G : aG} {S : Nat → Bool} {f : Nat} {ls : aL} {h : aH} {k n : Nat} {x : Int32} (hs : S 22 = false) : WP 107 G S (f + 1) 22 ls [.int x] h k n = (RET G (some (.int x)) h k n) := by rw [wp_s dd_107_22 rfl hs]; rfl
theorem dd_107_23 : decode (mB 107) 23 = .ok (.iinc 1 1, 3) := by decide +kernel
theorem u_107_23 {G : aG} {S : Nat → Bool} {f : Nat} {st : List Value} {ls : aL} {h : aH} {k n : Nat} (hs : S 23 = false) : WP 107 G S (f + 1) 23 ls st h k n = (oInc (lget ls 1) (nI 1) (WP 107 G S f) 1 26 ls st h k n) := by rw [wp_s dd_107_23 rfl hs]; rfl
theorem dd_107_26 : decode (mB 107) 26 = .ok (.aload_n 0, 1) := by decide +kernel
theorem u_107_26 {G : aG} {S : Nat → Bool} {f : Nat} {st : List Value} {ls : aL} {h : aH} {k n : Nat} (hs : S 26 = false) : WP 107 G S (f + 1) 26 ls st h k n = (oA (lget ls 0) (WP 107 G S f) 27 ls st h k n) := by rw [wp_s dd_107_26 rfl hs]; rfl
theorem dd_107_27 : decode (mB 107) 27 = .ok (.invokevirtual 152, 3) := by decide +kernel
theorem u_107_27 {G : aG} {S : Nat → Bool} {f : Nat} {st : List Value} {ls : aL} {h : aH} {k n : Nat} {b : Nat} (hs : S 27 = false) : WP 107 G S (f + 1) 27 ls (.ref b :: st) h k n = (rcv (hget h b) 10 ∧ CAL G (WP 107 G S f) 109 [.ref b] 30 ls st h k n) := by rw [wp_s dd_107_27 rfl hs]; rfl
theorem dd_107_30 : decode (mB 107) 30 = .ok (.iconst (-1), 1) := by decide +kernel
theorem u_107_30 {G : aG} {S : Nat → Bool} {f : Nat} {st : List Value} {ls : aL} {h : aH} {k n : Nat} (hs : S 30 = false) : WP 107 G S (f + 1) 30 ls st h k n = (WP 107 G S f 31 ls (.int (-1) :: st) h k n) := by rw [wp_s dd_107_30 rfl hs]; rfl
theorem dd_107_31 : decode (mB 107) 31 = .ok (.if_icmp .ne (-24), 3) := by decide +kernel
theorem u_107_31 {G : aG} {S : Nat → Bool} {f : Nat} {st : List Value} {ls : aL} {h : aH} {k n : Nat} {x y : Int32} (hs : S 31 = false) : WP 107 G S (f + 1) 31 ls (.int y :: .int x :: st) h k n = (if x = y then WP 107 G S f 34 ls st h k n else WP 107 G S f 7 ls st h k n) := by rw [wp_s dd_107_31 rfl hs]; exact br_iten (c := x = y)
theorem dd_107_34 : decode (mB 107) 34 = .ok (.aload_n 0, 1) := by decide +kernel
theorem u_107_34 {G : aG} {S : Nat → Bool} {f : Nat} {st : List Value} {ls : aL} {h : aH} {k n : Nat} (hs : S 34 = false) : WP 107 G S (f + 1) 34 ls st h k n = (oA (lget ls 0) (WP 107 G S f) 35 ls st h k n) := by rw [wp_s dd_107_34 rfl hs]; rfl
theorem dd_107_35 : decode (mB 107) 35 = .ok (.invokevirtual 172, 3) := by decide +kernel
theorem u_107_35 {G : aG} {S : Nat → Bool} {f : Nat} {st : List Value} {ls : aL} {h : aH} {k n : Nat} {b : Nat} (hs : S 35 = false) : WP 107 G S (f + 1) 35 ls (.ref b :: st) h k n = (rcv (hget h b) 10 ∧ CAL G (WP 107 G S f) 118 [.ref b] 38 ls st h k n) := by rw [wp_s dd_107_35 rfl hs]; rfl
theorem dd_107_38 : decode (mB 107) 38 = .ok (.aload_n 0, 1) := by decide +kernel
theorem u_107_38 {G : aG} {S : Nat → Bool} {f : Nat} {st : List Value} {ls : aL} {h : aH} {k n : Nat} (hs : S 38 = false) : WP 107 G S (f + 1) 38 ls st h k n = (oA (lget ls 0) (WP 107 G S f) 39 ls st h k n) := by rw [wp_s dd_107_38 rfl hs]; rfl
theorem dd_107_39 : decode (mB 107) 39 = .ok (.iconst 0, 1) := by decide +kernel
theorem u_107_39 {G : aG} {S : Nat → Bool} {f : Nat} {st : List Value} {ls : aL} {h : aH} {k n : Nat} (hs : S 39 = false) : WP 107 G S (f + 1) 39 ls st h k n = (WP 107 G S f 40 ls (.int (nI 0) :: st) h k n) := by rw [wp_s dd_107_39 rfl hs]; rfl
theorem dd_107_40 : decode (mB 107) 40 = .ok (.putfield 120, 3) := by decide +kernel
theorem u_107_40 {G : aG} {S : Nat → Bool} {f : Nat} {st : List Value} {ls : aL} {h : aH} {k n : Nat} {a : Nat} {x : Int32} (hs : S 40 = false) : WP 107 G S (f + 1) 40 ls (.int x :: .ref a :: st) h k n = (oH (fput h a 10 17 (.int x)) (WP 107 G S f) 43 ls st k n) := by rw [wp_s dd_107_40 rfl hs]; rfl
theorem dd_107_43 : decode (mB 107) 43 = .ok (.iconst 0, 1) := by decide +kernel
theorem u_107_43 {G : aG} {S : Nat → Bool} {f : Nat} {st : List Value} {ls : aL} {h : aH} {k n : Nat} (hs : S 43 = false) : WP 107 G S (f + 1) 43 ls st h k n = (WP 107 G S f 44 ls (.int (nI 0) :: st) h k n) := by rw [wp_s dd_107_43 rfl hs]; rfl
theorem dd_107_44 : decode (mB 107) 44 = .ok (.istore_n 2, 1) := by decide +kernel
theorem u_107_44 {G : aG} {S : Nat → Bool} {f : Nat} {st : List Value} {ls : aL} {h : aH} {k n : Nat} {x : Int32} (hs : S 44 = false) : WP 107 G S (f + 1) 44 ls (.int x :: st) h k n = (WP 107 G S f 45 (lput1 ls 2 (.int x)) st h k n) := by rw [wp_s dd_107_44 rfl hs]; rfl
theorem dd_107_45 : decode (mB 107) 45 = .ok (.iload_n 2, 1) := by decide +kernel
theorem u_107_45 {G : aG} {S : Nat → Bool} {f : Nat} {st : List Value} {ls : aL} {h : aH} {k n : Nat} (hs : S 45 = false) : WP 107 G S (f + 1) 45 ls st h k n = (oI (lget ls 2) (WP 107 G S f) 46 ls st h k n) := by rw [wp_s dd_107_45 rfl hs]; rfl
theorem v_107_45 {G : aG} {S : Nat → Bool} {f : Nat} {st : List Value} {ls : aL} {h : aH} {k n : Nat} : WQ 107 G S f 45 ls st h k n = (oI (lget ls 2) (WP 107 G S f) 46 ls st h k n) := by rw [wq_s dd_107_45 rfl]; rfl
theorem dd_107_46 : decode (mB 107) 46 = .ok (.iload_n 1, 1) := by decide +kernel
theorem u_107_46 {G : aG} {S : Nat → Bool} {f : Nat} {st : List Value} {ls : aL} {h : aH} {k n : Nat} (hs : S 46 = false) : WP 107 G S (f + 1) 46 ls st h k n = (oI (lget ls 1) (WP 107 G S f) 47 ls st h k n) := by rw [wp_s dd_107_46 rfl hs]; rfl
theorem dd_107_47 : decode (mB 107) 47 = .ok (.if_icmp .ge 15, 3) := by decide +kernel
theorem u_107_47 {G : aG} {S : Nat → Bool} {f : Nat} {st : List Value} {ls : aL} {h : aH} {k n : Nat} {x y : Int32} (hs : S 47 = false) : WP 107 G S (f + 1) 47 ls (.int y :: .int x :: st) h k n = (if y ≤ x then WP 107 G S f 62 ls st h k n else WP 107 G S f 50 ls st h k n) := by rw [wp_s dd_107_47 rfl hs]; exact br_ite (c := y ≤ x)
theorem dd_107_50 : decode (mB 107) 50 = .ok (.aload_n 0, 1) := by decide +kernel
theorem u_107_50 {G : aG} {S : Nat → Bool} {f : Nat} {st : List Value} {ls : aL} {h : aH} {k n : Nat} (hs : S 50 = false) : WP 107 G S (f + 1) 50 ls st h k n = (oA (lget ls 0) (WP 107 G S f) 51 ls st h k n) := by rw [wp_s dd_107_50 rfl hs]; rfl
theorem dd_107_51 : decode (mB 107) 51 = .ok (.iconst 1, 1) := by decide +kernel
theorem u_107_51 {G : aG} {S : Nat → Bool} {f : Nat} {st : List Value} {ls : aL} {h : aH} {k n : Nat} (hs : S 51 = false) : WP 107 G S (f + 1) 51 ls st h k n = (WP 107 G S f 52 ls (.int (nI 1) :: st) h k n) := by rw [wp_s dd_107_51 rfl hs]; rfl
theorem dd_107_52 : decode (mB 107) 52 = .ok (.invokevirtual 168, 3) := by decide +kernel
theorem u_107_52 {G : aG} {S : Nat → Bool} {f : Nat} {st : List Value} {ls : aL} {h : aH} {k n : Nat} {v1 : Value} {b : Nat} (hs : S 52 = false) : WP 107 G S (f + 1) 52 ls (v1 :: .ref b :: st) h k n = (rcv (hget h b) 10 ∧ CAL G (WP 107 G S f) 108 [.ref b, v1] 55 ls st h k n) := by rw [wp_s dd_107_52 rfl hs]; rfl
theorem dd_107_55 : decode (mB 107) 55 = .ok (.istore_n 3, 1) := by decide +kernel
theorem u_107_55 {G : aG} {S : Nat → Bool} {f : Nat} {st : List Value} {ls : aL} {h : aH} {k n : Nat} {x : Int32} (hs : S 55 = false) : WP 107 G S (f + 1) 55 ls (.int x :: st) h k n = (WP 107 G S f 56 (lput1 ls 3 (.int x)) st h k n) := by rw [wp_s dd_107_55 rfl hs]; rfl
theorem dd_107_56 : decode (mB 107) 56 = .ok (.iinc 2 1, 3) := by decide +kernel
theorem u_107_56 {G : aG} {S : Nat → Bool} {f : Nat} {st : List Value} {ls : aL} {h : aH} {k n : Nat} (hs : S 56 = false) : WP 107 G S (f + 1) 56 ls st h k n = (oInc (lget ls 2) (nI 1) (WP 107 G S f) 2 59 ls st h k n) := by rw [wp_s dd_107_56 rfl hs]; rfl
theorem dd_107_59 : decode (mB 107) 59 = .ok (.goto (-14), 3) := by decide +kernel
theorem u_107_59 {G : aG} {S : Nat → Bool} {f : Nat} {st : List Value} {ls : aL} {h : aH} {k n : Nat} (hs : S 59 = false) : WP 107 G S (f + 1) 59 ls st h k n = (WP 107 G S f 45 ls st h k n) := by rw [wp_s dd_107_59 rfl hs]; rfl
theorem dd_107_62 : decode (mB 107) 62 = .ok (.aload_n 0, 1) := by decide +kernel
theorem u_107_62 {G : aG} {S : Nat → Bool} {f : Nat} {st : List Value} {ls : aL} {h : aH} {k n : Nat} (hs : S 62 = false) : WP 107 G S (f + 1) 62 ls st h k n = (oA (lget ls 0) (WP 107 G S f) 63 ls st h k n) := by rw [wp_s dd_107_62 rfl hs]; rfl
theorem dd_107_63 : decode (mB 107) 63 = .ok (.invokevirtual 74, 3) := by decide +kernel
theorem u_107_63 {G : aG} {S : Nat → Bool} {f : Nat} {st : List Value} {ls : aL} {h : aH} {k n : Nat} {b : Nat} (hs : S 63 = false) : WP 107 G S (f + 1) 63 ls (.ref b :: st) h k n = (rcv (hget h b) 10 ∧ CAL G (WP 107 G S f) 102 [.ref b] 66 ls st h k n) := by rw [wp_s dd_107_63 rfl hs]; rfl
theorem dd_107_66 : decode (mB 107) 66 = .ok (.iload_n 1, 1) := by decide +kernel
theorem u_107_66 {G : aG} {S : Nat → Bool} {f : Nat} {st : List Value} {ls : aL} {h : aH} {k n : Nat} (hs : S 66 = false) : WP 107 G S (f + 1) 66 ls st h k n = (oI (lget ls 1) (WP 107 G S f) 67 ls st h k n) := by rw [wp_s dd_107_66 rfl hs]; rfl
theorem dd_107_67 : decode (mB 107) 67 = .ok (.ireturn, 1) := by decide +kernel
theorem u_107_67 {G : aG} {S : Nat → Bool} {f : Nat} {ls : aL} {h : aH} {k n : Nat} {x : Int32} (hs : S 67 = false) : WP 107 G S (f + 1) 67 ls [.int x] h k n = (RET G (some (.int x)) h k n) := by rw [wp_s dd_107_67 rfl hs]; rfl
theorem dd_108_0 : decode (mB 108) 0 = .ok (.aload_n 0, 1) := by decide +kernel
theorem u_108_0 {G : aG} {S : Nat → Bool} {f : Nat} {st : List Value} {ls : aL} {h : aH} {k n : Nat} (hs : S 0 = false) : WP 108 G S (f + 1) 0 ls st h k n = (oA (lget ls 0) (WP 108 G S f) 1 ls st h k n) := by rw [wp_s dd_108_0 rfl hs]; rfl
theorem dd_108_1 : decode (mB 108) 1 = .ok (.invokevirtual 152, 3) := by decide +kernel
theorem u_108_1 {G : aG} {S : Nat → Bool} {f : Nat} {st : List Value} {ls : aL} {h : aH} {k n : Nat} {b : Nat} (hs : S 1 = false) : WP 108 G S (f + 1) 1 ls (.ref b :: st) h k n = (rcv (hget h b) 10 ∧ CAL G (WP 108 G S f) 109 [.ref b] 4 ls st h k n) := by rw [wp_s dd_108_1 rfl hs]; rfl
theorem dd_108_4 : decode (mB 108) 4 = .ok (.istore_n 2, 1) := by decide +kernel
theorem u_108_4 {G : aG} {S : Nat → Bool} {f : Nat} {st : List Value} {ls : aL} {h : aH} {k n : Nat} {x : Int32} (hs : S 4 = false) : WP 108 G S (f + 1) 4 ls (.int x :: st) h k n = (WP 108 G S f 5 (lput1 ls 2 (.int x)) st h k n) := by rw [wp_s dd_108_4 rfl hs]; rfl
theorem dd_108_5 : decode (mB 108) 5 = .ok (.iload_n 2, 1) := by decide +kernel
theorem u_108_5 {G : aG} {S : Nat → Bool} {f : Nat} {st : List Value} {ls : aL} {h : aH} {k n : Nat} (hs : S 5 = false) : WP 108 G S (f + 1) 5 ls st h k n = (oI (lget ls 2) (WP 108 G S f) 6 ls st h k n) := by rw [wp_s dd_108_5 rfl hs]; rfl
theorem dd_108_6 : decode (mB 108) 6 = .ok (.bipush 94, 2) := by decide +kernel
theorem u_108_6 {G : aG} {S : Nat → Bool} {f : Nat} {st : List Value} {ls : aL} {h : aH} {k n : Nat} (hs : S 6 = false) : WP 108 G S (f + 1) 6 ls st h k n = (WP 108 G S f 8 ls (.int (nI 94) :: st) h k n) := by rw [wp_s dd_108_6 rfl hs]; rfl
theorem dd_108_8 : decode (mB 108) 8 = .ok (.if_icmp .eq 19, 3) := by decide +kernel
theorem u_108_8 {G : aG} {S : Nat → Bool} {f : Nat} {st : List Value} {ls : aL} {h : aH} {k n : Nat} {x y : Int32} (hs : S 8 = false) : WP 108 G S (f + 1) 8 ls (.int y :: .int x :: st) h k n = (if x = y then WP 108 G S f 27 ls st h k n else WP 108 G S f 11 ls st h k n) := by rw [wp_s dd_108_8 rfl hs]; exact br_ite (c := x = y)
theorem dd_108_11 : decode (mB 108) 11 = .ok (.iload_n 2, 1) := by decide +kernel
theorem u_108_11 {G : aG} {S : Nat → Bool} {f : Nat} {st : List Value} {ls : aL} {h : aH} {k n : Nat} (hs : S 11 = false) : WP 108 G S (f + 1) 11 ls st h k n = (oI (lget ls 2) (WP 108 G S f) 12 ls st h k n) := by rw [wp_s dd_108_11 rfl hs]; rfl
theorem dd_108_12 : decode (mB 108) 12 = .ok (.i2l, 1) := by decide +kernel
theorem u_108_12 {G : aG} {S : Nat → Bool} {f : Nat} {st : List Value} {ls : aL} {h : aH} {k n : Nat} {x : Int32} (hs : S 12 = false) : WP 108 G S (f + 1) 12 ls (.int x :: st) h k n = (WP 108 G S f 13 ls (.long x.toInt64 :: st) h k n) := by rw [wp_s dd_108_12 rfl hs]; rfl
theorem dd_108_13 : decode (mB 108) 13 = .ok (.ldc2_w 142, 3) := by decide +kernel
theorem u_108_13 {G : aG} {S : Nat → Bool} {f : Nat} {st : List Value} {ls : aL} {h : aH} {k n : Nat} (hs : S 13 = false) : WP 108 G S (f + 1) 13 ls st h k n = (WP 108 G S f 16 ls (.long (lN 97) :: st) h k n) := by rw [wp_s dd_108_13 rfl hs]; rfl
theorem dd_108_16 : decode (mB 108) 16 = .ok (.ldc2_w 144, 3) := by decide +kernel
theorem u_108_16 {G : aG} {S : Nat → Bool} {f : Nat} {st : List Value} {ls : aL} {h : aH} {k n : Nat} (hs : S 16 = false) : WP 108 G S (f + 1) 16 ls st h k n = (WP 108 G S f 19 ls (.long (lN 104) :: st) h k n) := by rw [wp_s dd_108_16 rfl hs]; rfl
theorem dd_108_19 : decode (mB 108) 19 = .ok (.invokestatic 109, 3) := by decide +kernel
theorem u_108_19 {G : aG} {S : Nat → Bool} {f : Nat} {st : List Value} {ls : aL} {h : aH} {k n : Nat} {v1 v2 v3 : Value} (hs : S 19 = false) : WP 108 G S (f + 1) 19 ls (v3 :: v2 :: v1 :: st) h k n = (CAL G (WP 108 G S f) 104 [v1, v2, v3] 22 ls st h k n) := by rw [wp_s dd_108_19 rfl hs]; rfl
theorem dd_108_22 : decode (mB 108) 22 = .ok (.ifCond .ne 5, 3) := by decide +kernel
theorem u_108_22 {G : aG} {S : Nat → Bool} {f : Nat} {st : List Value} {ls : aL} {h : aH} {k n : Nat} {x : Int32} (hs : S 22 = false) : WP 108 G S (f + 1) 22 ls (.int x :: st) h k n = (if x = nI 0 then WP 108 G S f 25 ls st h k n else WP 108 G S f 27 ls st h k n) := by rw [wp_s dd_108_22 rfl hs]; exact br_iten (c := x = nI 0)
theorem dd_108_25 : decode (mB 108) 25 = .ok (.iconst 0, 1) := by decide +kernel
theorem u_108_25 {G : aG} {S : Nat → Bool} {f : Nat} {st : List Value} {ls : aL} {h : aH} {k n : Nat} (hs : S 25 = false) : WP 108 G S (f + 1) 25 ls st h k n = (WP 108 G S f 26 ls (.int (nI 0) :: st) h k n) := by rw [wp_s dd_108_25 rfl hs]; rfl
theorem dd_108_26 : decode (mB 108) 26 = .ok (.ireturn, 1) := by decide +kernel
theorem u_108_26 {G : aG} {S : Nat → Bool} {f : Nat} {ls : aL} {h : aH} {k n : Nat} {x : Int32} (hs : S 26 = false) : WP 108 G S (f + 1) 26 ls [.int x] h k n = (cond (x == nI 0 || x == nI 1) (RET G (some (.int x)) h k n) False) := by rw [wp_s dd_108_26 rfl hs]; rfl
theorem dd_108_27 : decode (mB 108) 27 = .ok (.aload_n 0, 1) := by decide +kernel
theorem u_108_27 {G : aG} {S : Nat → Bool} {f : Nat} {st : List Value} {ls : aL} {h : aH} {k n : Nat} (hs : S 27 = false) : WP 108 G S (f + 1) 27 ls st h k n = (oA (lget ls 0) (WP 108 G S f) 28 ls st h k n) := by rw [wp_s dd_108_27 rfl hs]; rfl
theorem dd_108_28 : decode (mB 108) 28 = .ok (.dup, 1) := by decide +kernel
theorem u_108_28 {G : aG} {S : Nat → Bool} {f : Nat} {st : List Value} {ls : aL} {h : aH} {k n : Nat} {v : Value} (hs : S 28 = false) : WP 108 G S (f + 1) 28 ls (v :: st) h k n = (cond (cat1 v) (WP 108 G S f 29 ls (v :: v :: st) h k n) False) := by rw [wp_s dd_108_28 rfl hs]; rfl
theorem dd_108_29 : decode (mB 108) 29 = .ok (.getfield 120, 3) := by decide +kernel
theorem u_108_29 {G : aG} {S : Nat → Bool} {f : Nat} {st : List Value} {ls : aL} {h : aH} {k n : Nat} {a : Nat} (hs : S 29 = false) : WP 108 G S (f + 1) 29 ls (.ref a :: st) h k n = (oV (fget h a 10 17) (WP 108 G S f) 32 ls st h k n) := by rw [wp_s dd_108_29 rfl hs]; rfl
theorem dd_108_32 : decode (mB 108) 32 = .ok (.iconst 1, 1) := by decide +kernel
theorem u_108_32 {G : aG} {S : Nat → Bool} {f : Nat} {st : List Value} {ls : aL} {h : aH} {k n : Nat} (hs : S 32 = false) : WP 108 G S (f + 1) 32 ls st h k n = (WP 108 G S f 33 ls (.int (nI 1) :: st) h k n) := by rw [wp_s dd_108_32 rfl hs]; rfl
theorem dd_108_33 : decode (mB 108) 33 = .ok (.iadd, 1) := by decide +kernel
theorem u_108_33 {G : aG} {S : Nat → Bool} {f : Nat} {st : List Value} {ls : aL} {h : aH} {k n : Nat} {x y : Int32} (hs : S 33 = false) : WP 108 G S (f + 1) 33 ls (.int y :: .int x :: st) h k n = (WP 108 G S f 34 ls (.int (x + y) :: st) h k n) := by rw [wp_s dd_108_33 rfl hs]; rfl
theorem dd_108_34 : decode (mB 108) 34 = .ok (.putfield 120, 3) := by decide +kernel
theorem u_108_34 {G : aG} {S : Nat → Bool} {f : Nat} {st : List Value} {ls : aL} {h : aH} {k n : Nat} {a : Nat} {x : Int32} (hs : S 34 = false) : WP 108 G S (f + 1) 34 ls (.int x :: .ref a :: st) h k n = (oH (fput h a 10 17 (.int x)) (WP 108 G S f) 37 ls st k n) := by rw [wp_s dd_108_34 rfl hs]; rfl
theorem dd_108_37 : decode (mB 108) 37 = .ok (.aload_n 0, 1) := by decide +kernel
theorem u_108_37 {G : aG} {S : Nat → Bool} {f : Nat} {st : List Value} {ls : aL} {h : aH} {k n : Nat} (hs : S 37 = false) : WP 108 G S (f + 1) 37 ls st h k n = (oA (lget ls 0) (WP 108 G S f) 38 ls st h k n) := by rw [wp_s dd_108_37 rfl hs]; rfl
theorem dd_108_38 : decode (mB 108) 38 = .ok (.invokevirtual 152, 3) := by decide +kernel
theorem u_108_38 {G : aG} {S : Nat → Bool} {f : Nat} {st : List Value} {ls : aL} {h : aH} {k n : Nat} {b : Nat} (hs : S 38 = false) : WP 108 G S (f + 1) 38 ls (.ref b :: st) h k n = (rcv (hget h b) 10 ∧ CAL G (WP 108 G S f) 109 [.ref b] 41 ls st h k n) := by rw [wp_s dd_108_38 rfl hs]; rfl
theorem dd_108_41 : decode (mB 108) 41 = .ok (.bipush 61, 2) := by decide +kernel
theorem u_108_41 {G : aG} {S : Nat → Bool} {f : Nat} {st : List Value} {ls : aL} {h : aH} {k n : Nat} (hs : S 41 = false) : WP 108 G S (f + 1) 41 ls st h k n = (WP 108 G S f 43 ls (.int (nI 61) :: st) h k n) := by rw [wp_s dd_108_41 rfl hs]; rfl
theorem dd_108_43 : decode (mB 108) 43 = .ok (.if_icmp .eq 5, 3) := by decide +kernel
theorem u_108_43 {G : aG} {S : Nat → Bool} {f : Nat} {st : List Value} {ls : aL} {h : aH} {k n : Nat} {x y : Int32} (hs : S 43 = false) : WP 108 G S (f + 1) 43 ls (.int y :: .int x :: st) h k n = (if x = y then WP 108 G S f 48 ls st h k n else WP 108 G S f 46 ls st h k n) := by rw [wp_s dd_108_43 rfl hs]; exact br_ite (c := x = y)
theorem dd_108_46 : decode (mB 108) 46 = .ok (.iconst 0, 1) := by decide +kernel
theorem u_108_46 {G : aG} {S : Nat → Bool} {f : Nat} {st : List Value} {ls : aL} {h : aH} {k n : Nat} (hs : S 46 = false) : WP 108 G S (f + 1) 46 ls st h k n = (WP 108 G S f 47 ls (.int (nI 0) :: st) h k n) := by rw [wp_s dd_108_46 rfl hs]; rfl
theorem dd_108_47 : decode (mB 108) 47 = .ok (.ireturn, 1) := by decide +kernel
theorem u_108_47 {G : aG} {S : Nat → Bool} {f : Nat} {ls : aL} {h : aH} {k n : Nat} {x : Int32} (hs : S 47 = false) : WP 108 G S (f + 1) 47 ls [.int x] h k n = (cond (x == nI 0 || x == nI 1) (RET G (some (.int x)) h k n) False) := by rw [wp_s dd_108_47 rfl hs]; rfl
theorem dd_108_48 : decode (mB 108) 48 = .ok (.aload_n 0, 1) := by decide +kernel
theorem u_108_48 {G : aG} {S : Nat → Bool} {f : Nat} {st : List Value} {ls : aL} {h : aH} {k n : Nat} (hs : S 48 = false) : WP 108 G S (f + 1) 48 ls st h k n = (oA (lget ls 0) (WP 108 G S f) 49 ls st h k n) := by rw [wp_s dd_108_48 rfl hs]; rfl
theorem dd_108_49 : decode (mB 108) 49 = .ok (.dup, 1) := by decide +kernel
theorem u_108_49 {G : aG} {S : Nat → Bool} {f : Nat} {st : List Value} {ls : aL} {h : aH} {k n : Nat} {v : Value} (hs : S 49 = false) : WP 108 G S (f + 1) 49 ls (v :: st) h k n = (cond (cat1 v) (WP 108 G S f 50 ls (v :: v :: st) h k n) False) := by rw [wp_s dd_108_49 rfl hs]; rfl
theorem dd_108_50 : decode (mB 108) 50 = .ok (.getfield 120, 3) := by decide +kernel
theorem u_108_50 {G : aG} {S : Nat → Bool} {f : Nat} {st : List Value} {ls : aL} {h : aH} {k n : Nat} {a : Nat} (hs : S 50 = false) : WP 108 G S (f + 1) 50 ls (.ref a :: st) h k n = (oV (fget h a 10 17) (WP 108 G S f) 53 ls st h k n) := by rw [wp_s dd_108_50 rfl hs]; rfl
theorem dd_108_53 : decode (mB 108) 53 = .ok (.iconst 1, 1) := by decide +kernel
theorem u_108_53 {G : aG} {S : Nat → Bool} {f : Nat} {st : List Value} {ls : aL} {h : aH} {k n : Nat} (hs : S 53 = false) : WP 108 G S (f + 1) 53 ls st h k n = (WP 108 G S f 54 ls (.int (nI 1) :: st) h k n) := by rw [wp_s dd_108_53 rfl hs]; rfl
theorem dd_108_54 : decode (mB 108) 54 = .ok (.iadd, 1) := by decide +kernel
theorem u_108_54 {G : aG} {S : Nat → Bool} {f : Nat} {st : List Value} {ls : aL} {h : aH} {k n : Nat} {x y : Int32} (hs : S 54 = false) : WP 108 G S (f + 1) 54 ls (.int y :: .int x :: st) h k n = (WP 108 G S f 55 ls (.int (x + y) :: st) h k n) := by rw [wp_s dd_108_54 rfl hs]; rfl
theorem dd_108_55 : decode (mB 108) 55 = .ok (.putfield 120, 3) := by decide +kernel
theorem u_108_55 {G : aG} {S : Nat → Bool} {f : Nat} {st : List Value} {ls : aL} {h : aH} {k n : Nat} {a : Nat} {x : Int32} (hs : S 55 = false) : WP 108 G S (f + 1) 55 ls (.int x :: .ref a :: st) h k n = (oH (fput h a 10 17 (.int x)) (WP 108 G S f) 58 ls st k n) := by rw [wp_s dd_108_55 rfl hs]; rfl
theorem dd_108_58 : decode (mB 108) 58 = .ok (.aload_n 0, 1) := by decide +kernel
theorem u_108_58 {G : aG} {S : Nat → Bool} {f : Nat} {st : List Value} {ls : aL} {h : aH} {k n : Nat} (hs : S 58 = false) : WP 108 G S (f + 1) 58 ls st h k n = (oA (lget ls 0) (WP 108 G S f) 59 ls st h k n) := by rw [wp_s dd_108_58 rfl hs]; rfl
theorem dd_108_59 : decode (mB 108) 59 = .ok (.invokevirtual 164, 3) := by decide +kernel
theorem u_108_59 {G : aG} {S : Nat → Bool} {f : Nat} {st : List Value} {ls : aL} {h : aH} {k n : Nat} {b : Nat} (hs : S 59 = false) : WP 108 G S (f + 1) 59 ls (.ref b :: st) h k n = (rcv (hget h b) 10 ∧ CAL G (WP 108 G S f) 110 [.ref b] 62 ls st h k n) := by rw [wp_s dd_108_59 rfl hs]; rfl
theorem dd_108_62 : decode (mB 108) 62 = .ok (.ifCond .ne 5, 3) := by decide +kernel
theorem u_108_62 {G : aG} {S : Nat → Bool} {f : Nat} {st : List Value} {ls : aL} {h : aH} {k n : Nat} {x : Int32} (hs : S 62 = false) : WP 108 G S (f + 1) 62 ls (.int x :: st) h k n = (if x = nI 0 then WP 108 G S f 65 ls st h k n else WP 108 G S f 67 ls st h k n) := by rw [wp_s dd_108_62 rfl hs]; exact br_iten (c := x = nI 0)
theorem dd_108_65 : decode (mB 108) 65 = .ok (.iconst 0, 1) := by decide +kernel
theorem u_108_65 {G : aG} {S : Nat → Bool} {f : Nat} {st : List Value} {ls : aL} {h : aH} {k n : Nat} (hs : S 65 = false) : WP 108 G S (f + 1) 65 ls st h k n = (WP 108 G S f 66 ls (.int (nI 0) :: st) h k n) := by rw [wp_s dd_108_65 rfl hs]; rfl
theorem dd_108_66 : decode (mB 108) 66 = .ok (.ireturn, 1) := by decide +kernel
theorem u_108_66 {G : aG} {S : Nat → Bool} {f : Nat} {ls : aL} {h : aH} {k n : Nat} {x : Int32} (hs : S 66 = false) : WP 108 G S (f + 1) 66 ls [.int x] h k n = (cond (x == nI 0 || x == nI 1) (RET G (some (.int x)) h k n) False) := by rw [wp_s dd_108_66 rfl hs]; rfl
theorem dd_108_67 : decode (mB 108) 67 = .ok (.aload_n 0, 1) := by decide +kernel
theorem u_108_67 {G : aG} {S : Nat → Bool} {f : Nat} {st : List Value} {ls : aL} {h : aH} {k n : Nat} (hs : S 67 = false) : WP 108 G S (f + 1) 67 ls st h k n = (oA (lget ls 0) (WP 108 G S f) 68 ls st h k n) := by rw [wp_s dd_108_67 rfl hs]; rfl
theorem dd_108_68 : decode (mB 108) 68 = .ok (.dup, 1) := by decide +kernel
theorem u_108_68 {G : aG} {S : Nat → Bool} {f : Nat} {st : List Value} {ls : aL} {h : aH} {k n : Nat} {v : Value} (hs : S 68 = false) : WP 108 G S (f + 1) 68 ls (v :: st) h k n = (cond (cat1 v) (WP 108 G S f 69 ls (v :: v :: st) h k n) False) := by rw [wp_s dd_108_68 rfl hs]; rfl
theorem dd_108_69 : decode (mB 108) 69 = .ok (.getfield 120, 3) := by decide +kernel
theorem u_108_69 {G : aG} {S : Nat → Bool} {f : Nat} {st : List Value} {ls : aL} {h : aH} {k n : Nat} {a : Nat} (hs : S 69 = false) : WP 108 G S (f + 1) 69 ls (.ref a :: st) h k n = (oV (fget h a 10 17) (WP 108 G S f) 72 ls st h k n) := by rw [wp_s dd_108_69 rfl hs]; rfl
theorem dd_108_72 : decode (mB 108) 72 = .ok (.iconst 1, 1) := by decide +kernel
theorem u_108_72 {G : aG} {S : Nat → Bool} {f : Nat} {st : List Value} {ls : aL} {h : aH} {k n : Nat} (hs : S 72 = false) : WP 108 G S (f + 1) 72 ls st h k n = (WP 108 G S f 73 ls (.int (nI 1) :: st) h k n) := by rw [wp_s dd_108_72 rfl hs]; rfl
theorem dd_108_73 : decode (mB 108) 73 = .ok (.iadd, 1) := by decide +kernel
theorem u_108_73 {G : aG} {S : Nat → Bool} {f : Nat} {st : List Value} {ls : aL} {h : aH} {k n : Nat} {x y : Int32} (hs : S 73 = false) : WP 108 G S (f + 1) 73 ls (.int y :: .int x :: st) h k n = (WP 108 G S f 74 ls (.int (x + y) :: st) h k n) := by rw [wp_s dd_108_73 rfl hs]; rfl
theorem dd_108_74 : decode (mB 108) 74 = .ok (.putfield 120, 3) := by decide +kernel
theorem u_108_74 {G : aG} {S : Nat → Bool} {f : Nat} {st : List Value} {ls : aL} {h : aH} {k n : Nat} {a : Nat} {x : Int32} (hs : S 74 = false) : WP 108 G S (f + 1) 74 ls (.int x :: .ref a :: st) h k n = (oH (fput h a 10 17 (.int x)) (WP 108 G S f) 77 ls st k n) := by rw [wp_s dd_108_74 rfl hs]; rfl
theorem dd_108_77 : decode (mB 108) 77 = .ok (.iload_n 2, 1) := by decide +kernel
theorem u_108_77 {G : aG} {S : Nat → Bool} {f : Nat} {st : List Value} {ls : aL} {h : aH} {k n : Nat} (hs : S 77 = false) : WP 108 G S (f + 1) 77 ls st h k n = (oI (lget ls 2) (WP 108 G S f) 78 ls st h k n) := by rw [wp_s dd_108_77 rfl hs]; rfl
theorem dd_108_78 : decode (mB 108) 78 = .ok (.bipush 94, 2) := by decide +kernel
theorem u_108_78 {G : aG} {S : Nat → Bool} {f : Nat} {st : List Value} {ls : aL} {h : aH} {k n : Nat} (hs : S 78 = false) : WP 108 G S (f + 1) 78 ls st h k n = (WP 108 G S f 80 ls (.int (nI 94) :: st) h k n) := by rw [wp_s dd_108_78 rfl hs]; rfl
theorem dd_108_80 : decode (mB 108) 80 = .ok (.if_icmp .ne 8, 3) := by decide +kernel
theorem u_108_80 {G : aG} {S : Nat → Bool} {f : Nat} {st : List Value} {ls : aL} {h : aH} {k n : Nat} {x y : Int32} (hs : S 80 = false) : WP 108 G S (f + 1) 80 ls (.int y :: .int x :: st) h k n = (if x = y then WP 108 G S f 83 ls st h k n else WP 108 G S f 88 ls st h k n) := by rw [wp_s dd_108_80 rfl hs]; exact br_iten (c := x = y)
theorem dd_108_83 : decode (mB 108) 83 = .ok (.bipush 8, 2) := by decide +kernel
theorem u_108_83 {G : aG} {S : Nat → Bool} {f : Nat} {st : List Value} {ls : aL} {h : aH} {k n : Nat} (hs : S 83 = false) : WP 108 G S (f + 1) 83 ls st h k n = (WP 108 G S f 85 ls (.int (nI 8) :: st) h k n) := by rw [wp_s dd_108_83 rfl hs]; rfl
theorem dd_108_85 : decode (mB 108) 85 = .ok (.goto 7, 3) := by decide +kernel
theorem u_108_85 {G : aG} {S : Nat → Bool} {f : Nat} {st : List Value} {ls : aL} {h : aH} {k n : Nat} (hs : S 85 = false) : WP 108 G S (f + 1) 85 ls st h k n = (WP 108 G S f 92 ls st h k n) := by rw [wp_s dd_108_85 rfl hs]; rfl
theorem dd_108_88 : decode (mB 108) 88 = .ok (.iload_n 2, 1) := by decide +kernel
theorem u_108_88 {G : aG} {S : Nat → Bool} {f : Nat} {st : List Value} {ls : aL} {h : aH} {k n : Nat} (hs : S 88 = false) : WP 108 G S (f + 1) 88 ls st h k n = (oI (lget ls 2) (WP 108 G S f) 89 ls st h k n) := by rw [wp_s dd_108_88 rfl hs]; rfl
theorem dd_108_89 : decode (mB 108) 89 = .ok (.bipush 97, 2) := by decide +kernel
theorem u_108_89 {G : aG} {S : Nat → Bool} {f : Nat} {st : List Value} {ls : aL} {h : aH} {k n : Nat} (hs : S 89 = false) : WP 108 G S (f + 1) 89 ls st h k n = (WP 108 G S f 91 ls (.int (nI 97) :: st) h k n) := by rw [wp_s dd_108_89 rfl hs]; rfl
theorem dd_108_91 : decode (mB 108) 91 = .ok (.isub, 1) := by decide +kernel
theorem u_108_91 {G : aG} {S : Nat → Bool} {f : Nat} {st : List Value} {ls : aL} {h : aH} {k n : Nat} {x y : Int32} (hs : S 91 = false) : WP 108 G S (f + 1) 91 ls (.int y :: .int x :: st) h k n = (WP 108 G S f 92 ls (.int (x - y) :: st) h k n) := by rw [wp_s dd_108_91 rfl hs]; rfl
theorem dd_108_92 : decode (mB 108) 92 = .ok (.istore_n 3, 1) := by decide +kernel
theorem u_108_92 {G : aG} {S : Nat → Bool} {f : Nat} {st : List Value} {ls : aL} {h : aH} {k n : Nat} {x : Int32} (hs : S 92 = false) : WP 108 G S (f + 1) 92 ls (.int x :: st) h k n = (WP 108 G S f 93 (lput1 ls 3 (.int x)) st h k n) := by rw [wp_s dd_108_92 rfl hs]; rfl
theorem dd_108_93 : decode (mB 108) 93 = .ok (.iconst 0, 1) := by decide +kernel
theorem u_108_93 {G : aG} {S : Nat → Bool} {f : Nat} {st : List Value} {ls : aL} {h : aH} {k n : Nat} (hs : S 93 = false) : WP 108 G S (f + 1) 93 ls st h k n = (WP 108 G S f 94 ls (.int (nI 0) :: st) h k n) := by rw [wp_s dd_108_93 rfl hs]; rfl
theorem dd_108_94 : decode (mB 108) 94 = .ok (.istore 4, 2) := by decide +kernel
theorem u_108_94 {G : aG} {S : Nat → Bool} {f : Nat} {st : List Value} {ls : aL} {h : aH} {k n : Nat} {x : Int32} (hs : S 94 = false) : WP 108 G S (f + 1) 94 ls (.int x :: st) h k n = (WP 108 G S f 96 (lput1 ls 4 (.int x)) st h k n) := by rw [wp_s dd_108_94 rfl hs]; rfl
theorem dd_108_96 : decode (mB 108) 96 = .ok (.iload 4, 2) := by decide +kernel
theorem u_108_96 {G : aG} {S : Nat → Bool} {f : Nat} {st : List Value} {ls : aL} {h : aH} {k n : Nat} (hs : S 96 = false) : WP 108 G S (f + 1) 96 ls st h k n = (oI (lget ls 4) (WP 108 G S f) 98 ls st h k n) := by rw [wp_s dd_108_96 rfl hs]; rfl
theorem v_108_96 {G : aG} {S : Nat → Bool} {f : Nat} {st : List Value} {ls : aL} {h : aH} {k n : Nat} : WQ 108 G S f 96 ls st h k n = (oI (lget ls 4) (WP 108 G S f) 98 ls st h k n) := by rw [wq_s dd_108_96 rfl]; rfl
theorem dd_108_98 : decode (mB 108) 98 = .ok (.bipush 49, 2) := by decide +kernel
theorem u_108_98 {G : aG} {S : Nat → Bool} {f : Nat} {st : List Value} {ls : aL} {h : aH} {k n : Nat} (hs : S 98 = false) : WP 108 G S (f + 1) 98 ls st h k n = (WP 108 G S f 100 ls (.int (nI 49) :: st) h k n) := by rw [wp_s dd_108_98 rfl hs]; rfl
theorem dd_108_100 : decode (mB 108) 100 = .ok (.if_icmp .ge 32, 3) := by decide +kernel
theorem u_108_100 {G : aG} {S : Nat → Bool} {f : Nat} {st : List Value} {ls : aL} {h : aH} {k n : Nat} {x y : Int32} (hs : S 100 = false) : WP 108 G S (f + 1) 100 ls (.int y :: .int x :: st) h k n = (if y ≤ x then WP 108 G S f 132 ls st h k n else WP 108 G S f 103 ls st h k n) := by rw [wp_s dd_108_100 rfl hs]; exact br_ite (c := y ≤ x)
theorem dd_108_103 : decode (mB 108) 103 = .ok (.iload_n 1, 1) := by decide +kernel
theorem u_108_103 {G : aG} {S : Nat → Bool} {f : Nat} {st : List Value} {ls : aL} {h : aH} {k n : Nat} (hs : S 103 = false) : WP 108 G S (f + 1) 103 ls st h k n = (oI (lget ls 1) (WP 108 G S f) 104 ls st h k n) := by rw [wp_s dd_108_103 rfl hs]; rfl
theorem dd_108_104 : decode (mB 108) 104 = .ok (.ifCond .eq 28, 3) := by decide +kernel
theorem u_108_104 {G : aG} {S : Nat → Bool} {f : Nat} {st : List Value} {ls : aL} {h : aH} {k n : Nat} {x : Int32} (hs : S 104 = false) : WP 108 G S (f + 1) 104 ls (.int x :: st) h k n = (if x = nI 0 then WP 108 G S f 132 ls st h k n else WP 108 G S f 107 ls st h k n) := by rw [wp_s dd_108_104 rfl hs]; exact br_ite (c := x = nI 0)
theorem dd_108_107 : decode (mB 108) 107 = .ok (.aload_n 0, 1) := by decide +kernel
theorem u_108_107 {G : aG} {S : Nat → Bool} {f : Nat} {st : List Value} {ls : aL} {h : aH} {k n : Nat} (hs : S 107 = false) : WP 108 G S (f + 1) 107 ls st h k n = (oA (lget ls 0) (WP 108 G S f) 108 ls st h k n) := by rw [wp_s dd_108_107 rfl hs]; rfl
theorem dd_108_108 : decode (mB 108) 108 = .ok (.getfield 7, 3) := by decide +kernel
theorem u_108_108 {G : aG} {S : Nat → Bool} {f : Nat} {st : List Value} {ls : aL} {h : aH} {k n : Nat} {a : Nat} (hs : S 108 = false) : WP 108 G S (f + 1) 108 ls (.ref a :: st) h k n = (oV (fget h a 10 0) (WP 108 G S f) 111 ls st h k n) := by rw [wp_s dd_108_108 rfl hs]; rfl
theorem dd_108_111 : decode (mB 108) 111 = .ok (.bipush 49, 2) := by decide +kernel
theorem u_108_111 {G : aG} {S : Nat → Bool} {f : Nat} {st : List Value} {ls : aL} {h : aH} {k n : Nat} (hs : S 111 = false) : WP 108 G S (f + 1) 111 ls st h k n = (WP 108 G S f 113 ls (.int (nI 49) :: st) h k n) := by rw [wp_s dd_108_111 rfl hs]; rfl
theorem dd_108_113 : decode (mB 108) 113 = .ok (.iload_n 3, 1) := by decide +kernel
theorem u_108_113 {G : aG} {S : Nat → Bool} {f : Nat} {st : List Value} {ls : aL} {h : aH} {k n : Nat} (hs : S 113 = false) : WP 108 G S (f + 1) 113 ls st h k n = (oI (lget ls 3) (WP 108 G S f) 114 ls st h k n) := by rw [wp_s dd_108_113 rfl hs]; rfl
theorem dd_108_114 : decode (mB 108) 114 = .ok (.imul, 1) := by decide +kernel
theorem u_108_114 {G : aG} {S : Nat → Bool} {f : Nat} {st : List Value} {ls : aL} {h : aH} {k n : Nat} {x y : Int32} (hs : S 114 = false) : WP 108 G S (f + 1) 114 ls (.int y :: .int x :: st) h k n = (WP 108 G S f 115 ls (.int (x * y) :: st) h k n) := by rw [wp_s dd_108_114 rfl hs]; rfl
theorem dd_108_115 : decode (mB 108) 115 = .ok (.iload 4, 2) := by decide +kernel
theorem u_108_115 {G : aG} {S : Nat → Bool} {f : Nat} {st : List Value} {ls : aL} {h : aH} {k n : Nat} (hs : S 115 = false) : WP 108 G S (f + 1) 115 ls st h k n = (oI (lget ls 4) (WP 108 G S f) 117 ls st h k n) := by rw [wp_s dd_108_115 rfl hs]; rfl
theorem dd_108_117 : decode (mB 108) 117 = .ok (.iadd, 1) := by decide +kernel
theorem u_108_117 {G : aG} {S : Nat → Bool} {f : Nat} {st : List Value} {ls : aL} {h : aH} {k n : Nat} {x y : Int32} (hs : S 117 = false) : WP 108 G S (f + 1) 117 ls (.int y :: .int x :: st) h k n = (WP 108 G S f 118 ls (.int (x + y) :: st) h k n) := by rw [wp_s dd_108_117 rfl hs]; rfl
theorem dd_108_118 : decode (mB 108) 118 = .ok (.aload_n 0, 1) := by decide +kernel
theorem u_108_118 {G : aG} {S : Nat → Bool} {f : Nat} {st : List Value} {ls : aL} {h : aH} {k n : Nat} (hs : S 118 = false) : WP 108 G S (f + 1) 118 ls st h k n = (oA (lget ls 0) (WP 108 G S f) 119 ls st h k n) := by rw [wp_s dd_108_118 rfl hs]; rfl
theorem dd_108_119 : decode (mB 108) 119 = .ok (.getfield 52, 3) := by decide +kernel
theorem u_108_119 {G : aG} {S : Nat → Bool} {f : Nat} {st : List Value} {ls : aL} {h : aH} {k n : Nat} {a : Nat} (hs : S 119 = false) : WP 108 G S (f + 1) 119 ls (.ref a :: st) h k n = (oV (fget h a 10 18) (WP 108 G S f) 122 ls st h k n) := by rw [wp_s dd_108_119 rfl hs]; rfl
theorem dd_108_122 : decode (mB 108) 122 = .ok (.iload 4, 2) := by decide +kernel
theorem u_108_122 {G : aG} {S : Nat → Bool} {f : Nat} {st : List Value} {ls : aL} {h : aH} {k n : Nat} (hs : S 122 = false) : WP 108 G S (f + 1) 122 ls st h k n = (oI (lget ls 4) (WP 108 G S f) 124 ls st h k n) := by rw [wp_s dd_108_122 rfl hs]; rfl
theorem dd_108_124 : decode (mB 108) 124 = .ok (.iaload, 1) := by decide +kernel
theorem u_108_124 {G : aG} {S : Nat → Bool} {f : Nat} {st : List Value} {ls : aL} {h : aH} {k n : Nat} {i : Int32} {a : Nat} (hs : S 124 = false) : WP 108 G S (f + 1) 124 ls (.int i :: .ref a :: st) h k n = (oIld (iget h a 1) i (WP 108 G S f) 125 ls st h k n) := by rw [wp_s dd_108_124 rfl hs]; rfl
theorem dd_108_125 : decode (mB 108) 125 = .ok (.iastore, 1) := by decide +kernel
theorem u_108_125 {G : aG} {S : Nat → Bool} {f : Nat} {st : List Value} {ls : aL} {h : aH} {k n : Nat} {i x : Int32} {a : Nat} (hs : S 125 = false) : WP 108 G S (f + 1) 125 ls (.int x :: .int i :: .ref a :: st) h k n = (oIst (iget h a 1) a i x (WP 108 G S f) 126 ls st h k n) := by rw [wp_s dd_108_125 rfl hs]; rfl
theorem dd_108_126 : decode (mB 108) 126 = .ok (.iinc 4 1, 3) := by decide +kernel
theorem u_108_126 {G : aG} {S : Nat → Bool} {f : Nat} {st : List Value} {ls : aL} {h : aH} {k n : Nat} (hs : S 126 = false) : WP 108 G S (f + 1) 126 ls st h k n = (oInc (lget ls 4) (nI 1) (WP 108 G S f) 4 129 ls st h k n) := by rw [wp_s dd_108_126 rfl hs]; rfl
theorem dd_108_129 : decode (mB 108) 129 = .ok (.goto (-33), 3) := by decide +kernel
theorem u_108_129 {G : aG} {S : Nat → Bool} {f : Nat} {st : List Value} {ls : aL} {h : aH} {k n : Nat} (hs : S 129 = false) : WP 108 G S (f + 1) 129 ls st h k n = (WP 108 G S f 96 ls st h k n) := by rw [wp_s dd_108_129 rfl hs]; rfl
theorem dd_108_132 : decode (mB 108) 132 = .ok (.iconst 1, 1) := by decide +kernel
theorem u_108_132 {G : aG} {S : Nat → Bool} {f : Nat} {st : List Value} {ls : aL} {h : aH} {k n : Nat} (hs : S 132 = false) : WP 108 G S (f + 1) 132 ls st h k n = (WP 108 G S f 133 ls (.int (nI 1) :: st) h k n) := by rw [wp_s dd_108_132 rfl hs]; rfl
theorem dd_108_133 : decode (mB 108) 133 = .ok (.ireturn, 1) := by decide +kernel
theorem u_108_133 {G : aG} {S : Nat → Bool} {f : Nat} {ls : aL} {h : aH} {k n : Nat} {x : Int32} (hs : S 133 = false) : WP 108 G S (f + 1) 133 ls [.int x] h k n = (cond (x == nI 0 || x == nI 1) (RET G (some (.int x)) h k n) False) := by rw [wp_s dd_108_133 rfl hs]; rfl
theorem dd_109_0 : decode (mB 109) 0 = .ok (.aload_n 0, 1) := by decide +kernel
theorem u_109_0 {G : aG} {S : Nat → Bool} {f : Nat} {st : List Value} {ls : aL} {h : aH} {k n : Nat} (hs : S 0 = false) : WP 109 G S (f + 1) 0 ls st h k n = (oA (lget ls 0) (WP 109 G S f) 1 ls st h k n) := by rw [wp_s dd_109_0 rfl hs]; rfl
theorem v_109_0 {G : aG} {S : Nat → Bool} {f : Nat} {st : List Value} {ls : aL} {h : aH} {k n : Nat} : WQ 109 G S f 0 ls st h k n = (oA (lget ls 0) (WP 109 G S f) 1 ls st h k n) := by rw [wq_s dd_109_0 rfl]; rfl
theorem dd_109_1 : decode (mB 109) 1 = .ok (.getfield 120, 3) := by decide +kernel
theorem u_109_1 {G : aG} {S : Nat → Bool} {f : Nat} {st : List Value} {ls : aL} {h : aH} {k n : Nat} {a : Nat} (hs : S 1 = false) : WP 109 G S (f + 1) 1 ls (.ref a :: st) h k n = (oV (fget h a 10 17) (WP 109 G S f) 4 ls st h k n) := by rw [wp_s dd_109_1 rfl hs]; rfl
theorem dd_109_4 : decode (mB 109) 4 = .ok (.aload_n 0, 1) := by decide +kernel
theorem u_109_4 {G : aG} {S : Nat → Bool} {f : Nat} {st : List Value} {ls : aL} {h : aH} {k n : Nat} (hs : S 4 = false) : WP 109 G S (f + 1) 4 ls st h k n = (oA (lget ls 0) (WP 109 G S f) 5 ls st h k n) := by rw [wp_s dd_109_4 rfl hs]; rfl
theorem dd_109_5 : decode (mB 109) 5 = .ok (.getfield 117, 3) := by decide +kernel
theorem u_109_5 {G : aG} {S : Nat → Bool} {f : Nat} {st : List Value} {ls : aL} {h : aH} {k n : Nat} {a : Nat} (hs : S 5 = false) : WP 109 G S (f + 1) 5 ls (.ref a :: st) h k n = (oV (fget h a 10 16) (WP 109 G S f) 8 ls st h k n) := by rw [wp_s dd_109_5 rfl hs]; rfl
theorem dd_109_8 : decode (mB 109) 8 = .ok (.if_icmp .ge 30, 3) := by decide +kernel
theorem u_109_8 {G : aG} {S : Nat → Bool} {f : Nat} {st : List Value} {ls : aL} {h : aH} {k n : Nat} {x y : Int32} (hs : S 8 = false) : WP 109 G S (f + 1) 8 ls (.int y :: .int x :: st) h k n = (if y ≤ x then WP 109 G S f 38 ls st h k n else WP 109 G S f 11 ls st h k n) := by rw [wp_s dd_109_8 rfl hs]; exact br_ite (c := y ≤ x)
theorem dd_109_11 : decode (mB 109) 11 = .ok (.aload_n 0, 1) := by decide +kernel
theorem u_109_11 {G : aG} {S : Nat → Bool} {f : Nat} {st : List Value} {ls : aL} {h : aH} {k n : Nat} (hs : S 11 = false) : WP 109 G S (f + 1) 11 ls st h k n = (oA (lget ls 0) (WP 109 G S f) 12 ls st h k n) := by rw [wp_s dd_109_11 rfl hs]; rfl
theorem dd_109_12 : decode (mB 109) 12 = .ok (.getfield 49, 3) := by decide +kernel
theorem u_109_12 {G : aG} {S : Nat → Bool} {f : Nat} {st : List Value} {ls : aL} {h : aH} {k n : Nat} {a : Nat} (hs : S 12 = false) : WP 109 G S (f + 1) 12 ls (.ref a :: st) h k n = (oV (fget h a 10 15) (WP 109 G S f) 15 ls st h k n) := by rw [wp_s dd_109_12 rfl hs]; rfl
theorem dd_109_15 : decode (mB 109) 15 = .ok (.aload_n 0, 1) := by decide +kernel
theorem u_109_15 {G : aG} {S : Nat → Bool} {f : Nat} {st : List Value} {ls : aL} {h : aH} {k n : Nat} (hs : S 15 = false) : WP 109 G S (f + 1) 15 ls st h k n = (oA (lget ls 0) (WP 109 G S f) 16 ls st h k n) := by rw [wp_s dd_109_15 rfl hs]; rfl
theorem dd_109_16 : decode (mB 109) 16 = .ok (.getfield 120, 3) := by decide +kernel
theorem u_109_16 {G : aG} {S : Nat → Bool} {f : Nat} {st : List Value} {ls : aL} {h : aH} {k n : Nat} {a : Nat} (hs : S 16 = false) : WP 109 G S (f + 1) 16 ls (.ref a :: st) h k n = (oV (fget h a 10 17) (WP 109 G S f) 19 ls st h k n) := by rw [wp_s dd_109_16 rfl hs]; rfl
theorem dd_109_19 : decode (mB 109) 19 = .ok (.iaload, 1) := by decide +kernel
theorem u_109_19 {G : aG} {S : Nat → Bool} {f : Nat} {st : List Value} {ls : aL} {h : aH} {k n : Nat} {i : Int32} {a : Nat} (hs : S 19 = false) : WP 109 G S (f + 1) 19 ls (.int i :: .ref a :: st) h k n = (oIld (iget h a 1) i (WP 109 G S f) 20 ls st h k n) := by rw [wp_s dd_109_19 rfl hs]; rfl
theorem dd_109_20 : decode (mB 109) 20 = .ok (.bipush 32, 2) := by decide +kernel
theorem u_109_20 {G : aG} {S : Nat → Bool} {f : Nat} {st : List Value} {ls : aL} {h : aH} {k n : Nat} (hs : S 20 = false) : WP 109 G S (f + 1) 20 ls st h k n = (WP 109 G S f 22 ls (.int (nI 32) :: st) h k n) := by rw [wp_s dd_109_20 rfl hs]; rfl
theorem dd_109_22 : decode (mB 109) 22 = .ok (.if_icmp .ne 16, 3) := by decide +kernel
theorem u_109_22 {G : aG} {S : Nat → Bool} {f : Nat} {st : List Value} {ls : aL} {h : aH} {k n : Nat} {x y : Int32} (hs : S 22 = false) : WP 109 G S (f + 1) 22 ls (.int y :: .int x :: st) h k n = (if x = y then WP 109 G S f 25 ls st h k n else WP 109 G S f 38 ls st h k n) := by rw [wp_s dd_109_22 rfl hs]; exact br_iten (c := x = y)
theorem dd_109_25 : decode (mB 109) 25 = .ok (.aload_n 0, 1) := by decide +kernel
theorem u_109_25 {G : aG} {S : Nat → Bool} {f : Nat} {st : List Value} {ls : aL} {h : aH} {k n : Nat} (hs : S 25 = false) : WP 109 G S (f + 1) 25 ls st h k n = (oA (lget ls 0) (WP 109 G S f) 26 ls st h k n) := by rw [wp_s dd_109_25 rfl hs]; rfl
theorem dd_109_26 : decode (mB 109) 26 = .ok (.dup, 1) := by decide +kernel
theorem u_109_26 {G : aG} {S : Nat → Bool} {f : Nat} {st : List Value} {ls : aL} {h : aH} {k n : Nat} {v : Value} (hs : S 26 = false) : WP 109 G S (f + 1) 26 ls (v :: st) h k n = (cond (cat1 v) (WP 109 G S f 27 ls (v :: v :: st) h k n) False) := by rw [wp_s dd_109_26 rfl hs]; rfl
theorem dd_109_27 : decode (mB 109) 27 = .ok (.getfield 120, 3) := by decide +kernel
theorem u_109_27 {G : aG} {S : Nat → Bool} {f : Nat} {st : List Value} {ls : aL} {h : aH} {k n : Nat} {a : Nat} (hs : S 27 = false) : WP 109 G S (f + 1) 27 ls (.ref a :: st) h k n = (oV (fget h a 10 17) (WP 109 G S f) 30 ls st h k n) := by rw [wp_s dd_109_27 rfl hs]; rfl
theorem dd_109_30 : decode (mB 109) 30 = .ok (.iconst 1, 1) := by decide +kernel
theorem u_109_30 {G : aG} {S : Nat → Bool} {f : Nat} {st : List Value} {ls : aL} {h : aH} {k n : Nat} (hs : S 30 = false) : WP 109 G S (f + 1) 30 ls st h k n = (WP 109 G S f 31 ls (.int (nI 1) :: st) h k n) := by rw [wp_s dd_109_30 rfl hs]; rfl
theorem dd_109_31 : decode (mB 109) 31 = .ok (.iadd, 1) := by decide +kernel
theorem u_109_31 {G : aG} {S : Nat → Bool} {f : Nat} {st : List Value} {ls : aL} {h : aH} {k n : Nat} {x y : Int32} (hs : S 31 = false) : WP 109 G S (f + 1) 31 ls (.int y :: .int x :: st) h k n = (WP 109 G S f 32 ls (.int (x + y) :: st) h k n) := by rw [wp_s dd_109_31 rfl hs]; rfl
theorem dd_109_32 : decode (mB 109) 32 = .ok (.putfield 120, 3) := by decide +kernel
theorem u_109_32 {G : aG} {S : Nat → Bool} {f : Nat} {st : List Value} {ls : aL} {h : aH} {k n : Nat} {a : Nat} {x : Int32} (hs : S 32 = false) : WP 109 G S (f + 1) 32 ls (.int x :: .ref a :: st) h k n = (oH (fput h a 10 17 (.int x)) (WP 109 G S f) 35 ls st k n) := by rw [wp_s dd_109_32 rfl hs]; rfl
theorem dd_109_35 : decode (mB 109) 35 = .ok (.goto (-35), 3) := by decide +kernel
theorem u_109_35 {G : aG} {S : Nat → Bool} {f : Nat} {st : List Value} {ls : aL} {h : aH} {k n : Nat} (hs : S 35 = false) : WP 109 G S (f + 1) 35 ls st h k n = (WP 109 G S f 0 ls st h k n) := by rw [wp_s dd_109_35 rfl hs]; rfl
theorem dd_109_38 : decode (mB 109) 38 = .ok (.aload_n 0, 1) := by decide +kernel
theorem u_109_38 {G : aG} {S : Nat → Bool} {f : Nat} {st : List Value} {ls : aL} {h : aH} {k n : Nat} (hs : S 38 = false) : WP 109 G S (f + 1) 38 ls st h k n = (oA (lget ls 0) (WP 109 G S f) 39 ls st h k n) := by rw [wp_s dd_109_38 rfl hs]; rfl
theorem dd_109_39 : decode (mB 109) 39 = .ok (.getfield 120, 3) := by decide +kernel
theorem u_109_39 {G : aG} {S : Nat → Bool} {f : Nat} {st : List Value} {ls : aL} {h : aH} {k n : Nat} {a : Nat} (hs : S 39 = false) : WP 109 G S (f + 1) 39 ls (.ref a :: st) h k n = (oV (fget h a 10 17) (WP 109 G S f) 42 ls st h k n) := by rw [wp_s dd_109_39 rfl hs]; rfl
theorem dd_109_42 : decode (mB 109) 42 = .ok (.aload_n 0, 1) := by decide +kernel
theorem u_109_42 {G : aG} {S : Nat → Bool} {f : Nat} {st : List Value} {ls : aL} {h : aH} {k n : Nat} (hs : S 42 = false) : WP 109 G S (f + 1) 42 ls st h k n = (oA (lget ls 0) (WP 109 G S f) 43 ls st h k n) := by rw [wp_s dd_109_42 rfl hs]; rfl
theorem dd_109_43 : decode (mB 109) 43 = .ok (.getfield 117, 3) := by decide +kernel
theorem u_109_43 {G : aG} {S : Nat → Bool} {f : Nat} {st : List Value} {ls : aL} {h : aH} {k n : Nat} {a : Nat} (hs : S 43 = false) : WP 109 G S (f + 1) 43 ls (.ref a :: st) h k n = (oV (fget h a 10 16) (WP 109 G S f) 46 ls st h k n) := by rw [wp_s dd_109_43 rfl hs]; rfl
theorem dd_109_46 : decode (mB 109) 46 = .ok (.if_icmp .ge 15, 3) := by decide +kernel
theorem u_109_46 {G : aG} {S : Nat → Bool} {f : Nat} {st : List Value} {ls : aL} {h : aH} {k n : Nat} {x y : Int32} (hs : S 46 = false) : WP 109 G S (f + 1) 46 ls (.int y :: .int x :: st) h k n = (if y ≤ x then WP 109 G S f 61 ls st h k n else WP 109 G S f 49 ls st h k n) := by rw [wp_s dd_109_46 rfl hs]; exact br_ite (c := y ≤ x)
theorem dd_109_49 : decode (mB 109) 49 = .ok (.aload_n 0, 1) := by decide +kernel
theorem u_109_49 {G : aG} {S : Nat → Bool} {f : Nat} {st : List Value} {ls : aL} {h : aH} {k n : Nat} (hs : S 49 = false) : WP 109 G S (f + 1) 49 ls st h k n = (oA (lget ls 0) (WP 109 G S f) 50 ls st h k n) := by rw [wp_s dd_109_49 rfl hs]; rfl
theorem dd_109_50 : decode (mB 109) 50 = .ok (.getfield 49, 3) := by decide +kernel
theorem u_109_50 {G : aG} {S : Nat → Bool} {f : Nat} {st : List Value} {ls : aL} {h : aH} {k n : Nat} {a : Nat} (hs : S 50 = false) : WP 109 G S (f + 1) 50 ls (.ref a :: st) h k n = (oV (fget h a 10 15) (WP 109 G S f) 53 ls st h k n) := by rw [wp_s dd_109_50 rfl hs]; rfl
theorem dd_109_53 : decode (mB 109) 53 = .ok (.aload_n 0, 1) := by decide +kernel
theorem u_109_53 {G : aG} {S : Nat → Bool} {f : Nat} {st : List Value} {ls : aL} {h : aH} {k n : Nat} (hs : S 53 = false) : WP 109 G S (f + 1) 53 ls st h k n = (oA (lget ls 0) (WP 109 G S f) 54 ls st h k n) := by rw [wp_s dd_109_53 rfl hs]; rfl
theorem dd_109_54 : decode (mB 109) 54 = .ok (.getfield 120, 3) := by decide +kernel
theorem u_109_54 {G : aG} {S : Nat → Bool} {f : Nat} {st : List Value} {ls : aL} {h : aH} {k n : Nat} {a : Nat} (hs : S 54 = false) : WP 109 G S (f + 1) 54 ls (.ref a :: st) h k n = (oV (fget h a 10 17) (WP 109 G S f) 57 ls st h k n) := by rw [wp_s dd_109_54 rfl hs]; rfl
theorem dd_109_57 : decode (mB 109) 57 = .ok (.iaload, 1) := by decide +kernel
theorem u_109_57 {G : aG} {S : Nat → Bool} {f : Nat} {st : List Value} {ls : aL} {h : aH} {k n : Nat} {i : Int32} {a : Nat} (hs : S 57 = false) : WP 109 G S (f + 1) 57 ls (.int i :: .ref a :: st) h k n = (oIld (iget h a 1) i (WP 109 G S f) 58 ls st h k n) := by rw [wp_s dd_109_57 rfl hs]; rfl
theorem dd_109_58 : decode (mB 109) 58 = .ok (.goto 4, 3) := by decide +kernel
theorem u_109_58 {G : aG} {S : Nat → Bool} {f : Nat} {st : List Value} {ls : aL} {h : aH} {k n : Nat} (hs : S 58 = false) : WP 109 G S (f + 1) 58 ls st h k n = (WP 109 G S f 62 ls st h k n) := by rw [wp_s dd_109_58 rfl hs]; rfl
theorem dd_109_61 : decode (mB 109) 61 = .ok (.iconst (-1), 1) := by decide +kernel
theorem u_109_61 {G : aG} {S : Nat → Bool} {f : Nat} {st : List Value} {ls : aL} {h : aH} {k n : Nat} (hs : S 61 = false) : WP 109 G S (f + 1) 61 ls st h k n = (WP 109 G S f 62 ls (.int (-1) :: st) h k n) := by rw [wp_s dd_109_61 rfl hs]; rfl
theorem dd_109_62 : decode (mB 109) 62 = .ok (.ireturn, 1) := by decide +kernel
theorem u_109_62 {G : aG} {S : Nat → Bool} {f : Nat} {ls : aL} {h : aH} {k n : Nat} {x : Int32} (hs : S 62 = false) : WP 109 G S (f + 1) 62 ls [.int x] h k n = (RET G (some (.int x)) h k n) := by rw [wp_s dd_109_62 rfl hs]; rfl
theorem dd_110_0 : decode (mB 110) 0 = .ok (.aload_n 0, 1) := by decide +kernel
theorem u_110_0 {G : aG} {S : Nat → Bool} {f : Nat} {st : List Value} {ls : aL} {h : aH} {k n : Nat} (hs : S 0 = false) : WP 110 G S (f + 1) 0 ls st h k n = (oA (lget ls 0) (WP 110 G S f) 1 ls st h k n) := by rw [wp_s dd_110_0 rfl hs]; rfl
theorem dd_110_1 : decode (mB 110) 1 = .ok (.getfield 52, 3) := by decide +kernel
theorem u_110_1 {G : aG} {S : Nat → Bool} {f : Nat} {st : List Value} {ls : aL} {h : aH} {k n : Nat} {a : Nat} (hs : S 1 = false) : WP 110 G S (f + 1) 1 ls (.ref a :: st) h k n = (oV (fget h a 10 18) (WP 110 G S f) 4 ls st h k n) := by rw [wp_s dd_110_1 rfl hs]; rfl
theorem dd_110_4 : decode (mB 110) 4 = .ok (.iconst 0, 1) := by decide +kernel
theorem u_110_4 {G : aG} {S : Nat → Bool} {f : Nat} {st : List Value} {ls : aL} {h : aH} {k n : Nat} (hs : S 4 = false) : WP 110 G S (f + 1) 4 ls st h k n = (WP 110 G S f 5 ls (.int (nI 0) :: st) h k n) := by rw [wp_s dd_110_4 rfl hs]; rfl
theorem dd_110_5 : decode (mB 110) 5 = .ok (.iconst 0, 1) := by decide +kernel
theorem u_110_5 {G : aG} {S : Nat → Bool} {f : Nat} {st : List Value} {ls : aL} {h : aH} {k n : Nat} (hs : S 5 = false) : WP 110 G S (f + 1) 5 ls st h k n = (WP 110 G S f 6 ls (.int (nI 0) :: st) h k n) := by rw [wp_s dd_110_5 rfl hs]; rfl
theorem dd_110_6 : decode (mB 110) 6 = .ok (.iastore, 1) := by decide +kernel
theorem u_110_6 {G : aG} {S : Nat → Bool} {f : Nat} {st : List Value} {ls : aL} {h : aH} {k n : Nat} {i x : Int32} {a : Nat} (hs : S 6 = false) : WP 110 G S (f + 1) 6 ls (.int x :: .int i :: .ref a :: st) h k n = (oIst (iget h a 1) a i x (WP 110 G S f) 7 ls st h k n) := by rw [wp_s dd_110_6 rfl hs]; rfl
theorem dd_110_7 : decode (mB 110) 7 = .ok (.aload_n 0, 1) := by decide +kernel
theorem u_110_7 {G : aG} {S : Nat → Bool} {f : Nat} {st : List Value} {ls : aL} {h : aH} {k n : Nat} (hs : S 7 = false) : WP 110 G S (f + 1) 7 ls st h k n = (oA (lget ls 0) (WP 110 G S f) 8 ls st h k n) := by rw [wp_s dd_110_7 rfl hs]; rfl
theorem dd_110_8 : decode (mB 110) 8 = .ok (.iconst 0, 1) := by decide +kernel
theorem u_110_8 {G : aG} {S : Nat → Bool} {f : Nat} {st : List Value} {ls : aL} {h : aH} {k n : Nat} (hs : S 8 = false) : WP 110 G S (f + 1) 8 ls st h k n = (WP 110 G S f 9 ls (.int (nI 0) :: st) h k n) := by rw [wp_s dd_110_8 rfl hs]; rfl
theorem dd_110_9 : decode (mB 110) 9 = .ok (.putfield 123, 3) := by decide +kernel
theorem u_110_9 {G : aG} {S : Nat → Bool} {f : Nat} {st : List Value} {ls : aL} {h : aH} {k n : Nat} {a : Nat} {x : Int32} (hs : S 9 = false) : WP 110 G S (f + 1) 9 ls (.int x :: .ref a :: st) h k n = (oH (fput h a 10 20 (.int x)) (WP 110 G S f) 12 ls st k n) := by rw [wp_s dd_110_9 rfl hs]; rfl
theorem dd_110_12 : decode (mB 110) 12 = .ok (.aload_n 0, 1) := by decide +kernel
theorem u_110_12 {G : aG} {S : Nat → Bool} {f : Nat} {st : List Value} {ls : aL} {h : aH} {k n : Nat} (hs : S 12 = false) : WP 110 G S (f + 1) 12 ls st h k n = (oA (lget ls 0) (WP 110 G S f) 13 ls st h k n) := by rw [wp_s dd_110_12 rfl hs]; rfl
theorem dd_110_13 : decode (mB 110) 13 = .ok (.iconst 0, 1) := by decide +kernel
theorem u_110_13 {G : aG} {S : Nat → Bool} {f : Nat} {st : List Value} {ls : aL} {h : aH} {k n : Nat} (hs : S 13 = false) : WP 110 G S (f + 1) 13 ls st h k n = (WP 110 G S f 14 ls (.int (nI 0) :: st) h k n) := by rw [wp_s dd_110_13 rfl hs]; rfl
theorem dd_110_14 : decode (mB 110) 14 = .ok (.putfield 126, 3) := by decide +kernel
theorem u_110_14 {G : aG} {S : Nat → Bool} {f : Nat} {st : List Value} {ls : aL} {h : aH} {k n : Nat} {a : Nat} {x : Int32} (hs : S 14 = false) : WP 110 G S (f + 1) 14 ls (.int x :: .ref a :: st) h k n = (oH (fput h a 10 22 (.int x)) (WP 110 G S f) 17 ls st k n) := by rw [wp_s dd_110_14 rfl hs]; rfl
theorem dd_110_17 : decode (mB 110) 17 = .ok (.aload_n 0, 1) := by decide +kernel
theorem u_110_17 {G : aG} {S : Nat → Bool} {f : Nat} {st : List Value} {ls : aL} {h : aH} {k n : Nat} (hs : S 17 = false) : WP 110 G S (f + 1) 17 ls st h k n = (oA (lget ls 0) (WP 110 G S f) 18 ls st h k n) := by rw [wp_s dd_110_17 rfl hs]; rfl
theorem dd_110_18 : decode (mB 110) 18 = .ok (.iconst 0, 1) := by decide +kernel
theorem u_110_18 {G : aG} {S : Nat → Bool} {f : Nat} {st : List Value} {ls : aL} {h : aH} {k n : Nat} (hs : S 18 = false) : WP 110 G S (f + 1) 18 ls st h k n = (WP 110 G S f 19 ls (.int (nI 0) :: st) h k n) := by rw [wp_s dd_110_18 rfl hs]; rfl
theorem dd_110_19 : decode (mB 110) 19 = .ok (.putfield 146, 3) := by decide +kernel
theorem u_110_19 {G : aG} {S : Nat → Bool} {f : Nat} {st : List Value} {ls : aL} {h : aH} {k n : Nat} {a : Nat} {x : Int32} (hs : S 19 = false) : WP 110 G S (f + 1) 19 ls (.int x :: .ref a :: st) h k n = (oH (fput h a 10 23 (.int x)) (WP 110 G S f) 22 ls st k n) := by rw [wp_s dd_110_19 rfl hs]; rfl
theorem dd_110_22 : decode (mB 110) 22 = .ok (.aload_n 0, 1) := by decide +kernel
theorem u_110_22 {G : aG} {S : Nat → Bool} {f : Nat} {st : List Value} {ls : aL} {h : aH} {k n : Nat} (hs : S 22 = false) : WP 110 G S (f + 1) 22 ls st h k n = (oA (lget ls 0) (WP 110 G S f) 23 ls st h k n) := by rw [wp_s dd_110_22 rfl hs]; rfl
theorem dd_110_23 : decode (mB 110) 23 = .ok (.iconst 0, 1) := by decide +kernel
theorem u_110_23 {G : aG} {S : Nat → Bool} {f : Nat} {st : List Value} {ls : aL} {h : aH} {k n : Nat} (hs : S 23 = false) : WP 110 G S (f + 1) 23 ls st h k n = (WP 110 G S f 24 ls (.int (nI 0) :: st) h k n) := by rw [wp_s dd_110_23 rfl hs]; rfl
theorem dd_110_24 : decode (mB 110) 24 = .ok (.putfield 139, 3) := by decide +kernel
theorem u_110_24 {G : aG} {S : Nat → Bool} {f : Nat} {st : List Value} {ls : aL} {h : aH} {k n : Nat} {a : Nat} {x : Int32} (hs : S 24 = false) : WP 110 G S (f + 1) 24 ls (.int x :: .ref a :: st) h k n = (oH (fput h a 10 24 (.int x)) (WP 110 G S f) 27 ls st k n) := by rw [wp_s dd_110_24 rfl hs]; rfl
theorem dd_110_27 : decode (mB 110) 27 = .ok (.iconst 1, 1) := by decide +kernel
theorem u_110_27 {G : aG} {S : Nat → Bool} {f : Nat} {st : List Value} {ls : aL} {h : aH} {k n : Nat} (hs : S 27 = false) : WP 110 G S (f + 1) 27 ls st h k n = (WP 110 G S f 28 ls (.int (nI 1) :: st) h k n) := by rw [wp_s dd_110_27 rfl hs]; rfl
theorem dd_110_28 : decode (mB 110) 28 = .ok (.istore_n 1, 1) := by decide +kernel
theorem u_110_28 {G : aG} {S : Nat → Bool} {f : Nat} {st : List Value} {ls : aL} {h : aH} {k n : Nat} {x : Int32} (hs : S 28 = false) : WP 110 G S (f + 1) 28 ls (.int x :: st) h k n = (WP 110 G S f 29 (lput1 ls 1 (.int x)) st h k n) := by rw [wp_s dd_110_28 rfl hs]; rfl
theorem dd_110_29 : decode (mB 110) 29 = .ok (.aload_n 0, 1) := by decide +kernel
theorem u_110_29 {G : aG} {S : Nat → Bool} {f : Nat} {st : List Value} {ls : aL} {h : aH} {k n : Nat} (hs : S 29 = false) : WP 110 G S (f + 1) 29 ls st h k n = (oA (lget ls 0) (WP 110 G S f) 30 ls st h k n) := by rw [wp_s dd_110_29 rfl hs]; rfl
theorem v_110_29 {G : aG} {S : Nat → Bool} {f : Nat} {st : List Value} {ls : aL} {h : aH} {k n : Nat} : WQ 110 G S f 29 ls st h k n = (oA (lget ls 0) (WP 110 G S f) 30 ls st h k n) := by rw [wq_s dd_110_29 rfl]; rfl
theorem dd_110_30 : decode (mB 110) 30 = .ok (.invokevirtual 152, 3) := by decide +kernel
theorem u_110_30 {G : aG} {S : Nat → Bool} {f : Nat} {st : List Value} {ls : aL} {h : aH} {k n : Nat} {b : Nat} (hs : S 30 = false) : WP 110 G S (f + 1) 30 ls (.ref b :: st) h k n = (rcv (hget h b) 10 ∧ CAL G (WP 110 G S f) 109 [.ref b] 33 ls st h k n) := by rw [wp_s dd_110_30 rfl hs]; rfl
theorem dd_110_33 : decode (mB 110) 33 = .ok (.istore_n 2, 1) := by decide +kernel
theorem u_110_33 {G : aG} {S : Nat → Bool} {f : Nat} {st : List Value} {ls : aL} {h : aH} {k n : Nat} {x : Int32} (hs : S 33 = false) : WP 110 G S (f + 1) 33 ls (.int x :: st) h k n = (WP 110 G S f 34 (lput1 ls 2 (.int x)) st h k n) := by rw [wp_s dd_110_33 rfl hs]; rfl
theorem dd_110_34 : decode (mB 110) 34 = .ok (.iload_n 1, 1) := by decide +kernel
theorem u_110_34 {G : aG} {S : Nat → Bool} {f : Nat} {st : List Value} {ls : aL} {h : aH} {k n : Nat} (hs : S 34 = false) : WP 110 G S (f + 1) 34 ls st h k n = (oI (lget ls 1) (WP 110 G S f) 35 ls st h k n) := by rw [wp_s dd_110_34 rfl hs]; rfl
theorem dd_110_35 : decode (mB 110) 35 = .ok (.ifCond .eq 28, 3) := by decide +kernel
theorem u_110_35 {G : aG} {S : Nat → Bool} {f : Nat} {st : List Value} {ls : aL} {h : aH} {k n : Nat} {x : Int32} (hs : S 35 = false) : WP 110 G S (f + 1) 35 ls (.int x :: st) h k n = (if x = nI 0 then WP 110 G S f 63 ls st h k n else WP 110 G S f 38 ls st h k n) := by rw [wp_s dd_110_35 rfl hs]; exact br_ite (c := x = nI 0)
theorem dd_110_38 : decode (mB 110) 38 = .ok (.aload_n 0, 1) := by decide +kernel
theorem u_110_38 {G : aG} {S : Nat → Bool} {f : Nat} {st : List Value} {ls : aL} {h : aH} {k n : Nat} (hs : S 38 = false) : WP 110 G S (f + 1) 38 ls st h k n = (oA (lget ls 0) (WP 110 G S f) 39 ls st h k n) := by rw [wp_s dd_110_38 rfl hs]; rfl
theorem dd_110_39 : decode (mB 110) 39 = .ok (.iload_n 2, 1) := by decide +kernel
theorem u_110_39 {G : aG} {S : Nat → Bool} {f : Nat} {st : List Value} {ls : aL} {h : aH} {k n : Nat} (hs : S 39 = false) : WP 110 G S (f + 1) 39 ls st h k n = (oI (lget ls 2) (WP 110 G S f) 40 ls st h k n) := by rw [wp_s dd_110_39 rfl hs]; rfl
theorem dd_110_40 : decode (mB 110) 40 = .ok (.invokevirtual 155, 3) := by decide +kernel
theorem u_110_40 {G : aG} {S : Nat → Bool} {f : Nat} {st : List Value} {ls : aL} {h : aH} {k n : Nat} {v1 : Value} {b : Nat} (hs : S 40 = false) : WP 110 G S (f + 1) 40 ls (v1 :: .ref b :: st) h k n = (rcv (hget h b) 10 ∧ CAL G (WP 110 G S f) 111 [.ref b, v1] 43 ls st h k n) := by rw [wp_s dd_110_40 rfl hs]; rfl
theorem dd_110_43 : decode (mB 110) 43 = .ok (.ifCond .ne 5, 3) := by decide +kernel
theorem u_110_43 {G : aG} {S : Nat → Bool} {f : Nat} {st : List Value} {ls : aL} {h : aH} {k n : Nat} {x : Int32} (hs : S 43 = false) : WP 110 G S (f + 1) 43 ls (.int x :: st) h k n = (if x = nI 0 then WP 110 G S f 46 ls st h k n else WP 110 G S f 48 ls st h k n) := by rw [wp_s dd_110_43 rfl hs]; exact br_iten (c := x = nI 0)
theorem dd_110_46 : decode (mB 110) 46 = .ok (.iconst 0, 1) := by decide +kernel
theorem u_110_46 {G : aG} {S : Nat → Bool} {f : Nat} {st : List Value} {ls : aL} {h : aH} {k n : Nat} (hs : S 46 = false) : WP 110 G S (f + 1) 46 ls st h k n = (WP 110 G S f 47 ls (.int (nI 0) :: st) h k n) := by rw [wp_s dd_110_46 rfl hs]; rfl
theorem dd_110_47 : decode (mB 110) 47 = .ok (.ireturn, 1) := by decide +kernel
theorem u_110_47 {G : aG} {S : Nat → Bool} {f : Nat} {ls : aL} {h : aH} {k n : Nat} {x : Int32} (hs : S 47 = false) : WP 110 G S (f + 1) 47 ls [.int x] h k n = (cond (x == nI 0 || x == nI 1) (RET G (some (.int x)) h k n) False) := by rw [wp_s dd_110_47 rfl hs]; rfl
theorem dd_110_48 : decode (mB 110) 48 = .ok (.iload_n 2, 1) := by decide +kernel
theorem u_110_48 {G : aG} {S : Nat → Bool} {f : Nat} {st : List Value} {ls : aL} {h : aH} {k n : Nat} (hs : S 48 = false) : WP 110 G S (f + 1) 48 ls st h k n = (oI (lget ls 2) (WP 110 G S f) 49 ls st h k n) := by rw [wp_s dd_110_48 rfl hs]; rfl
theorem dd_110_49 : decode (mB 110) 49 = .ok (.bipush 40, 2) := by decide +kernel
theorem u_110_49 {G : aG} {S : Nat → Bool} {f : Nat} {st : List Value} {ls : aL} {h : aH} {k n : Nat} (hs : S 49 = false) : WP 110 G S (f + 1) 49 ls st h k n = (WP 110 G S f 51 ls (.int (nI 40) :: st) h k n) := by rw [wp_s dd_110_49 rfl hs]; rfl
theorem dd_110_51 : decode (mB 110) 51 = .ok (.if_icmp .ne 7, 3) := by decide +kernel
theorem u_110_51 {G : aG} {S : Nat → Bool} {f : Nat} {st : List Value} {ls : aL} {h : aH} {k n : Nat} {x y : Int32} (hs : S 51 = false) : WP 110 G S (f + 1) 51 ls (.int y :: .int x :: st) h k n = (if x = y then WP 110 G S f 54 ls st h k n else WP 110 G S f 58 ls st h k n) := by rw [wp_s dd_110_51 rfl hs]; exact br_iten (c := x = y)
theorem dd_110_54 : decode (mB 110) 54 = .ok (.iconst 1, 1) := by decide +kernel
theorem u_110_54 {G : aG} {S : Nat → Bool} {f : Nat} {st : List Value} {ls : aL} {h : aH} {k n : Nat} (hs : S 54 = false) : WP 110 G S (f + 1) 54 ls st h k n = (WP 110 G S f 55 ls (.int (nI 1) :: st) h k n) := by rw [wp_s dd_110_54 rfl hs]; rfl
theorem dd_110_55 : decode (mB 110) 55 = .ok (.goto 4, 3) := by decide +kernel
theorem u_110_55 {G : aG} {S : Nat → Bool} {f : Nat} {st : List Value} {ls : aL} {h : aH} {k n : Nat} (hs : S 55 = false) : WP 110 G S (f + 1) 55 ls st h k n = (WP 110 G S f 59 ls st h k n) := by rw [wp_s dd_110_55 rfl hs]; rfl
theorem dd_110_58 : decode (mB 110) 58 = .ok (.iconst 0, 1) := by decide +kernel
theorem u_110_58 {G : aG} {S : Nat → Bool} {f : Nat} {st : List Value} {ls : aL} {h : aH} {k n : Nat} (hs : S 58 = false) : WP 110 G S (f + 1) 58 ls st h k n = (WP 110 G S f 59 ls (.int (nI 0) :: st) h k n) := by rw [wp_s dd_110_58 rfl hs]; rfl
theorem dd_110_59 : decode (mB 110) 59 = .ok (.istore_n 1, 1) := by decide +kernel
theorem u_110_59 {G : aG} {S : Nat → Bool} {f : Nat} {st : List Value} {ls : aL} {h : aH} {k n : Nat} {x : Int32} (hs : S 59 = false) : WP 110 G S (f + 1) 59 ls (.int x :: st) h k n = (WP 110 G S f 60 (lput1 ls 1 (.int x)) st h k n) := by rw [wp_s dd_110_59 rfl hs]; rfl
theorem dd_110_60 : decode (mB 110) 60 = .ok (.goto 96, 3) := by decide +kernel
theorem u_110_60 {G : aG} {S : Nat → Bool} {f : Nat} {st : List Value} {ls : aL} {h : aH} {k n : Nat} (hs : S 60 = false) : WP 110 G S (f + 1) 60 ls st h k n = (WP 110 G S f 156 ls st h k n) := by rw [wp_s dd_110_60 rfl hs]; rfl
theorem dd_110_63 : decode (mB 110) 63 = .ok (.iload_n 2, 1) := by decide +kernel
theorem u_110_63 {G : aG} {S : Nat → Bool} {f : Nat} {st : List Value} {ls : aL} {h : aH} {k n : Nat} (hs : S 63 = false) : WP 110 G S (f + 1) 63 ls st h k n = (oI (lget ls 2) (WP 110 G S f) 64 ls st h k n) := by rw [wp_s dd_110_63 rfl hs]; rfl
theorem dd_110_64 : decode (mB 110) 64 = .ok (.bipush 41, 2) := by decide +kernel
theorem u_110_64 {G : aG} {S : Nat → Bool} {f : Nat} {st : List Value} {ls : aL} {h : aH} {k n : Nat} (hs : S 64 = false) : WP 110 G S (f + 1) 64 ls st h k n = (WP 110 G S f 66 ls (.int (nI 41) :: st) h k n) := by rw [wp_s dd_110_64 rfl hs]; rfl
theorem dd_110_66 : decode (mB 110) 66 = .ok (.if_icmp .ne 38, 3) := by decide +kernel
theorem u_110_66 {G : aG} {S : Nat → Bool} {f : Nat} {st : List Value} {ls : aL} {h : aH} {k n : Nat} {x y : Int32} (hs : S 66 = false) : WP 110 G S (f + 1) 66 ls (.int y :: .int x :: st) h k n = (if x = y then WP 110 G S f 69 ls st h k n else WP 110 G S f 104 ls st h k n) := by rw [wp_s dd_110_66 rfl hs]; exact br_iten (c := x = y)
theorem dd_110_69 : decode (mB 110) 69 = .ok (.aload_n 0, 1) := by decide +kernel
theorem u_110_69 {G : aG} {S : Nat → Bool} {f : Nat} {st : List Value} {ls : aL} {h : aH} {k n : Nat} (hs : S 69 = false) : WP 110 G S (f + 1) 69 ls st h k n = (oA (lget ls 0) (WP 110 G S f) 70 ls st h k n) := by rw [wp_s dd_110_69 rfl hs]; rfl
theorem dd_110_70 : decode (mB 110) 70 = .ok (.getfield 139, 3) := by decide +kernel
theorem u_110_70 {G : aG} {S : Nat → Bool} {f : Nat} {st : List Value} {ls : aL} {h : aH} {k n : Nat} {a : Nat} (hs : S 70 = false) : WP 110 G S (f + 1) 70 ls (.ref a :: st) h k n = (oV (fget h a 10 24) (WP 110 G S f) 73 ls st h k n) := by rw [wp_s dd_110_70 rfl hs]; rfl
theorem dd_110_73 : decode (mB 110) 73 = .ok (.ifCond .le 31, 3) := by decide +kernel
theorem u_110_73 {G : aG} {S : Nat → Bool} {f : Nat} {st : List Value} {ls : aL} {h : aH} {k n : Nat} {x : Int32} (hs : S 73 = false) : WP 110 G S (f + 1) 73 ls (.int x :: st) h k n = (if x ≤ nI 0 then WP 110 G S f 104 ls st h k n else WP 110 G S f 76 ls st h k n) := by rw [wp_s dd_110_73 rfl hs]; exact br_ite (c := x ≤ nI 0)
theorem dd_110_76 : decode (mB 110) 76 = .ok (.aload_n 0, 1) := by decide +kernel
theorem u_110_76 {G : aG} {S : Nat → Bool} {f : Nat} {st : List Value} {ls : aL} {h : aH} {k n : Nat} (hs : S 76 = false) : WP 110 G S (f + 1) 76 ls st h k n = (oA (lget ls 0) (WP 110 G S f) 77 ls st h k n) := by rw [wp_s dd_110_76 rfl hs]; rfl
theorem dd_110_77 : decode (mB 110) 77 = .ok (.iconst (-1), 1) := by decide +kernel
theorem u_110_77 {G : aG} {S : Nat → Bool} {f : Nat} {st : List Value} {ls : aL} {h : aH} {k n : Nat} (hs : S 77 = false) : WP 110 G S (f + 1) 77 ls st h k n = (WP 110 G S f 78 ls (.int (-1) :: st) h k n) := by rw [wp_s dd_110_77 rfl hs]; rfl
theorem dd_110_78 : decode (mB 110) 78 = .ok (.invokevirtual 149, 3) := by decide +kernel
theorem u_110_78 {G : aG} {S : Nat → Bool} {f : Nat} {st : List Value} {ls : aL} {h : aH} {k n : Nat} {v1 : Value} {b : Nat} (hs : S 78 = false) : WP 110 G S (f + 1) 78 ls (v1 :: .ref b :: st) h k n = (rcv (hget h b) 10 ∧ CAL G (WP 110 G S f) 113 [.ref b, v1] 81 ls st h k n) := by rw [wp_s dd_110_78 rfl hs]; rfl
theorem dd_110_81 : decode (mB 110) 81 = .ok (.aload_n 0, 1) := by decide +kernel
theorem u_110_81 {G : aG} {S : Nat → Bool} {f : Nat} {st : List Value} {ls : aL} {h : aH} {k n : Nat} (hs : S 81 = false) : WP 110 G S (f + 1) 81 ls st h k n = (oA (lget ls 0) (WP 110 G S f) 82 ls st h k n) := by rw [wp_s dd_110_81 rfl hs]; rfl
theorem dd_110_82 : decode (mB 110) 82 = .ok (.dup, 1) := by decide +kernel
theorem u_110_82 {G : aG} {S : Nat → Bool} {f : Nat} {st : List Value} {ls : aL} {h : aH} {k n : Nat} {v : Value} (hs : S 82 = false) : WP 110 G S (f + 1) 82 ls (v :: st) h k n = (cond (cat1 v) (WP 110 G S f 83 ls (v :: v :: st) h k n) False) := by rw [wp_s dd_110_82 rfl hs]; rfl
theorem dd_110_83 : decode (mB 110) 83 = .ok (.getfield 126, 3) := by decide +kernel
theorem u_110_83 {G : aG} {S : Nat → Bool} {f : Nat} {st : List Value} {ls : aL} {h : aH} {k n : Nat} {a : Nat} (hs : S 83 = false) : WP 110 G S (f + 1) 83 ls (.ref a :: st) h k n = (oV (fget h a 10 22) (WP 110 G S f) 86 ls st h k n) := by rw [wp_s dd_110_83 rfl hs]; rfl
theorem dd_110_86 : decode (mB 110) 86 = .ok (.iconst 1, 1) := by decide +kernel
theorem u_110_86 {G : aG} {S : Nat → Bool} {f : Nat} {st : List Value} {ls : aL} {h : aH} {k n : Nat} (hs : S 86 = false) : WP 110 G S (f + 1) 86 ls st h k n = (WP 110 G S f 87 ls (.int (nI 1) :: st) h k n) := by rw [wp_s dd_110_86 rfl hs]; rfl
theorem dd_110_87 : decode (mB 110) 87 = .ok (.isub, 1) := by decide +kernel
theorem u_110_87 {G : aG} {S : Nat → Bool} {f : Nat} {st : List Value} {ls : aL} {h : aH} {k n : Nat} {x y : Int32} (hs : S 87 = false) : WP 110 G S (f + 1) 87 ls (.int y :: .int x :: st) h k n = (WP 110 G S f 88 ls (.int (x - y) :: st) h k n) := by rw [wp_s dd_110_87 rfl hs]; rfl
theorem dd_110_88 : decode (mB 110) 88 = .ok (.putfield 126, 3) := by decide +kernel
theorem u_110_88 {G : aG} {S : Nat → Bool} {f : Nat} {st : List Value} {ls : aL} {h : aH} {k n : Nat} {a : Nat} {x : Int32} (hs : S 88 = false) : WP 110 G S (f + 1) 88 ls (.int x :: .ref a :: st) h k n = (oH (fput h a 10 22 (.int x)) (WP 110 G S f) 91 ls st k n) := by rw [wp_s dd_110_88 rfl hs]; rfl
theorem dd_110_91 : decode (mB 110) 91 = .ok (.aload_n 0, 1) := by decide +kernel
theorem u_110_91 {G : aG} {S : Nat → Bool} {f : Nat} {st : List Value} {ls : aL} {h : aH} {k n : Nat} (hs : S 91 = false) : WP 110 G S (f + 1) 91 ls st h k n = (oA (lget ls 0) (WP 110 G S f) 92 ls st h k n) := by rw [wp_s dd_110_91 rfl hs]; rfl
theorem dd_110_92 : decode (mB 110) 92 = .ok (.dup, 1) := by decide +kernel
theorem u_110_92 {G : aG} {S : Nat → Bool} {f : Nat} {st : List Value} {ls : aL} {h : aH} {k n : Nat} {v : Value} (hs : S 92 = false) : WP 110 G S (f + 1) 92 ls (v :: st) h k n = (cond (cat1 v) (WP 110 G S f 93 ls (v :: v :: st) h k n) False) := by rw [wp_s dd_110_92 rfl hs]; rfl
theorem dd_110_93 : decode (mB 110) 93 = .ok (.getfield 139, 3) := by decide +kernel
theorem u_110_93 {G : aG} {S : Nat → Bool} {f : Nat} {st : List Value} {ls : aL} {h : aH} {k n : Nat} {a : Nat} (hs : S 93 = false) : WP 110 G S (f + 1) 93 ls (.ref a :: st) h k n = (oV (fget h a 10 24) (WP 110 G S f) 96 ls st h k n) := by rw [wp_s dd_110_93 rfl hs]; rfl
theorem dd_110_96 : decode (mB 110) 96 = .ok (.iconst 1, 1) := by decide +kernel
theorem u_110_96 {G : aG} {S : Nat → Bool} {f : Nat} {st : List Value} {ls : aL} {h : aH} {k n : Nat} (hs : S 96 = false) : WP 110 G S (f + 1) 96 ls st h k n = (WP 110 G S f 97 ls (.int (nI 1) :: st) h k n) := by rw [wp_s dd_110_96 rfl hs]; rfl
theorem dd_110_97 : decode (mB 110) 97 = .ok (.isub, 1) := by decide +kernel
theorem u_110_97 {G : aG} {S : Nat → Bool} {f : Nat} {st : List Value} {ls : aL} {h : aH} {k n : Nat} {x y : Int32} (hs : S 97 = false) : WP 110 G S (f + 1) 97 ls (.int y :: .int x :: st) h k n = (WP 110 G S f 98 ls (.int (x - y) :: st) h k n) := by rw [wp_s dd_110_97 rfl hs]; rfl
theorem dd_110_98 : decode (mB 110) 98 = .ok (.putfield 139, 3) := by decide +kernel
theorem u_110_98 {G : aG} {S : Nat → Bool} {f : Nat} {st : List Value} {ls : aL} {h : aH} {k n : Nat} {a : Nat} {x : Int32} (hs : S 98 = false) : WP 110 G S (f + 1) 98 ls (.int x :: .ref a :: st) h k n = (oH (fput h a 10 24 (.int x)) (WP 110 G S f) 101 ls st k n) := by rw [wp_s dd_110_98 rfl hs]; rfl
theorem dd_110_101 : decode (mB 110) 101 = .ok (.goto 55, 3) := by decide +kernel
theorem u_110_101 {G : aG} {S : Nat → Bool} {f : Nat} {st : List Value} {ls : aL} {h : aH} {k n : Nat} (hs : S 101 = false) : WP 110 G S (f + 1) 101 ls st h k n = (WP 110 G S f 156 ls st h k n) := by rw [wp_s dd_110_101 rfl hs]; rfl
theorem dd_110_104 : decode (mB 110) 104 = .ok (.iload_n 2, 1) := by decide +kernel
theorem u_110_104 {G : aG} {S : Nat → Bool} {f : Nat} {st : List Value} {ls : aL} {h : aH} {k n : Nat} (hs : S 104 = false) : WP 110 G S (f + 1) 104 ls st h k n = (oI (lget ls 2) (WP 110 G S f) 105 ls st h k n) := by rw [wp_s dd_110_104 rfl hs]; rfl
theorem dd_110_105 : decode (mB 110) 105 = .ok (.bipush 59, 2) := by decide +kernel
theorem u_110_105 {G : aG} {S : Nat → Bool} {f : Nat} {st : List Value} {ls : aL} {h : aH} {k n : Nat} (hs : S 105 = false) : WP 110 G S (f + 1) 105 ls st h k n = (WP 110 G S f 107 ls (.int (nI 59) :: st) h k n) := by rw [wp_s dd_110_105 rfl hs]; rfl
theorem dd_110_107 : decode (mB 110) 107 = .ok (.if_icmp .ne 17, 3) := by decide +kernel
theorem u_110_107 {G : aG} {S : Nat → Bool} {f : Nat} {st : List Value} {ls : aL} {h : aH} {k n : Nat} {x y : Int32} (hs : S 107 = false) : WP 110 G S (f + 1) 107 ls (.int y :: .int x :: st) h k n = (if x = y then WP 110 G S f 110 ls st h k n else WP 110 G S f 124 ls st h k n) := by rw [wp_s dd_110_107 rfl hs]; exact br_iten (c := x = y)
theorem dd_110_110 : decode (mB 110) 110 = .ok (.aload_n 0, 1) := by decide +kernel
theorem u_110_110 {G : aG} {S : Nat → Bool} {f : Nat} {st : List Value} {ls : aL} {h : aH} {k n : Nat} (hs : S 110 = false) : WP 110 G S (f + 1) 110 ls st h k n = (oA (lget ls 0) (WP 110 G S f) 111 ls st h k n) := by rw [wp_s dd_110_110 rfl hs]; rfl
theorem dd_110_111 : decode (mB 110) 111 = .ok (.getfield 139, 3) := by decide +kernel
theorem u_110_111 {G : aG} {S : Nat → Bool} {f : Nat} {st : List Value} {ls : aL} {h : aH} {k n : Nat} {a : Nat} (hs : S 111 = false) : WP 110 G S (f + 1) 111 ls (.ref a :: st) h k n = (oV (fget h a 10 24) (WP 110 G S f) 114 ls st h k n) := by rw [wp_s dd_110_111 rfl hs]; rfl
theorem dd_110_114 : decode (mB 110) 114 = .ok (.ifCond .ne 10, 3) := by decide +kernel
theorem u_110_114 {G : aG} {S : Nat → Bool} {f : Nat} {st : List Value} {ls : aL} {h : aH} {k n : Nat} {x : Int32} (hs : S 114 = false) : WP 110 G S (f + 1) 114 ls (.int x :: st) h k n = (if x = nI 0 then WP 110 G S f 117 ls st h k n else WP 110 G S f 124 ls st h k n) := by rw [wp_s dd_110_114 rfl hs]; exact br_iten (c := x = nI 0)
theorem dd_110_117 : decode (mB 110) 117 = .ok (.aload_n 0, 1) := by decide +kernel
theorem u_110_117 {G : aG} {S : Nat → Bool} {f : Nat} {st : List Value} {ls : aL} {h : aH} {k n : Nat} (hs : S 117 = false) : WP 110 G S (f + 1) 117 ls st h k n = (oA (lget ls 0) (WP 110 G S f) 118 ls st h k n) := by rw [wp_s dd_110_117 rfl hs]; rfl
theorem dd_110_118 : decode (mB 110) 118 = .ok (.iconst (-1), 1) := by decide +kernel
theorem u_110_118 {G : aG} {S : Nat → Bool} {f : Nat} {st : List Value} {ls : aL} {h : aH} {k n : Nat} (hs : S 118 = false) : WP 110 G S (f + 1) 118 ls st h k n = (WP 110 G S f 119 ls (.int (-1) :: st) h k n) := by rw [wp_s dd_110_118 rfl hs]; rfl
theorem dd_110_119 : decode (mB 110) 119 = .ok (.invokevirtual 149, 3) := by decide +kernel
theorem u_110_119 {G : aG} {S : Nat → Bool} {f : Nat} {st : List Value} {ls : aL} {h : aH} {k n : Nat} {v1 : Value} {b : Nat} (hs : S 119 = false) : WP 110 G S (f + 1) 119 ls (v1 :: .ref b :: st) h k n = (rcv (hget h b) 10 ∧ CAL G (WP 110 G S f) 113 [.ref b, v1] 122 ls st h k n) := by rw [wp_s dd_110_119 rfl hs]; rfl
theorem dd_110_122 : decode (mB 110) 122 = .ok (.iconst 1, 1) := by decide +kernel
theorem u_110_122 {G : aG} {S : Nat → Bool} {f : Nat} {st : List Value} {ls : aL} {h : aH} {k n : Nat} (hs : S 122 = false) : WP 110 G S (f + 1) 122 ls st h k n = (WP 110 G S f 123 ls (.int (nI 1) :: st) h k n) := by rw [wp_s dd_110_122 rfl hs]; rfl
theorem dd_110_123 : decode (mB 110) 123 = .ok (.ireturn, 1) := by decide +kernel
theorem u_110_123 {G : aG} {S : Nat → Bool} {f : Nat} {ls : aL} {h : aH} {k n : Nat} {x : Int32} (hs : S 123 = false) : WP 110 G S (f + 1) 123 ls [.int x] h k n = (cond (x == nI 0 || x == nI 1) (RET G (some (.int x)) h k n) False) := by rw [wp_s dd_110_123 rfl hs]; rfl
theorem dd_110_124 : decode (mB 110) 124 = .ok (.iload_n 2, 1) := by decide +kernel
theorem u_110_124 {G : aG} {S : Nat → Bool} {f : Nat} {st : List Value} {ls : aL} {h : aH} {k n : Nat} (hs : S 124 = false) : WP 110 G S (f + 1) 124 ls st h k n = (oI (lget ls 2) (WP 110 G S f) 125 ls st h k n) := by rw [wp_s dd_110_124 rfl hs]; rfl
theorem dd_110_125 : decode (mB 110) 125 = .ok (.invokestatic 158, 3) := by decide +kernel
theorem u_110_125 {G : aG} {S : Nat → Bool} {f : Nat} {st : List Value} {ls : aL} {h : aH} {k n : Nat} {v1 : Value} (hs : S 125 = false) : WP 110 G S (f + 1) 125 ls (v1 :: st) h k n = (CAL G (WP 110 G S f) 116 [v1] 128 ls st h k n) := by rw [wp_s dd_110_125 rfl hs]; rfl
theorem dd_110_128 : decode (mB 110) 128 = .ok (.istore_n 3, 1) := by decide +kernel
theorem u_110_128 {G : aG} {S : Nat → Bool} {f : Nat} {st : List Value} {ls : aL} {h : aH} {k n : Nat} {x : Int32} (hs : S 128 = false) : WP 110 G S (f + 1) 128 ls (.int x :: st) h k n = (WP 110 G S f 129 (lput1 ls 3 (.int x)) st h k n) := by rw [wp_s dd_110_128 rfl hs]; rfl
theorem dd_110_129 : decode (mB 110) 129 = .ok (.iload_n 3, 1) := by decide +kernel
theorem u_110_129 {G : aG} {S : Nat → Bool} {f : Nat} {st : List Value} {ls : aL} {h : aH} {k n : Nat} (hs : S 129 = false) : WP 110 G S (f + 1) 129 ls st h k n = (oI (lget ls 3) (WP 110 G S f) 130 ls st h k n) := by rw [wp_s dd_110_129 rfl hs]; rfl
theorem dd_110_130 : decode (mB 110) 130 = .ok (.iconst (-1), 1) := by decide +kernel
theorem u_110_130 {G : aG} {S : Nat → Bool} {f : Nat} {st : List Value} {ls : aL} {h : aH} {k n : Nat} (hs : S 130 = false) : WP 110 G S (f + 1) 130 ls st h k n = (WP 110 G S f 131 ls (.int (-1) :: st) h k n) := by rw [wp_s dd_110_130 rfl hs]; rfl
theorem dd_110_131 : decode (mB 110) 131 = .ok (.if_icmp .eq 11, 3) := by decide +kernel
theorem u_110_131 {G : aG} {S : Nat → Bool} {f : Nat} {st : List Value} {ls : aL} {h : aH} {k n : Nat} {x y : Int32} (hs : S 131 = false) : WP 110 G S (f + 1) 131 ls (.int y :: .int x :: st) h k n = (if x = y then WP 110 G S f 142 ls st h k n else WP 110 G S f 134 ls st h k n) := by rw [wp_s dd_110_131 rfl hs]; exact br_ite (c := x = y)
theorem dd_110_134 : decode (mB 110) 134 = .ok (.aload_n 0, 1) := by decide +kernel
theorem u_110_134 {G : aG} {S : Nat → Bool} {f : Nat} {st : List Value} {ls : aL} {h : aH} {k n : Nat} (hs : S 134 = false) : WP 110 G S (f + 1) 134 ls st h k n = (oA (lget ls 0) (WP 110 G S f) 135 ls st h k n) := by rw [wp_s dd_110_134 rfl hs]; rfl
theorem dd_110_135 : decode (mB 110) 135 = .ok (.iload_n 3, 1) := by decide +kernel
theorem u_110_135 {G : aG} {S : Nat → Bool} {f : Nat} {st : List Value} {ls : aL} {h : aH} {k n : Nat} (hs : S 135 = false) : WP 110 G S (f + 1) 135 ls st h k n = (oI (lget ls 3) (WP 110 G S f) 136 ls st h k n) := by rw [wp_s dd_110_135 rfl hs]; rfl
theorem dd_110_136 : decode (mB 110) 136 = .ok (.invokevirtual 161, 3) := by decide +kernel
theorem u_110_136 {G : aG} {S : Nat → Bool} {f : Nat} {st : List Value} {ls : aL} {h : aH} {k n : Nat} {v1 : Value} {b : Nat} (hs : S 136 = false) : WP 110 G S (f + 1) 136 ls (v1 :: .ref b :: st) h k n = (rcv (hget h b) 10 ∧ CAL G (WP 110 G S f) 117 [.ref b, v1] 139 ls st h k n) := by rw [wp_s dd_110_136 rfl hs]; rfl
theorem dd_110_139 : decode (mB 110) 139 = .ok (.ifCond .ne 5, 3) := by decide +kernel
theorem u_110_139 {G : aG} {S : Nat → Bool} {f : Nat} {st : List Value} {ls : aL} {h : aH} {k n : Nat} {x : Int32} (hs : S 139 = false) : WP 110 G S (f + 1) 139 ls (.int x :: st) h k n = (if x = nI 0 then WP 110 G S f 142 ls st h k n else WP 110 G S f 144 ls st h k n) := by rw [wp_s dd_110_139 rfl hs]; exact br_iten (c := x = nI 0)
theorem dd_110_142 : decode (mB 110) 142 = .ok (.iconst 0, 1) := by decide +kernel
theorem u_110_142 {G : aG} {S : Nat → Bool} {f : Nat} {st : List Value} {ls : aL} {h : aH} {k n : Nat} (hs : S 142 = false) : WP 110 G S (f + 1) 142 ls st h k n = (WP 110 G S f 143 ls (.int (nI 0) :: st) h k n) := by rw [wp_s dd_110_142 rfl hs]; rfl
theorem dd_110_143 : decode (mB 110) 143 = .ok (.ireturn, 1) := by decide +kernel
theorem u_110_143 {G : aG} {S : Nat → Bool} {f : Nat} {ls : aL} {h : aH} {k n : Nat} {x : Int32} (hs : S 143 = false) : WP 110 G S (f + 1) 143 ls [.int x] h k n = (cond (x == nI 0 || x == nI 1) (RET G (some (.int x)) h k n) False) := by rw [wp_s dd_110_143 rfl hs]; rfl
theorem dd_110_144 : decode (mB 110) 144 = .ok (.iload_n 3, 1) := by decide +kernel
theorem u_110_144 {G : aG} {S : Nat → Bool} {f : Nat} {st : List Value} {ls : aL} {h : aH} {k n : Nat} (hs : S 144 = false) : WP 110 G S (f + 1) 144 ls st h k n = (oI (lget ls 3) (WP 110 G S f) 145 ls st h k n) := by rw [wp_s dd_110_144 rfl hs]; rfl
theorem dd_110_145 : decode (mB 110) 145 = .ok (.bipush 12, 2) := by decide +kernel
theorem u_110_145 {G : aG} {S : Nat → Bool} {f : Nat} {st : List Value} {ls : aL} {h : aH} {k n : Nat} (hs : S 145 = false) : WP 110 G S (f + 1) 145 ls st h k n = (WP 110 G S f 147 ls (.int (nI 12) :: st) h k n) := by rw [wp_s dd_110_145 rfl hs]; rfl
theorem dd_110_147 : decode (mB 110) 147 = .ok (.if_icmp .ge 7, 3) := by decide +kernel
theorem u_110_147 {G : aG} {S : Nat → Bool} {f : Nat} {st : List Value} {ls : aL} {h : aH} {k n : Nat} {x y : Int32} (hs : S 147 = false) : WP 110 G S (f + 1) 147 ls (.int y :: .int x :: st) h k n = (if y ≤ x then WP 110 G S f 154 ls st h k n else WP 110 G S f 150 ls st h k n) := by rw [wp_s dd_110_147 rfl hs]; exact br_ite (c := y ≤ x)
theorem dd_110_150 : decode (mB 110) 150 = .ok (.iconst 1, 1) := by decide +kernel
theorem u_110_150 {G : aG} {S : Nat → Bool} {f : Nat} {st : List Value} {ls : aL} {h : aH} {k n : Nat} (hs : S 150 = false) : WP 110 G S (f + 1) 150 ls st h k n = (WP 110 G S f 151 ls (.int (nI 1) :: st) h k n) := by rw [wp_s dd_110_150 rfl hs]; rfl
theorem dd_110_151 : decode (mB 110) 151 = .ok (.goto 4, 3) := by decide +kernel
theorem u_110_151 {G : aG} {S : Nat → Bool} {f : Nat} {st : List Value} {ls : aL} {h : aH} {k n : Nat} (hs : S 151 = false) : WP 110 G S (f + 1) 151 ls st h k n = (WP 110 G S f 155 ls st h k n) := by rw [wp_s dd_110_151 rfl hs]; rfl
theorem dd_110_154 : decode (mB 110) 154 = .ok (.iconst 0, 1) := by decide +kernel
theorem u_110_154 {G : aG} {S : Nat → Bool} {f : Nat} {st : List Value} {ls : aL} {h : aH} {k n : Nat} (hs : S 154 = false) : WP 110 G S (f + 1) 154 ls st h k n = (WP 110 G S f 155 ls (.int (nI 0) :: st) h k n) := by rw [wp_s dd_110_154 rfl hs]; rfl
theorem dd_110_155 : decode (mB 110) 155 = .ok (.istore_n 1, 1) := by decide +kernel
theorem u_110_155 {G : aG} {S : Nat → Bool} {f : Nat} {st : List Value} {ls : aL} {h : aH} {k n : Nat} {x : Int32} (hs : S 155 = false) : WP 110 G S (f + 1) 155 ls (.int x :: st) h k n = (WP 110 G S f 156 (lput1 ls 1 (.int x)) st h k n) := by rw [wp_s dd_110_155 rfl hs]; rfl
theorem dd_110_156 : decode (mB 110) 156 = .ok (.aload_n 0, 1) := by decide +kernel
theorem u_110_156 {G : aG} {S : Nat → Bool} {f : Nat} {st : List Value} {ls : aL} {h : aH} {k n : Nat} (hs : S 156 = false) : WP 110 G S (f + 1) 156 ls st h k n = (oA (lget ls 0) (WP 110 G S f) 157 ls st h k n) := by rw [wp_s dd_110_156 rfl hs]; rfl
theorem dd_110_157 : decode (mB 110) 157 = .ok (.dup, 1) := by decide +kernel
theorem u_110_157 {G : aG} {S : Nat → Bool} {f : Nat} {st : List Value} {ls : aL} {h : aH} {k n : Nat} {v : Value} (hs : S 157 = false) : WP 110 G S (f + 1) 157 ls (v :: st) h k n = (cond (cat1 v) (WP 110 G S f 158 ls (v :: v :: st) h k n) False) := by rw [wp_s dd_110_157 rfl hs]; rfl
theorem dd_110_158 : decode (mB 110) 158 = .ok (.getfield 120, 3) := by decide +kernel
theorem u_110_158 {G : aG} {S : Nat → Bool} {f : Nat} {st : List Value} {ls : aL} {h : aH} {k n : Nat} {a : Nat} (hs : S 158 = false) : WP 110 G S (f + 1) 158 ls (.ref a :: st) h k n = (oV (fget h a 10 17) (WP 110 G S f) 161 ls st h k n) := by rw [wp_s dd_110_158 rfl hs]; rfl
theorem dd_110_161 : decode (mB 110) 161 = .ok (.iconst 1, 1) := by decide +kernel
theorem u_110_161 {G : aG} {S : Nat → Bool} {f : Nat} {st : List Value} {ls : aL} {h : aH} {k n : Nat} (hs : S 161 = false) : WP 110 G S (f + 1) 161 ls st h k n = (WP 110 G S f 162 ls (.int (nI 1) :: st) h k n) := by rw [wp_s dd_110_161 rfl hs]; rfl
theorem dd_110_162 : decode (mB 110) 162 = .ok (.iadd, 1) := by decide +kernel
theorem u_110_162 {G : aG} {S : Nat → Bool} {f : Nat} {st : List Value} {ls : aL} {h : aH} {k n : Nat} {x y : Int32} (hs : S 162 = false) : WP 110 G S (f + 1) 162 ls (.int y :: .int x :: st) h k n = (WP 110 G S f 163 ls (.int (x + y) :: st) h k n) := by rw [wp_s dd_110_162 rfl hs]; rfl
theorem dd_110_163 : decode (mB 110) 163 = .ok (.putfield 120, 3) := by decide +kernel
theorem u_110_163 {G : aG} {S : Nat → Bool} {f : Nat} {st : List Value} {ls : aL} {h : aH} {k n : Nat} {a : Nat} {x : Int32} (hs : S 163 = false) : WP 110 G S (f + 1) 163 ls (.int x :: .ref a :: st) h k n = (oH (fput h a 10 17 (.int x)) (WP 110 G S f) 166 ls st k n) := by rw [wp_s dd_110_163 rfl hs]; rfl
theorem dd_110_166 : decode (mB 110) 166 = .ok (.goto (-137), 3) := by decide +kernel
theorem u_110_166 {G : aG} {S : Nat → Bool} {f : Nat} {st : List Value} {ls : aL} {h : aH} {k n : Nat} (hs : S 166 = false) : WP 110 G S (f + 1) 166 ls st h k n = (WP 110 G S f 29 ls st h k n) := by rw [wp_s dd_110_166 rfl hs]; rfl
theorem dd_111_0 : decode (mB 111) 0 = .ok (.iload_n 1, 1) := by decide +kernel
theorem u_111_0 {G : aG} {S : Nat → Bool} {f : Nat} {st : List Value} {ls : aL} {h : aH} {k n : Nat} (hs : S 0 = false) : WP 111 G S (f + 1) 0 ls st h k n = (oI (lget ls 1) (WP 111 G S f) 1 ls st h k n) := by rw [wp_s dd_111_0 rfl hs]; rfl
theorem dd_111_1 : decode (mB 111) 1 = .ok (.bipush 40, 2) := by decide +kernel
theorem u_111_1 {G : aG} {S : Nat → Bool} {f : Nat} {st : List Value} {ls : aL} {h : aH} {k n : Nat} (hs : S 1 = false) : WP 111 G S (f + 1) 1 ls st h k n = (WP 111 G S f 3 ls (.int (nI 40) :: st) h k n) := by rw [wp_s dd_111_1 rfl hs]; rfl
theorem dd_111_3 : decode (mB 111) 3 = .ok (.if_icmp .ne 46, 3) := by decide +kernel
theorem u_111_3 {G : aG} {S : Nat → Bool} {f : Nat} {st : List Value} {ls : aL} {h : aH} {k n : Nat} {x y : Int32} (hs : S 3 = false) : WP 111 G S (f + 1) 3 ls (.int y :: .int x :: st) h k n = (if x = y then WP 111 G S f 6 ls st h k n else WP 111 G S f 49 ls st h k n) := by rw [wp_s dd_111_3 rfl hs]; exact br_iten (c := x = y)
theorem dd_111_6 : decode (mB 111) 6 = .ok (.aload_n 0, 1) := by decide +kernel
theorem u_111_6 {G : aG} {S : Nat → Bool} {f : Nat} {st : List Value} {ls : aL} {h : aH} {k n : Nat} (hs : S 6 = false) : WP 111 G S (f + 1) 6 ls st h k n = (oA (lget ls 0) (WP 111 G S f) 7 ls st h k n) := by rw [wp_s dd_111_6 rfl hs]; rfl
theorem dd_111_7 : decode (mB 111) 7 = .ok (.getfield 139, 3) := by decide +kernel
theorem u_111_7 {G : aG} {S : Nat → Bool} {f : Nat} {st : List Value} {ls : aL} {h : aH} {k n : Nat} {a : Nat} (hs : S 7 = false) : WP 111 G S (f + 1) 7 ls (.ref a :: st) h k n = (oV (fget h a 10 24) (WP 111 G S f) 10 ls st h k n) := by rw [wp_s dd_111_7 rfl hs]; rfl
theorem dd_111_10 : decode (mB 111) 10 = .ok (.bipush 8, 2) := by decide +kernel
theorem u_111_10 {G : aG} {S : Nat → Bool} {f : Nat} {st : List Value} {ls : aL} {h : aH} {k n : Nat} (hs : S 10 = false) : WP 111 G S (f + 1) 10 ls st h k n = (WP 111 G S f 12 ls (.int (nI 8) :: st) h k n) := by rw [wp_s dd_111_10 rfl hs]; rfl
theorem dd_111_12 : decode (mB 111) 12 = .ok (.if_icmp .ne 5, 3) := by decide +kernel
theorem u_111_12 {G : aG} {S : Nat → Bool} {f : Nat} {st : List Value} {ls : aL} {h : aH} {k n : Nat} {x y : Int32} (hs : S 12 = false) : WP 111 G S (f + 1) 12 ls (.int y :: .int x :: st) h k n = (if x = y then WP 111 G S f 15 ls st h k n else WP 111 G S f 17 ls st h k n) := by rw [wp_s dd_111_12 rfl hs]; exact br_iten (c := x = y)
theorem dd_111_15 : decode (mB 111) 15 = .ok (.iconst 0, 1) := by decide +kernel
theorem u_111_15 {G : aG} {S : Nat → Bool} {f : Nat} {st : List Value} {ls : aL} {h : aH} {k n : Nat} (hs : S 15 = false) : WP 111 G S (f + 1) 15 ls st h k n = (WP 111 G S f 16 ls (.int (nI 0) :: st) h k n) := by rw [wp_s dd_111_15 rfl hs]; rfl
theorem dd_111_16 : decode (mB 111) 16 = .ok (.ireturn, 1) := by decide +kernel
theorem u_111_16 {G : aG} {S : Nat → Bool} {f : Nat} {ls : aL} {h : aH} {k n : Nat} {x : Int32} (hs : S 16 = false) : WP 111 G S (f + 1) 16 ls [.int x] h k n = (cond (x == nI 0 || x == nI 1) (RET G (some (.int x)) h k n) False) := by rw [wp_s dd_111_16 rfl hs]; rfl
theorem dd_111_17 : decode (mB 111) 17 = .ok (.aload_n 0, 1) := by decide +kernel
theorem u_111_17 {G : aG} {S : Nat → Bool} {f : Nat} {st : List Value} {ls : aL} {h : aH} {k n : Nat} (hs : S 17 = false) : WP 111 G S (f + 1) 17 ls st h k n = (oA (lget ls 0) (WP 111 G S f) 18 ls st h k n) := by rw [wp_s dd_111_17 rfl hs]; rfl
theorem dd_111_18 : decode (mB 111) 18 = .ok (.dup, 1) := by decide +kernel
theorem u_111_18 {G : aG} {S : Nat → Bool} {f : Nat} {st : List Value} {ls : aL} {h : aH} {k n : Nat} {v : Value} (hs : S 18 = false) : WP 111 G S (f + 1) 18 ls (v :: st) h k n = (cond (cat1 v) (WP 111 G S f 19 ls (v :: v :: st) h k n) False) := by rw [wp_s dd_111_18 rfl hs]; rfl
theorem dd_111_19 : decode (mB 111) 19 = .ok (.getfield 139, 3) := by decide +kernel
theorem u_111_19 {G : aG} {S : Nat → Bool} {f : Nat} {st : List Value} {ls : aL} {h : aH} {k n : Nat} {a : Nat} (hs : S 19 = false) : WP 111 G S (f + 1) 19 ls (.ref a :: st) h k n = (oV (fget h a 10 24) (WP 111 G S f) 22 ls st h k n) := by rw [wp_s dd_111_19 rfl hs]; rfl
theorem dd_111_22 : decode (mB 111) 22 = .ok (.iconst 1, 1) := by decide +kernel
theorem u_111_22 {G : aG} {S : Nat → Bool} {f : Nat} {st : List Value} {ls : aL} {h : aH} {k n : Nat} (hs : S 22 = false) : WP 111 G S (f + 1) 22 ls st h k n = (WP 111 G S f 23 ls (.int (nI 1) :: st) h k n) := by rw [wp_s dd_111_22 rfl hs]; rfl
theorem dd_111_23 : decode (mB 111) 23 = .ok (.iadd, 1) := by decide +kernel
theorem u_111_23 {G : aG} {S : Nat → Bool} {f : Nat} {st : List Value} {ls : aL} {h : aH} {k n : Nat} {x y : Int32} (hs : S 23 = false) : WP 111 G S (f + 1) 23 ls (.int y :: .int x :: st) h k n = (WP 111 G S f 24 ls (.int (x + y) :: st) h k n) := by rw [wp_s dd_111_23 rfl hs]; rfl
theorem dd_111_24 : decode (mB 111) 24 = .ok (.putfield 139, 3) := by decide +kernel
theorem u_111_24 {G : aG} {S : Nat → Bool} {f : Nat} {st : List Value} {ls : aL} {h : aH} {k n : Nat} {a : Nat} {x : Int32} (hs : S 24 = false) : WP 111 G S (f + 1) 24 ls (.int x :: .ref a :: st) h k n = (oH (fput h a 10 24 (.int x)) (WP 111 G S f) 27 ls st k n) := by rw [wp_s dd_111_24 rfl hs]; rfl
theorem dd_111_27 : decode (mB 111) 27 = .ok (.aload_n 0, 1) := by decide +kernel
theorem u_111_27 {G : aG} {S : Nat → Bool} {f : Nat} {st : List Value} {ls : aL} {h : aH} {k n : Nat} (hs : S 27 = false) : WP 111 G S (f + 1) 27 ls st h k n = (oA (lget ls 0) (WP 111 G S f) 28 ls st h k n) := by rw [wp_s dd_111_27 rfl hs]; rfl
theorem dd_111_28 : decode (mB 111) 28 = .ok (.getfield 58, 3) := by decide +kernel
theorem u_111_28 {G : aG} {S : Nat → Bool} {f : Nat} {st : List Value} {ls : aL} {h : aH} {k n : Nat} {a : Nat} (hs : S 28 = false) : WP 111 G S (f + 1) 28 ls (.ref a :: st) h k n = (oV (fget h a 10 21) (WP 111 G S f) 31 ls st h k n) := by rw [wp_s dd_111_28 rfl hs]; rfl
theorem dd_111_31 : decode (mB 111) 31 = .ok (.aload_n 0, 1) := by decide +kernel
theorem u_111_31 {G : aG} {S : Nat → Bool} {f : Nat} {st : List Value} {ls : aL} {h : aH} {k n : Nat} (hs : S 31 = false) : WP 111 G S (f + 1) 31 ls st h k n = (oA (lget ls 0) (WP 111 G S f) 32 ls st h k n) := by rw [wp_s dd_111_31 rfl hs]; rfl
theorem dd_111_32 : decode (mB 111) 32 = .ok (.getfield 126, 3) := by decide +kernel
theorem u_111_32 {G : aG} {S : Nat → Bool} {f : Nat} {st : List Value} {ls : aL} {h : aH} {k n : Nat} {a : Nat} (hs : S 32 = false) : WP 111 G S (f + 1) 32 ls (.ref a :: st) h k n = (oV (fget h a 10 22) (WP 111 G S f) 35 ls st h k n) := by rw [wp_s dd_111_32 rfl hs]; rfl
theorem dd_111_35 : decode (mB 111) 35 = .ok (.iconst 0, 1) := by decide +kernel
theorem u_111_35 {G : aG} {S : Nat → Bool} {f : Nat} {st : List Value} {ls : aL} {h : aH} {k n : Nat} (hs : S 35 = false) : WP 111 G S (f + 1) 35 ls st h k n = (WP 111 G S f 36 ls (.int (nI 0) :: st) h k n) := by rw [wp_s dd_111_35 rfl hs]; rfl
theorem dd_111_36 : decode (mB 111) 36 = .ok (.iastore, 1) := by decide +kernel
theorem u_111_36 {G : aG} {S : Nat → Bool} {f : Nat} {st : List Value} {ls : aL} {h : aH} {k n : Nat} {i x : Int32} {a : Nat} (hs : S 36 = false) : WP 111 G S (f + 1) 36 ls (.int x :: .int i :: .ref a :: st) h k n = (oIst (iget h a 1) a i x (WP 111 G S f) 37 ls st h k n) := by rw [wp_s dd_111_36 rfl hs]; rfl
theorem dd_111_37 : decode (mB 111) 37 = .ok (.aload_n 0, 1) := by decide +kernel
theorem u_111_37 {G : aG} {S : Nat → Bool} {f : Nat} {st : List Value} {ls : aL} {h : aH} {k n : Nat} (hs : S 37 = false) : WP 111 G S (f + 1) 37 ls st h k n = (oA (lget ls 0) (WP 111 G S f) 38 ls st h k n) := by rw [wp_s dd_111_37 rfl hs]; rfl
theorem dd_111_38 : decode (mB 111) 38 = .ok (.dup, 1) := by decide +kernel
theorem u_111_38 {G : aG} {S : Nat → Bool} {f : Nat} {st : List Value} {ls : aL} {h : aH} {k n : Nat} {v : Value} (hs : S 38 = false) : WP 111 G S (f + 1) 38 ls (v :: st) h k n = (cond (cat1 v) (WP 111 G S f 39 ls (v :: v :: st) h k n) False) := by rw [wp_s dd_111_38 rfl hs]; rfl
theorem dd_111_39 : decode (mB 111) 39 = .ok (.getfield 126, 3) := by decide +kernel
theorem u_111_39 {G : aG} {S : Nat → Bool} {f : Nat} {st : List Value} {ls : aL} {h : aH} {k n : Nat} {a : Nat} (hs : S 39 = false) : WP 111 G S (f + 1) 39 ls (.ref a :: st) h k n = (oV (fget h a 10 22) (WP 111 G S f) 42 ls st h k n) := by rw [wp_s dd_111_39 rfl hs]; rfl
theorem dd_111_42 : decode (mB 111) 42 = .ok (.iconst 1, 1) := by decide +kernel
theorem u_111_42 {G : aG} {S : Nat → Bool} {f : Nat} {st : List Value} {ls : aL} {h : aH} {k n : Nat} (hs : S 42 = false) : WP 111 G S (f + 1) 42 ls st h k n = (WP 111 G S f 43 ls (.int (nI 1) :: st) h k n) := by rw [wp_s dd_111_42 rfl hs]; rfl
theorem dd_111_43 : decode (mB 111) 43 = .ok (.iadd, 1) := by decide +kernel
theorem u_111_43 {G : aG} {S : Nat → Bool} {f : Nat} {st : List Value} {ls : aL} {h : aH} {k n : Nat} {x y : Int32} (hs : S 43 = false) : WP 111 G S (f + 1) 43 ls (.int y :: .int x :: st) h k n = (WP 111 G S f 44 ls (.int (x + y) :: st) h k n) := by rw [wp_s dd_111_43 rfl hs]; rfl
theorem dd_111_44 : decode (mB 111) 44 = .ok (.putfield 126, 3) := by decide +kernel
theorem u_111_44 {G : aG} {S : Nat → Bool} {f : Nat} {st : List Value} {ls : aL} {h : aH} {k n : Nat} {a : Nat} {x : Int32} (hs : S 44 = false) : WP 111 G S (f + 1) 44 ls (.int x :: .ref a :: st) h k n = (oH (fput h a 10 22 (.int x)) (WP 111 G S f) 47 ls st k n) := by rw [wp_s dd_111_44 rfl hs]; rfl
theorem dd_111_47 : decode (mB 111) 47 = .ok (.iconst 1, 1) := by decide +kernel
theorem u_111_47 {G : aG} {S : Nat → Bool} {f : Nat} {st : List Value} {ls : aL} {h : aH} {k n : Nat} (hs : S 47 = false) : WP 111 G S (f + 1) 47 ls st h k n = (WP 111 G S f 48 ls (.int (nI 1) :: st) h k n) := by rw [wp_s dd_111_47 rfl hs]; rfl
theorem dd_111_48 : decode (mB 111) 48 = .ok (.ireturn, 1) := by decide +kernel
theorem u_111_48 {G : aG} {S : Nat → Bool} {f : Nat} {ls : aL} {h : aH} {k n : Nat} {x : Int32} (hs : S 48 = false) : WP 111 G S (f + 1) 48 ls [.int x] h k n = (cond (x == nI 0 || x == nI 1) (RET G (some (.int x)) h k n) False) := by rw [wp_s dd_111_48 rfl hs]; rfl
theorem dd_111_49 : decode (mB 111) 49 = .ok (.iload_n 1, 1) := by decide +kernel
theorem u_111_49 {G : aG} {S : Nat → Bool} {f : Nat} {st : List Value} {ls : aL} {h : aH} {k n : Nat} (hs : S 49 = false) : WP 111 G S (f + 1) 49 ls st h k n = (oI (lget ls 1) (WP 111 G S f) 50 ls st h k n) := by rw [wp_s dd_111_49 rfl hs]; rfl
theorem dd_111_50 : decode (mB 111) 50 = .ok (.bipush 95, 2) := by decide +kernel
theorem u_111_50 {G : aG} {S : Nat → Bool} {f : Nat} {st : List Value} {ls : aL} {h : aH} {k n : Nat} (hs : S 50 = false) : WP 111 G S (f + 1) 50 ls st h k n = (WP 111 G S f 52 ls (.int (nI 95) :: st) h k n) := by rw [wp_s dd_111_50 rfl hs]; rfl
theorem dd_111_52 : decode (mB 111) 52 = .ok (.if_icmp .eq 17, 3) := by decide +kernel
theorem u_111_52 {G : aG} {S : Nat → Bool} {f : Nat} {st : List Value} {ls : aL} {h : aH} {k n : Nat} {x y : Int32} (hs : S 52 = false) : WP 111 G S (f + 1) 52 ls (.int y :: .int x :: st) h k n = (if x = y then WP 111 G S f 69 ls st h k n else WP 111 G S f 55 ls st h k n) := by rw [wp_s dd_111_52 rfl hs]; exact br_ite (c := x = y)
theorem dd_111_55 : decode (mB 111) 55 = .ok (.iload_n 1, 1) := by decide +kernel
theorem u_111_55 {G : aG} {S : Nat → Bool} {f : Nat} {st : List Value} {ls : aL} {h : aH} {k n : Nat} (hs : S 55 = false) : WP 111 G S (f + 1) 55 ls st h k n = (oI (lget ls 1) (WP 111 G S f) 56 ls st h k n) := by rw [wp_s dd_111_55 rfl hs]; rfl
theorem dd_111_56 : decode (mB 111) 56 = .ok (.i2l, 1) := by decide +kernel
theorem u_111_56 {G : aG} {S : Nat → Bool} {f : Nat} {st : List Value} {ls : aL} {h : aH} {k n : Nat} {x : Int32} (hs : S 56 = false) : WP 111 G S (f + 1) 56 ls (.int x :: st) h k n = (WP 111 G S f 57 ls (.long x.toInt64 :: st) h k n) := by rw [wp_s dd_111_56 rfl hs]; rfl
theorem dd_111_57 : decode (mB 111) 57 = .ok (.ldc2_w 142, 3) := by decide +kernel
theorem u_111_57 {G : aG} {S : Nat → Bool} {f : Nat} {st : List Value} {ls : aL} {h : aH} {k n : Nat} (hs : S 57 = false) : WP 111 G S (f + 1) 57 ls st h k n = (WP 111 G S f 60 ls (.long (lN 97) :: st) h k n) := by rw [wp_s dd_111_57 rfl hs]; rfl
theorem dd_111_60 : decode (mB 111) 60 = .ok (.ldc2_w 144, 3) := by decide +kernel
theorem u_111_60 {G : aG} {S : Nat → Bool} {f : Nat} {st : List Value} {ls : aL} {h : aH} {k n : Nat} (hs : S 60 = false) : WP 111 G S (f + 1) 60 ls st h k n = (WP 111 G S f 63 ls (.long (lN 104) :: st) h k n) := by rw [wp_s dd_111_60 rfl hs]; rfl
theorem dd_111_63 : decode (mB 111) 63 = .ok (.invokestatic 109, 3) := by decide +kernel
theorem u_111_63 {G : aG} {S : Nat → Bool} {f : Nat} {st : List Value} {ls : aL} {h : aH} {k n : Nat} {v1 v2 v3 : Value} (hs : S 63 = false) : WP 111 G S (f + 1) 63 ls (v3 :: v2 :: v1 :: st) h k n = (CAL G (WP 111 G S f) 104 [v1, v2, v3] 66 ls st h k n) := by rw [wp_s dd_111_63 rfl hs]; rfl
theorem dd_111_66 : decode (mB 111) 66 = .ok (.ifCond .eq 12, 3) := by decide +kernel
theorem u_111_66 {G : aG} {S : Nat → Bool} {f : Nat} {st : List Value} {ls : aL} {h : aH} {k n : Nat} {x : Int32} (hs : S 66 = false) : WP 111 G S (f + 1) 66 ls (.int x :: st) h k n = (if x = nI 0 then WP 111 G S f 78 ls st h k n else WP 111 G S f 69 ls st h k n) := by rw [wp_s dd_111_66 rfl hs]; exact br_ite (c := x = nI 0)
theorem dd_111_69 : decode (mB 111) 69 = .ok (.aload_n 0, 1) := by decide +kernel
theorem u_111_69 {G : aG} {S : Nat → Bool} {f : Nat} {st : List Value} {ls : aL} {h : aH} {k n : Nat} (hs : S 69 = false) : WP 111 G S (f + 1) 69 ls st h k n = (oA (lget ls 0) (WP 111 G S f) 70 ls st h k n) := by rw [wp_s dd_111_69 rfl hs]; rfl
theorem dd_111_70 : decode (mB 111) 70 = .ok (.getfield 146, 3) := by decide +kernel
theorem u_111_70 {G : aG} {S : Nat → Bool} {f : Nat} {st : List Value} {ls : aL} {h : aH} {k n : Nat} {a : Nat} (hs : S 70 = false) : WP 111 G S (f + 1) 70 ls (.ref a :: st) h k n = (oV (fget h a 10 23) (WP 111 G S f) 73 ls st h k n) := by rw [wp_s dd_111_70 rfl hs]; rfl
theorem dd_111_73 : decode (mB 111) 73 = .ok (.bipush 16, 2) := by decide +kernel
theorem u_111_73 {G : aG} {S : Nat → Bool} {f : Nat} {st : List Value} {ls : aL} {h : aH} {k n : Nat} (hs : S 73 = false) : WP 111 G S (f + 1) 73 ls st h k n = (WP 111 G S f 75 ls (.int (nI 16) :: st) h k n) := by rw [wp_s dd_111_73 rfl hs]; rfl
theorem dd_111_75 : decode (mB 111) 75 = .ok (.if_icmp .ne 5, 3) := by decide +kernel
theorem u_111_75 {G : aG} {S : Nat → Bool} {f : Nat} {st : List Value} {ls : aL} {h : aH} {k n : Nat} {x y : Int32} (hs : S 75 = false) : WP 111 G S (f + 1) 75 ls (.int y :: .int x :: st) h k n = (if x = y then WP 111 G S f 78 ls st h k n else WP 111 G S f 80 ls st h k n) := by rw [wp_s dd_111_75 rfl hs]; exact br_iten (c := x = y)
theorem dd_111_78 : decode (mB 111) 78 = .ok (.iconst 0, 1) := by decide +kernel
theorem u_111_78 {G : aG} {S : Nat → Bool} {f : Nat} {st : List Value} {ls : aL} {h : aH} {k n : Nat} (hs : S 78 = false) : WP 111 G S (f + 1) 78 ls st h k n = (WP 111 G S f 79 ls (.int (nI 0) :: st) h k n) := by rw [wp_s dd_111_78 rfl hs]; rfl
theorem dd_111_79 : decode (mB 111) 79 = .ok (.ireturn, 1) := by decide +kernel
theorem u_111_79 {G : aG} {S : Nat → Bool} {f : Nat} {ls : aL} {h : aH} {k n : Nat} {x : Int32} (hs : S 79 = false) : WP 111 G S (f + 1) 79 ls [.int x] h k n = (cond (x == nI 0 || x == nI 1) (RET G (some (.int x)) h k n) False) := by rw [wp_s dd_111_79 rfl hs]; rfl
theorem dd_111_80 : decode (mB 111) 80 = .ok (.aload_n 0, 1) := by decide +kernel
theorem u_111_80 {G : aG} {S : Nat → Bool} {f : Nat} {st : List Value} {ls : aL} {h : aH} {k n : Nat} (hs : S 80 = false) : WP 111 G S (f + 1) 80 ls st h k n = (oA (lget ls 0) (WP 111 G S f) 81 ls st h k n) := by rw [wp_s dd_111_80 rfl hs]; rfl
theorem dd_111_81 : decode (mB 111) 81 = .ok (.dup, 1) := by decide +kernel
theorem u_111_81 {G : aG} {S : Nat → Bool} {f : Nat} {st : List Value} {ls : aL} {h : aH} {k n : Nat} {v : Value} (hs : S 81 = false) : WP 111 G S (f + 1) 81 ls (v :: st) h k n = (cond (cat1 v) (WP 111 G S f 82 ls (v :: v :: st) h k n) False) := by rw [wp_s dd_111_81 rfl hs]; rfl
theorem dd_111_82 : decode (mB 111) 82 = .ok (.getfield 146, 3) := by decide +kernel
theorem u_111_82 {G : aG} {S : Nat → Bool} {f : Nat} {st : List Value} {ls : aL} {h : aH} {k n : Nat} {a : Nat} (hs : S 82 = false) : WP 111 G S (f + 1) 82 ls (.ref a :: st) h k n = (oV (fget h a 10 23) (WP 111 G S f) 85 ls st h k n) := by rw [wp_s dd_111_82 rfl hs]; rfl
theorem dd_111_85 : decode (mB 111) 85 = .ok (.iconst 1, 1) := by decide +kernel
theorem u_111_85 {G : aG} {S : Nat → Bool} {f : Nat} {st : List Value} {ls : aL} {h : aH} {k n : Nat} (hs : S 85 = false) : WP 111 G S (f + 1) 85 ls st h k n = (WP 111 G S f 86 ls (.int (nI 1) :: st) h k n) := by rw [wp_s dd_111_85 rfl hs]; rfl
theorem dd_111_86 : decode (mB 111) 86 = .ok (.iadd, 1) := by decide +kernel
theorem u_111_86 {G : aG} {S : Nat → Bool} {f : Nat} {st : List Value} {ls : aL} {h : aH} {k n : Nat} {x y : Int32} (hs : S 86 = false) : WP 111 G S (f + 1) 86 ls (.int y :: .int x :: st) h k n = (WP 111 G S f 87 ls (.int (x + y) :: st) h k n) := by rw [wp_s dd_111_86 rfl hs]; rfl
theorem dd_111_87 : decode (mB 111) 87 = .ok (.putfield 146, 3) := by decide +kernel
theorem u_111_87 {G : aG} {S : Nat → Bool} {f : Nat} {st : List Value} {ls : aL} {h : aH} {k n : Nat} {a : Nat} {x : Int32} (hs : S 87 = false) : WP 111 G S (f + 1) 87 ls (.int x :: .ref a :: st) h k n = (oH (fput h a 10 23 (.int x)) (WP 111 G S f) 90 ls st k n) := by rw [wp_s dd_111_87 rfl hs]; rfl
theorem dd_111_90 : decode (mB 111) 90 = .ok (.aload_n 0, 1) := by decide +kernel
theorem u_111_90 {G : aG} {S : Nat → Bool} {f : Nat} {st : List Value} {ls : aL} {h : aH} {k n : Nat} (hs : S 90 = false) : WP 111 G S (f + 1) 90 ls st h k n = (oA (lget ls 0) (WP 111 G S f) 91 ls st h k n) := by rw [wp_s dd_111_90 rfl hs]; rfl
theorem dd_111_91 : decode (mB 111) 91 = .ok (.iload_n 1, 1) := by decide +kernel
theorem u_111_91 {G : aG} {S : Nat → Bool} {f : Nat} {st : List Value} {ls : aL} {h : aH} {k n : Nat} (hs : S 91 = false) : WP 111 G S (f + 1) 91 ls st h k n = (oI (lget ls 1) (WP 111 G S f) 92 ls st h k n) := by rw [wp_s dd_111_91 rfl hs]; rfl
theorem dd_111_92 : decode (mB 111) 92 = .ok (.bipush 95, 2) := by decide +kernel
theorem u_111_92 {G : aG} {S : Nat → Bool} {f : Nat} {st : List Value} {ls : aL} {h : aH} {k n : Nat} (hs : S 92 = false) : WP 111 G S (f + 1) 92 ls st h k n = (WP 111 G S f 94 ls (.int (nI 95) :: st) h k n) := by rw [wp_s dd_111_92 rfl hs]; rfl
theorem dd_111_94 : decode (mB 111) 94 = .ok (.if_icmp .ne 7, 3) := by decide +kernel
theorem u_111_94 {G : aG} {S : Nat → Bool} {f : Nat} {st : List Value} {ls : aL} {h : aH} {k n : Nat} {x y : Int32} (hs : S 94 = false) : WP 111 G S (f + 1) 94 ls (.int y :: .int x :: st) h k n = (if x = y then WP 111 G S f 97 ls st h k n else WP 111 G S f 101 ls st h k n) := by rw [wp_s dd_111_94 rfl hs]; exact br_iten (c := x = y)
theorem dd_111_97 : decode (mB 111) 97 = .ok (.iconst 0, 1) := by decide +kernel
theorem u_111_97 {G : aG} {S : Nat → Bool} {f : Nat} {st : List Value} {ls : aL} {h : aH} {k n : Nat} (hs : S 97 = false) : WP 111 G S (f + 1) 97 ls st h k n = (WP 111 G S f 98 ls (.int (nI 0) :: st) h k n) := by rw [wp_s dd_111_97 rfl hs]; rfl
theorem dd_111_98 : decode (mB 111) 98 = .ok (.goto 9, 3) := by decide +kernel
theorem u_111_98 {G : aG} {S : Nat → Bool} {f : Nat} {st : List Value} {ls : aL} {h : aH} {k n : Nat} (hs : S 98 = false) : WP 111 G S (f + 1) 98 ls st h k n = (WP 111 G S f 107 ls st h k n) := by rw [wp_s dd_111_98 rfl hs]; rfl
theorem dd_111_101 : decode (mB 111) 101 = .ok (.iload_n 1, 1) := by decide +kernel
theorem u_111_101 {G : aG} {S : Nat → Bool} {f : Nat} {st : List Value} {ls : aL} {h : aH} {k n : Nat} (hs : S 101 = false) : WP 111 G S (f + 1) 101 ls st h k n = (oI (lget ls 1) (WP 111 G S f) 102 ls st h k n) := by rw [wp_s dd_111_101 rfl hs]; rfl
theorem dd_111_102 : decode (mB 111) 102 = .ok (.bipush 97, 2) := by decide +kernel
theorem u_111_102 {G : aG} {S : Nat → Bool} {f : Nat} {st : List Value} {ls : aL} {h : aH} {k n : Nat} (hs : S 102 = false) : WP 111 G S (f + 1) 102 ls st h k n = (WP 111 G S f 104 ls (.int (nI 97) :: st) h k n) := by rw [wp_s dd_111_102 rfl hs]; rfl
theorem dd_111_104 : decode (mB 111) 104 = .ok (.isub, 1) := by decide +kernel
theorem u_111_104 {G : aG} {S : Nat → Bool} {f : Nat} {st : List Value} {ls : aL} {h : aH} {k n : Nat} {x y : Int32} (hs : S 104 = false) : WP 111 G S (f + 1) 104 ls (.int y :: .int x :: st) h k n = (WP 111 G S f 105 ls (.int (x - y) :: st) h k n) := by rw [wp_s dd_111_104 rfl hs]; rfl
theorem dd_111_105 : decode (mB 111) 105 = .ok (.iconst 1, 1) := by decide +kernel
theorem u_111_105 {G : aG} {S : Nat → Bool} {f : Nat} {st : List Value} {ls : aL} {h : aH} {k n : Nat} (hs : S 105 = false) : WP 111 G S (f + 1) 105 ls st h k n = (WP 111 G S f 106 ls (.int (nI 1) :: st) h k n) := by rw [wp_s dd_111_105 rfl hs]; rfl
theorem dd_111_106 : decode (mB 111) 106 = .ok (.iadd, 1) := by decide +kernel
theorem u_111_106 {G : aG} {S : Nat → Bool} {f : Nat} {st : List Value} {ls : aL} {h : aH} {k n : Nat} {x y : Int32} (hs : S 106 = false) : WP 111 G S (f + 1) 106 ls (.int y :: .int x :: st) h k n = (WP 111 G S f 107 ls (.int (x + y) :: st) h k n) := by rw [wp_s dd_111_106 rfl hs]; rfl
theorem dd_111_107 : decode (mB 111) 107 = .ok (.iconst (-1), 1) := by decide +kernel
theorem u_111_107 {G : aG} {S : Nat → Bool} {f : Nat} {st : List Value} {ls : aL} {h : aH} {k n : Nat} (hs : S 107 = false) : WP 111 G S (f + 1) 107 ls st h k n = (WP 111 G S f 108 ls (.int (-1) :: st) h k n) := by rw [wp_s dd_111_107 rfl hs]; rfl
theorem dd_111_108 : decode (mB 111) 108 = .ok (.iconst (-1), 1) := by decide +kernel
theorem u_111_108 {G : aG} {S : Nat → Bool} {f : Nat} {st : List Value} {ls : aL} {h : aH} {k n : Nat} (hs : S 108 = false) : WP 111 G S (f + 1) 108 ls st h k n = (WP 111 G S f 109 ls (.int (-1) :: st) h k n) := by rw [wp_s dd_111_108 rfl hs]; rfl
theorem dd_111_109 : decode (mB 111) 109 = .ok (.invokevirtual 136, 3) := by decide +kernel
theorem u_111_109 {G : aG} {S : Nat → Bool} {f : Nat} {st : List Value} {ls : aL} {h : aH} {k n : Nat} {v1 v2 v3 : Value} {b : Nat} (hs : S 109 = false) : WP 111 G S (f + 1) 109 ls (v3 :: v2 :: v1 :: .ref b :: st) h k n = (rcv (hget h b) 10 ∧ CAL G (WP 111 G S f) 112 [.ref b, v1, v2, v3] 112 ls st h k n) := by rw [wp_s dd_111_109 rfl hs]; rfl
theorem dd_111_112 : decode (mB 111) 112 = .ok (.iconst 1, 1) := by decide +kernel
theorem u_111_112 {G : aG} {S : Nat → Bool} {f : Nat} {st : List Value} {ls : aL} {h : aH} {k n : Nat} (hs : S 112 = false) : WP 111 G S (f + 1) 112 ls st h k n = (WP 111 G S f 113 ls (.int (nI 1) :: st) h k n) := by rw [wp_s dd_111_112 rfl hs]; rfl
theorem dd_111_113 : decode (mB 111) 113 = .ok (.ireturn, 1) := by decide +kernel
theorem u_111_113 {G : aG} {S : Nat → Bool} {f : Nat} {ls : aL} {h : aH} {k n : Nat} {x : Int32} (hs : S 113 = false) : WP 111 G S (f + 1) 113 ls [.int x] h k n = (cond (x == nI 0 || x == nI 1) (RET G (some (.int x)) h k n) False) := by rw [wp_s dd_111_113 rfl hs]; rfl
theorem dd_112_0 : decode (mB 112) 0 = .ok (.aload_n 0, 1) := by decide +kernel
theorem u_112_0 {G : aG} {S : Nat → Bool} {f : Nat} {st : List Value} {ls : aL} {h : aH} {k n : Nat} (hs : S 0 = false) : WP 112 G S (f + 1) 0 ls st h k n = (oA (lget ls 0) (WP 112 G S f) 1 ls st h k n) := by rw [wp_s dd_112_0 rfl hs]; rfl
theorem dd_112_1 : decode (mB 112) 1 = .ok (.getfield 52, 3) := by decide +kernel
theorem u_112_1 {G : aG} {S : Nat → Bool} {f : Nat} {st : List Value} {ls : aL} {h : aH} {k n : Nat} {a : Nat} (hs : S 1 = false) : WP 112 G S (f + 1) 1 ls (.ref a :: st) h k n = (oV (fget h a 10 18) (WP 112 G S f) 4 ls st h k n) := by rw [wp_s dd_112_1 rfl hs]; rfl
theorem dd_112_4 : decode (mB 112) 4 = .ok (.iconst 0, 1) := by decide +kernel
theorem u_112_4 {G : aG} {S : Nat → Bool} {f : Nat} {st : List Value} {ls : aL} {h : aH} {k n : Nat} (hs : S 4 = false) : WP 112 G S (f + 1) 4 ls st h k n = (WP 112 G S f 5 ls (.int (nI 0) :: st) h k n) := by rw [wp_s dd_112_4 rfl hs]; rfl
theorem dd_112_5 : decode (mB 112) 5 = .ok (.iaload, 1) := by decide +kernel
theorem u_112_5 {G : aG} {S : Nat → Bool} {f : Nat} {st : List Value} {ls : aL} {h : aH} {k n : Nat} {i : Int32} {a : Nat} (hs : S 5 = false) : WP 112 G S (f + 1) 5 ls (.int i :: .ref a :: st) h k n = (oIld (iget h a 1) i (WP 112 G S f) 6 ls st h k n) := by rw [wp_s dd_112_5 rfl hs]; rfl
theorem dd_112_6 : decode (mB 112) 6 = .ok (.istore 4, 2) := by decide +kernel
theorem u_112_6 {G : aG} {S : Nat → Bool} {f : Nat} {st : List Value} {ls : aL} {h : aH} {k n : Nat} {x : Int32} (hs : S 6 = false) : WP 112 G S (f + 1) 6 ls (.int x :: st) h k n = (WP 112 G S f 8 (lput1 ls 4 (.int x)) st h k n) := by rw [wp_s dd_112_6 rfl hs]; rfl
theorem dd_112_8 : decode (mB 112) 8 = .ok (.aload_n 0, 1) := by decide +kernel
theorem u_112_8 {G : aG} {S : Nat → Bool} {f : Nat} {st : List Value} {ls : aL} {h : aH} {k n : Nat} (hs : S 8 = false) : WP 112 G S (f + 1) 8 ls st h k n = (oA (lget ls 0) (WP 112 G S f) 9 ls st h k n) := by rw [wp_s dd_112_8 rfl hs]; rfl
theorem dd_112_9 : decode (mB 112) 9 = .ok (.getfield 52, 3) := by decide +kernel
theorem u_112_9 {G : aG} {S : Nat → Bool} {f : Nat} {st : List Value} {ls : aL} {h : aH} {k n : Nat} {a : Nat} (hs : S 9 = false) : WP 112 G S (f + 1) 9 ls (.ref a :: st) h k n = (oV (fget h a 10 18) (WP 112 G S f) 12 ls st h k n) := by rw [wp_s dd_112_9 rfl hs]; rfl
theorem dd_112_12 : decode (mB 112) 12 = .ok (.iconst 1, 1) := by decide +kernel
theorem u_112_12 {G : aG} {S : Nat → Bool} {f : Nat} {st : List Value} {ls : aL} {h : aH} {k n : Nat} (hs : S 12 = false) : WP 112 G S (f + 1) 12 ls st h k n = (WP 112 G S f 13 ls (.int (nI 1) :: st) h k n) := by rw [wp_s dd_112_12 rfl hs]; rfl
theorem dd_112_13 : decode (mB 112) 13 = .ok (.iconst 3, 1) := by decide +kernel
theorem u_112_13 {G : aG} {S : Nat → Bool} {f : Nat} {st : List Value} {ls : aL} {h : aH} {k n : Nat} (hs : S 13 = false) : WP 112 G S (f + 1) 13 ls st h k n = (WP 112 G S f 14 ls (.int (nI 3) :: st) h k n) := by rw [wp_s dd_112_13 rfl hs]; rfl
theorem dd_112_14 : decode (mB 112) 14 = .ok (.iload 4, 2) := by decide +kernel
theorem u_112_14 {G : aG} {S : Nat → Bool} {f : Nat} {st : List Value} {ls : aL} {h : aH} {k n : Nat} (hs : S 14 = false) : WP 112 G S (f + 1) 14 ls st h k n = (oI (lget ls 4) (WP 112 G S f) 16 ls st h k n) := by rw [wp_s dd_112_14 rfl hs]; rfl
theorem dd_112_16 : decode (mB 112) 16 = .ok (.imul, 1) := by decide +kernel
theorem u_112_16 {G : aG} {S : Nat → Bool} {f : Nat} {st : List Value} {ls : aL} {h : aH} {k n : Nat} {x y : Int32} (hs : S 16 = false) : WP 112 G S (f + 1) 16 ls (.int y :: .int x :: st) h k n = (WP 112 G S f 17 ls (.int (x * y) :: st) h k n) := by rw [wp_s dd_112_16 rfl hs]; rfl
theorem dd_112_17 : decode (mB 112) 17 = .ok (.iadd, 1) := by decide +kernel
theorem u_112_17 {G : aG} {S : Nat → Bool} {f : Nat} {st : List Value} {ls : aL} {h : aH} {k n : Nat} {x y : Int32} (hs : S 17 = false) : WP 112 G S (f + 1) 17 ls (.int y :: .int x :: st) h k n = (WP 112 G S f 18 ls (.int (x + y) :: st) h k n) := by rw [wp_s dd_112_17 rfl hs]; rfl
theorem dd_112_18 : decode (mB 112) 18 = .ok (.iload_n 1, 1) := by decide +kernel
theorem u_112_18 {G : aG} {S : Nat → Bool} {f : Nat} {st : List Value} {ls : aL} {h : aH} {k n : Nat} (hs : S 18 = false) : WP 112 G S (f + 1) 18 ls st h k n = (oI (lget ls 1) (WP 112 G S f) 19 ls st h k n) := by rw [wp_s dd_112_18 rfl hs]; rfl
theorem dd_112_19 : decode (mB 112) 19 = .ok (.iastore, 1) := by decide +kernel
theorem u_112_19 {G : aG} {S : Nat → Bool} {f : Nat} {st : List Value} {ls : aL} {h : aH} {k n : Nat} {i x : Int32} {a : Nat} (hs : S 19 = false) : WP 112 G S (f + 1) 19 ls (.int x :: .int i :: .ref a :: st) h k n = (oIst (iget h a 1) a i x (WP 112 G S f) 20 ls st h k n) := by rw [wp_s dd_112_19 rfl hs]; rfl
theorem dd_112_20 : decode (mB 112) 20 = .ok (.aload_n 0, 1) := by decide +kernel
theorem u_112_20 {G : aG} {S : Nat → Bool} {f : Nat} {st : List Value} {ls : aL} {h : aH} {k n : Nat} (hs : S 20 = false) : WP 112 G S (f + 1) 20 ls st h k n = (oA (lget ls 0) (WP 112 G S f) 21 ls st h k n) := by rw [wp_s dd_112_20 rfl hs]; rfl
theorem dd_112_21 : decode (mB 112) 21 = .ok (.getfield 52, 3) := by decide +kernel
theorem u_112_21 {G : aG} {S : Nat → Bool} {f : Nat} {st : List Value} {ls : aL} {h : aH} {k n : Nat} {a : Nat} (hs : S 21 = false) : WP 112 G S (f + 1) 21 ls (.ref a :: st) h k n = (oV (fget h a 10 18) (WP 112 G S f) 24 ls st h k n) := by rw [wp_s dd_112_21 rfl hs]; rfl
theorem dd_112_24 : decode (mB 112) 24 = .ok (.iconst 2, 1) := by decide +kernel
theorem u_112_24 {G : aG} {S : Nat → Bool} {f : Nat} {st : List Value} {ls : aL} {h : aH} {k n : Nat} (hs : S 24 = false) : WP 112 G S (f + 1) 24 ls st h k n = (WP 112 G S f 25 ls (.int (nI 2) :: st) h k n) := by rw [wp_s dd_112_24 rfl hs]; rfl
theorem dd_112_25 : decode (mB 112) 25 = .ok (.iconst 3, 1) := by decide +kernel
theorem u_112_25 {G : aG} {S : Nat → Bool} {f : Nat} {st : List Value} {ls : aL} {h : aH} {k n : Nat} (hs : S 25 = false) : WP 112 G S (f + 1) 25 ls st h k n = (WP 112 G S f 26 ls (.int (nI 3) :: st) h k n) := by rw [wp_s dd_112_25 rfl hs]; rfl
theorem dd_112_26 : decode (mB 112) 26 = .ok (.iload 4, 2) := by decide +kernel
theorem u_112_26 {G : aG} {S : Nat → Bool} {f : Nat} {st : List Value} {ls : aL} {h : aH} {k n : Nat} (hs : S 26 = false) : WP 112 G S (f + 1) 26 ls st h k n = (oI (lget ls 4) (WP 112 G S f) 28 ls st h k n) := by rw [wp_s dd_112_26 rfl hs]; rfl
theorem dd_112_28 : decode (mB 112) 28 = .ok (.imul, 1) := by decide +kernel
theorem u_112_28 {G : aG} {S : Nat → Bool} {f : Nat} {st : List Value} {ls : aL} {h : aH} {k n : Nat} {x y : Int32} (hs : S 28 = false) : WP 112 G S (f + 1) 28 ls (.int y :: .int x :: st) h k n = (WP 112 G S f 29 ls (.int (x * y) :: st) h k n) := by rw [wp_s dd_112_28 rfl hs]; rfl
theorem dd_112_29 : decode (mB 112) 29 = .ok (.iadd, 1) := by decide +kernel
theorem u_112_29 {G : aG} {S : Nat → Bool} {f : Nat} {st : List Value} {ls : aL} {h : aH} {k n : Nat} {x y : Int32} (hs : S 29 = false) : WP 112 G S (f + 1) 29 ls (.int y :: .int x :: st) h k n = (WP 112 G S f 30 ls (.int (x + y) :: st) h k n) := by rw [wp_s dd_112_29 rfl hs]; rfl
theorem dd_112_30 : decode (mB 112) 30 = .ok (.iload_n 2, 1) := by decide +kernel
theorem u_112_30 {G : aG} {S : Nat → Bool} {f : Nat} {st : List Value} {ls : aL} {h : aH} {k n : Nat} (hs : S 30 = false) : WP 112 G S (f + 1) 30 ls st h k n = (oI (lget ls 2) (WP 112 G S f) 31 ls st h k n) := by rw [wp_s dd_112_30 rfl hs]; rfl
theorem dd_112_31 : decode (mB 112) 31 = .ok (.iastore, 1) := by decide +kernel
theorem u_112_31 {G : aG} {S : Nat → Bool} {f : Nat} {st : List Value} {ls : aL} {h : aH} {k n : Nat} {i x : Int32} {a : Nat} (hs : S 31 = false) : WP 112 G S (f + 1) 31 ls (.int x :: .int i :: .ref a :: st) h k n = (oIst (iget h a 1) a i x (WP 112 G S f) 32 ls st h k n) := by rw [wp_s dd_112_31 rfl hs]; rfl
theorem dd_112_32 : decode (mB 112) 32 = .ok (.aload_n 0, 1) := by decide +kernel
theorem u_112_32 {G : aG} {S : Nat → Bool} {f : Nat} {st : List Value} {ls : aL} {h : aH} {k n : Nat} (hs : S 32 = false) : WP 112 G S (f + 1) 32 ls st h k n = (oA (lget ls 0) (WP 112 G S f) 33 ls st h k n) := by rw [wp_s dd_112_32 rfl hs]; rfl
theorem dd_112_33 : decode (mB 112) 33 = .ok (.getfield 52, 3) := by decide +kernel
theorem u_112_33 {G : aG} {S : Nat → Bool} {f : Nat} {st : List Value} {ls : aL} {h : aH} {k n : Nat} {a : Nat} (hs : S 33 = false) : WP 112 G S (f + 1) 33 ls (.ref a :: st) h k n = (oV (fget h a 10 18) (WP 112 G S f) 36 ls st h k n) := by rw [wp_s dd_112_33 rfl hs]; rfl
theorem dd_112_36 : decode (mB 112) 36 = .ok (.iconst 3, 1) := by decide +kernel
theorem u_112_36 {G : aG} {S : Nat → Bool} {f : Nat} {st : List Value} {ls : aL} {h : aH} {k n : Nat} (hs : S 36 = false) : WP 112 G S (f + 1) 36 ls st h k n = (WP 112 G S f 37 ls (.int (nI 3) :: st) h k n) := by rw [wp_s dd_112_36 rfl hs]; rfl
theorem dd_112_37 : decode (mB 112) 37 = .ok (.iconst 3, 1) := by decide +kernel
theorem u_112_37 {G : aG} {S : Nat → Bool} {f : Nat} {st : List Value} {ls : aL} {h : aH} {k n : Nat} (hs : S 37 = false) : WP 112 G S (f + 1) 37 ls st h k n = (WP 112 G S f 38 ls (.int (nI 3) :: st) h k n) := by rw [wp_s dd_112_37 rfl hs]; rfl
theorem dd_112_38 : decode (mB 112) 38 = .ok (.iload 4, 2) := by decide +kernel
theorem u_112_38 {G : aG} {S : Nat → Bool} {f : Nat} {st : List Value} {ls : aL} {h : aH} {k n : Nat} (hs : S 38 = false) : WP 112 G S (f + 1) 38 ls st h k n = (oI (lget ls 4) (WP 112 G S f) 40 ls st h k n) := by rw [wp_s dd_112_38 rfl hs]; rfl
theorem dd_112_40 : decode (mB 112) 40 = .ok (.imul, 1) := by decide +kernel
theorem u_112_40 {G : aG} {S : Nat → Bool} {f : Nat} {st : List Value} {ls : aL} {h : aH} {k n : Nat} {x y : Int32} (hs : S 40 = false) : WP 112 G S (f + 1) 40 ls (.int y :: .int x :: st) h k n = (WP 112 G S f 41 ls (.int (x * y) :: st) h k n) := by rw [wp_s dd_112_40 rfl hs]; rfl
theorem dd_112_41 : decode (mB 112) 41 = .ok (.iadd, 1) := by decide +kernel
theorem u_112_41 {G : aG} {S : Nat → Bool} {f : Nat} {st : List Value} {ls : aL} {h : aH} {k n : Nat} {x y : Int32} (hs : S 41 = false) : WP 112 G S (f + 1) 41 ls (.int y :: .int x :: st) h k n = (WP 112 G S f 42 ls (.int (x + y) :: st) h k n) := by rw [wp_s dd_112_41 rfl hs]; rfl
theorem dd_112_42 : decode (mB 112) 42 = .ok (.iload_n 3, 1) := by decide +kernel
theorem u_112_42 {G : aG} {S : Nat → Bool} {f : Nat} {st : List Value} {ls : aL} {h : aH} {k n : Nat} (hs : S 42 = false) : WP 112 G S (f + 1) 42 ls st h k n = (oI (lget ls 3) (WP 112 G S f) 43 ls st h k n) := by rw [wp_s dd_112_42 rfl hs]; rfl
theorem dd_112_43 : decode (mB 112) 43 = .ok (.iastore, 1) := by decide +kernel
theorem u_112_43 {G : aG} {S : Nat → Bool} {f : Nat} {st : List Value} {ls : aL} {h : aH} {k n : Nat} {i x : Int32} {a : Nat} (hs : S 43 = false) : WP 112 G S (f + 1) 43 ls (.int x :: .int i :: .ref a :: st) h k n = (oIst (iget h a 1) a i x (WP 112 G S f) 44 ls st h k n) := by rw [wp_s dd_112_43 rfl hs]; rfl
theorem dd_112_44 : decode (mB 112) 44 = .ok (.aload_n 0, 1) := by decide +kernel
theorem u_112_44 {G : aG} {S : Nat → Bool} {f : Nat} {st : List Value} {ls : aL} {h : aH} {k n : Nat} (hs : S 44 = false) : WP 112 G S (f + 1) 44 ls st h k n = (oA (lget ls 0) (WP 112 G S f) 45 ls st h k n) := by rw [wp_s dd_112_44 rfl hs]; rfl
theorem dd_112_45 : decode (mB 112) 45 = .ok (.getfield 52, 3) := by decide +kernel
theorem u_112_45 {G : aG} {S : Nat → Bool} {f : Nat} {st : List Value} {ls : aL} {h : aH} {k n : Nat} {a : Nat} (hs : S 45 = false) : WP 112 G S (f + 1) 45 ls (.ref a :: st) h k n = (oV (fget h a 10 18) (WP 112 G S f) 48 ls st h k n) := by rw [wp_s dd_112_45 rfl hs]; rfl
theorem dd_112_48 : decode (mB 112) 48 = .ok (.iconst 0, 1) := by decide +kernel
theorem u_112_48 {G : aG} {S : Nat → Bool} {f : Nat} {st : List Value} {ls : aL} {h : aH} {k n : Nat} (hs : S 48 = false) : WP 112 G S (f + 1) 48 ls st h k n = (WP 112 G S f 49 ls (.int (nI 0) :: st) h k n) := by rw [wp_s dd_112_48 rfl hs]; rfl
theorem dd_112_49 : decode (mB 112) 49 = .ok (.dup2, 1) := by decide +kernel
theorem u_112_49 {G : aG} {S : Nat → Bool} {f : Nat} {st : List Value} {ls : aL} {h : aH} {k n : Nat} {v v2 : Value} (hs : S 49 = false) : WP 112 G S (f + 1) 49 ls (v :: v2 :: st) h k n = (cond (cat1 v && cat1 v2) (WP 112 G S f 50 ls (v :: v2 :: v :: v2 :: st) h k n) False) := by rw [wp_s dd_112_49 rfl hs]; rfl
theorem dd_112_50 : decode (mB 112) 50 = .ok (.iaload, 1) := by decide +kernel
theorem u_112_50 {G : aG} {S : Nat → Bool} {f : Nat} {st : List Value} {ls : aL} {h : aH} {k n : Nat} {i : Int32} {a : Nat} (hs : S 50 = false) : WP 112 G S (f + 1) 50 ls (.int i :: .ref a :: st) h k n = (oIld (iget h a 1) i (WP 112 G S f) 51 ls st h k n) := by rw [wp_s dd_112_50 rfl hs]; rfl
theorem dd_112_51 : decode (mB 112) 51 = .ok (.iconst 1, 1) := by decide +kernel
theorem u_112_51 {G : aG} {S : Nat → Bool} {f : Nat} {st : List Value} {ls : aL} {h : aH} {k n : Nat} (hs : S 51 = false) : WP 112 G S (f + 1) 51 ls st h k n = (WP 112 G S f 52 ls (.int (nI 1) :: st) h k n) := by rw [wp_s dd_112_51 rfl hs]; rfl
theorem dd_112_52 : decode (mB 112) 52 = .ok (.iadd, 1) := by decide +kernel
theorem u_112_52 {G : aG} {S : Nat → Bool} {f : Nat} {st : List Value} {ls : aL} {h : aH} {k n : Nat} {x y : Int32} (hs : S 52 = false) : WP 112 G S (f + 1) 52 ls (.int y :: .int x :: st) h k n = (WP 112 G S f 53 ls (.int (x + y) :: st) h k n) := by rw [wp_s dd_112_52 rfl hs]; rfl
theorem dd_112_53 : decode (mB 112) 53 = .ok (.iastore, 1) := by decide +kernel
theorem u_112_53 {G : aG} {S : Nat → Bool} {f : Nat} {st : List Value} {ls : aL} {h : aH} {k n : Nat} {i x : Int32} {a : Nat} (hs : S 53 = false) : WP 112 G S (f + 1) 53 ls (.int x :: .int i :: .ref a :: st) h k n = (oIst (iget h a 1) a i x (WP 112 G S f) 54 ls st h k n) := by rw [wp_s dd_112_53 rfl hs]; rfl
theorem dd_112_54 : decode (mB 112) 54 = .ok (.aload_n 0, 1) := by decide +kernel
theorem u_112_54 {G : aG} {S : Nat → Bool} {f : Nat} {st : List Value} {ls : aL} {h : aH} {k n : Nat} (hs : S 54 = false) : WP 112 G S (f + 1) 54 ls st h k n = (oA (lget ls 0) (WP 112 G S f) 55 ls st h k n) := by rw [wp_s dd_112_54 rfl hs]; rfl
theorem dd_112_55 : decode (mB 112) 55 = .ok (.getfield 55, 3) := by decide +kernel
theorem u_112_55 {G : aG} {S : Nat → Bool} {f : Nat} {st : List Value} {ls : aL} {h : aH} {k n : Nat} {a : Nat} (hs : S 55 = false) : WP 112 G S (f + 1) 55 ls (.ref a :: st) h k n = (oV (fget h a 10 19) (WP 112 G S f) 58 ls st h k n) := by rw [wp_s dd_112_55 rfl hs]; rfl
theorem dd_112_58 : decode (mB 112) 58 = .ok (.aload_n 0, 1) := by decide +kernel
theorem u_112_58 {G : aG} {S : Nat → Bool} {f : Nat} {st : List Value} {ls : aL} {h : aH} {k n : Nat} (hs : S 58 = false) : WP 112 G S (f + 1) 58 ls st h k n = (oA (lget ls 0) (WP 112 G S f) 59 ls st h k n) := by rw [wp_s dd_112_58 rfl hs]; rfl
theorem dd_112_59 : decode (mB 112) 59 = .ok (.getfield 123, 3) := by decide +kernel
theorem u_112_59 {G : aG} {S : Nat → Bool} {f : Nat} {st : List Value} {ls : aL} {h : aH} {k n : Nat} {a : Nat} (hs : S 59 = false) : WP 112 G S (f + 1) 59 ls (.ref a :: st) h k n = (oV (fget h a 10 20) (WP 112 G S f) 62 ls st h k n) := by rw [wp_s dd_112_59 rfl hs]; rfl
theorem dd_112_62 : decode (mB 112) 62 = .ok (.iload 4, 2) := by decide +kernel
theorem u_112_62 {G : aG} {S : Nat → Bool} {f : Nat} {st : List Value} {ls : aL} {h : aH} {k n : Nat} (hs : S 62 = false) : WP 112 G S (f + 1) 62 ls st h k n = (oI (lget ls 4) (WP 112 G S f) 64 ls st h k n) := by rw [wp_s dd_112_62 rfl hs]; rfl
theorem dd_112_64 : decode (mB 112) 64 = .ok (.iastore, 1) := by decide +kernel
theorem u_112_64 {G : aG} {S : Nat → Bool} {f : Nat} {st : List Value} {ls : aL} {h : aH} {k n : Nat} {i x : Int32} {a : Nat} (hs : S 64 = false) : WP 112 G S (f + 1) 64 ls (.int x :: .int i :: .ref a :: st) h k n = (oIst (iget h a 1) a i x (WP 112 G S f) 65 ls st h k n) := by rw [wp_s dd_112_64 rfl hs]; rfl
theorem dd_112_65 : decode (mB 112) 65 = .ok (.aload_n 0, 1) := by decide +kernel
theorem u_112_65 {G : aG} {S : Nat → Bool} {f : Nat} {st : List Value} {ls : aL} {h : aH} {k n : Nat} (hs : S 65 = false) : WP 112 G S (f + 1) 65 ls st h k n = (oA (lget ls 0) (WP 112 G S f) 66 ls st h k n) := by rw [wp_s dd_112_65 rfl hs]; rfl
theorem dd_112_66 : decode (mB 112) 66 = .ok (.dup, 1) := by decide +kernel
theorem u_112_66 {G : aG} {S : Nat → Bool} {f : Nat} {st : List Value} {ls : aL} {h : aH} {k n : Nat} {v : Value} (hs : S 66 = false) : WP 112 G S (f + 1) 66 ls (v :: st) h k n = (cond (cat1 v) (WP 112 G S f 67 ls (v :: v :: st) h k n) False) := by rw [wp_s dd_112_66 rfl hs]; rfl
theorem dd_112_67 : decode (mB 112) 67 = .ok (.getfield 123, 3) := by decide +kernel
theorem u_112_67 {G : aG} {S : Nat → Bool} {f : Nat} {st : List Value} {ls : aL} {h : aH} {k n : Nat} {a : Nat} (hs : S 67 = false) : WP 112 G S (f + 1) 67 ls (.ref a :: st) h k n = (oV (fget h a 10 20) (WP 112 G S f) 70 ls st h k n) := by rw [wp_s dd_112_67 rfl hs]; rfl
theorem dd_112_70 : decode (mB 112) 70 = .ok (.iconst 1, 1) := by decide +kernel
theorem u_112_70 {G : aG} {S : Nat → Bool} {f : Nat} {st : List Value} {ls : aL} {h : aH} {k n : Nat} (hs : S 70 = false) : WP 112 G S (f + 1) 70 ls st h k n = (WP 112 G S f 71 ls (.int (nI 1) :: st) h k n) := by rw [wp_s dd_112_70 rfl hs]; rfl
theorem dd_112_71 : decode (mB 112) 71 = .ok (.iadd, 1) := by decide +kernel
theorem u_112_71 {G : aG} {S : Nat → Bool} {f : Nat} {st : List Value} {ls : aL} {h : aH} {k n : Nat} {x y : Int32} (hs : S 71 = false) : WP 112 G S (f + 1) 71 ls (.int y :: .int x :: st) h k n = (WP 112 G S f 72 ls (.int (x + y) :: st) h k n) := by rw [wp_s dd_112_71 rfl hs]; rfl
theorem dd_112_72 : decode (mB 112) 72 = .ok (.putfield 123, 3) := by decide +kernel
theorem u_112_72 {G : aG} {S : Nat → Bool} {f : Nat} {st : List Value} {ls : aL} {h : aH} {k n : Nat} {a : Nat} {x : Int32} (hs : S 72 = false) : WP 112 G S (f + 1) 72 ls (.int x :: .ref a :: st) h k n = (oH (fput h a 10 20 (.int x)) (WP 112 G S f) 75 ls st k n) := by rw [wp_s dd_112_72 rfl hs]; rfl
theorem dd_112_75 : decode (mB 112) 75 = .ok (.return_, 1) := by decide +kernel
theorem u_112_75 {G : aG} {S : Nat → Bool} {f : Nat} {ls : aL} {h : aH} {k n : Nat} (hs : S 75 = false) : WP 112 G S (f + 1) 75 ls [] h k n = (RET G none h k n) := by rw [wp_s dd_112_75 rfl hs]; rfl
theorem dd_113_0 : decode (mB 113) 0 = .ok (.aload_n 0, 1) := by decide +kernel
theorem u_113_0 {G : aG} {S : Nat → Bool} {f : Nat} {st : List Value} {ls : aL} {h : aH} {k n : Nat} (hs : S 0 = false) : WP 113 G S (f + 1) 0 ls st h k n = (oA (lget ls 0) (WP 113 G S f) 1 ls st h k n) := by rw [wp_s dd_113_0 rfl hs]; rfl
theorem v_113_0 {G : aG} {S : Nat → Bool} {f : Nat} {st : List Value} {ls : aL} {h : aH} {k n : Nat} : WQ 113 G S f 0 ls st h k n = (oA (lget ls 0) (WP 113 G S f) 1 ls st h k n) := by rw [wq_s dd_113_0 rfl]; rfl
theorem dd_113_1 : decode (mB 113) 1 = .ok (.getfield 126, 3) := by decide +kernel
theorem u_113_1 {G : aG} {S : Nat → Bool} {f : Nat} {st : List Value} {ls : aL} {h : aH} {k n : Nat} {a : Nat} (hs : S 1 = false) : WP 113 G S (f + 1) 1 ls (.ref a :: st) h k n = (oV (fget h a 10 22) (WP 113 G S f) 4 ls st h k n) := by rw [wp_s dd_113_1 rfl hs]; rfl
theorem dd_113_4 : decode (mB 113) 4 = .ok (.ifCond .le 76, 3) := by decide +kernel
theorem u_113_4 {G : aG} {S : Nat → Bool} {f : Nat} {st : List Value} {ls : aL} {h : aH} {k n : Nat} {x : Int32} (hs : S 4 = false) : WP 113 G S (f + 1) 4 ls (.int x :: st) h k n = (if x ≤ nI 0 then WP 113 G S f 80 ls st h k n else WP 113 G S f 7 ls st h k n) := by rw [wp_s dd_113_4 rfl hs]; exact br_ite (c := x ≤ nI 0)
theorem dd_113_7 : decode (mB 113) 7 = .ok (.aload_n 0, 1) := by decide +kernel
theorem u_113_7 {G : aG} {S : Nat → Bool} {f : Nat} {st : List Value} {ls : aL} {h : aH} {k n : Nat} (hs : S 7 = false) : WP 113 G S (f + 1) 7 ls st h k n = (oA (lget ls 0) (WP 113 G S f) 8 ls st h k n) := by rw [wp_s dd_113_7 rfl hs]; rfl
theorem dd_113_8 : decode (mB 113) 8 = .ok (.getfield 58, 3) := by decide +kernel
theorem u_113_8 {G : aG} {S : Nat → Bool} {f : Nat} {st : List Value} {ls : aL} {h : aH} {k n : Nat} {a : Nat} (hs : S 8 = false) : WP 113 G S (f + 1) 8 ls (.ref a :: st) h k n = (oV (fget h a 10 21) (WP 113 G S f) 11 ls st h k n) := by rw [wp_s dd_113_8 rfl hs]; rfl
theorem dd_113_11 : decode (mB 113) 11 = .ok (.aload_n 0, 1) := by decide +kernel
theorem u_113_11 {G : aG} {S : Nat → Bool} {f : Nat} {st : List Value} {ls : aL} {h : aH} {k n : Nat} (hs : S 11 = false) : WP 113 G S (f + 1) 11 ls st h k n = (oA (lget ls 0) (WP 113 G S f) 12 ls st h k n) := by rw [wp_s dd_113_11 rfl hs]; rfl
theorem dd_113_12 : decode (mB 113) 12 = .ok (.getfield 126, 3) := by decide +kernel
theorem u_113_12 {G : aG} {S : Nat → Bool} {f : Nat} {st : List Value} {ls : aL} {h : aH} {k n : Nat} {a : Nat} (hs : S 12 = false) : WP 113 G S (f + 1) 12 ls (.ref a :: st) h k n = (oV (fget h a 10 22) (WP 113 G S f) 15 ls st h k n) := by rw [wp_s dd_113_12 rfl hs]; rfl
theorem dd_113_15 : decode (mB 113) 15 = .ok (.iconst 1, 1) := by decide +kernel
theorem u_113_15 {G : aG} {S : Nat → Bool} {f : Nat} {st : List Value} {ls : aL} {h : aH} {k n : Nat} (hs : S 15 = false) : WP 113 G S (f + 1) 15 ls st h k n = (WP 113 G S f 16 ls (.int (nI 1) :: st) h k n) := by rw [wp_s dd_113_15 rfl hs]; rfl
theorem dd_113_16 : decode (mB 113) 16 = .ok (.isub, 1) := by decide +kernel
theorem u_113_16 {G : aG} {S : Nat → Bool} {f : Nat} {st : List Value} {ls : aL} {h : aH} {k n : Nat} {x y : Int32} (hs : S 16 = false) : WP 113 G S (f + 1) 16 ls (.int y :: .int x :: st) h k n = (WP 113 G S f 17 ls (.int (x - y) :: st) h k n) := by rw [wp_s dd_113_16 rfl hs]; rfl
theorem dd_113_17 : decode (mB 113) 17 = .ok (.iaload, 1) := by decide +kernel
theorem u_113_17 {G : aG} {S : Nat → Bool} {f : Nat} {st : List Value} {ls : aL} {h : aH} {k n : Nat} {i : Int32} {a : Nat} (hs : S 17 = false) : WP 113 G S (f + 1) 17 ls (.int i :: .ref a :: st) h k n = (oIld (iget h a 1) i (WP 113 G S f) 18 ls st h k n) := by rw [wp_s dd_113_17 rfl hs]; rfl
theorem dd_113_18 : decode (mB 113) 18 = .ok (.ifCond .eq 62, 3) := by decide +kernel
theorem u_113_18 {G : aG} {S : Nat → Bool} {f : Nat} {st : List Value} {ls : aL} {h : aH} {k n : Nat} {x : Int32} (hs : S 18 = false) : WP 113 G S (f + 1) 18 ls (.int x :: st) h k n = (if x = nI 0 then WP 113 G S f 80 ls st h k n else WP 113 G S f 21 ls st h k n) := by rw [wp_s dd_113_18 rfl hs]; exact br_ite (c := x = nI 0)
theorem dd_113_21 : decode (mB 113) 21 = .ok (.aload_n 0, 1) := by decide +kernel
theorem u_113_21 {G : aG} {S : Nat → Bool} {f : Nat} {st : List Value} {ls : aL} {h : aH} {k n : Nat} (hs : S 21 = false) : WP 113 G S (f + 1) 21 ls st h k n = (oA (lget ls 0) (WP 113 G S f) 22 ls st h k n) := by rw [wp_s dd_113_21 rfl hs]; rfl
theorem dd_113_22 : decode (mB 113) 22 = .ok (.getfield 58, 3) := by decide +kernel
theorem u_113_22 {G : aG} {S : Nat → Bool} {f : Nat} {st : List Value} {ls : aL} {h : aH} {k n : Nat} {a : Nat} (hs : S 22 = false) : WP 113 G S (f + 1) 22 ls (.ref a :: st) h k n = (oV (fget h a 10 21) (WP 113 G S f) 25 ls st h k n) := by rw [wp_s dd_113_22 rfl hs]; rfl
theorem dd_113_25 : decode (mB 113) 25 = .ok (.aload_n 0, 1) := by decide +kernel
theorem u_113_25 {G : aG} {S : Nat → Bool} {f : Nat} {st : List Value} {ls : aL} {h : aH} {k n : Nat} (hs : S 25 = false) : WP 113 G S (f + 1) 25 ls st h k n = (oA (lget ls 0) (WP 113 G S f) 26 ls st h k n) := by rw [wp_s dd_113_25 rfl hs]; rfl
theorem dd_113_26 : decode (mB 113) 26 = .ok (.getfield 126, 3) := by decide +kernel
theorem u_113_26 {G : aG} {S : Nat → Bool} {f : Nat} {st : List Value} {ls : aL} {h : aH} {k n : Nat} {a : Nat} (hs : S 26 = false) : WP 113 G S (f + 1) 26 ls (.ref a :: st) h k n = (oV (fget h a 10 22) (WP 113 G S f) 29 ls st h k n) := by rw [wp_s dd_113_26 rfl hs]; rfl
theorem dd_113_29 : decode (mB 113) 29 = .ok (.iconst 1, 1) := by decide +kernel
theorem u_113_29 {G : aG} {S : Nat → Bool} {f : Nat} {st : List Value} {ls : aL} {h : aH} {k n : Nat} (hs : S 29 = false) : WP 113 G S (f + 1) 29 ls st h k n = (WP 113 G S f 30 ls (.int (nI 1) :: st) h k n) := by rw [wp_s dd_113_29 rfl hs]; rfl
theorem dd_113_30 : decode (mB 113) 30 = .ok (.isub, 1) := by decide +kernel
theorem u_113_30 {G : aG} {S : Nat → Bool} {f : Nat} {st : List Value} {ls : aL} {h : aH} {k n : Nat} {x y : Int32} (hs : S 30 = false) : WP 113 G S (f + 1) 30 ls (.int y :: .int x :: st) h k n = (WP 113 G S f 31 ls (.int (x - y) :: st) h k n) := by rw [wp_s dd_113_30 rfl hs]; rfl
theorem dd_113_31 : decode (mB 113) 31 = .ok (.iaload, 1) := by decide +kernel
theorem u_113_31 {G : aG} {S : Nat → Bool} {f : Nat} {st : List Value} {ls : aL} {h : aH} {k n : Nat} {i : Int32} {a : Nat} (hs : S 31 = false) : WP 113 G S (f + 1) 31 ls (.int i :: .ref a :: st) h k n = (oIld (iget h a 1) i (WP 113 G S f) 32 ls st h k n) := by rw [wp_s dd_113_31 rfl hs]; rfl
theorem dd_113_32 : decode (mB 113) 32 = .ok (.invokestatic 129, 3) := by decide +kernel
theorem u_113_32 {G : aG} {S : Nat → Bool} {f : Nat} {st : List Value} {ls : aL} {h : aH} {k n : Nat} {v1 : Value} (hs : S 32 = false) : WP 113 G S (f + 1) 32 ls (v1 :: st) h k n = (CAL G (WP 113 G S f) 114 [v1] 35 ls st h k n) := by rw [wp_s dd_113_32 rfl hs]; rfl
theorem dd_113_35 : decode (mB 113) 35 = .ok (.iload_n 1, 1) := by decide +kernel
theorem u_113_35 {G : aG} {S : Nat → Bool} {f : Nat} {st : List Value} {ls : aL} {h : aH} {k n : Nat} (hs : S 35 = false) : WP 113 G S (f + 1) 35 ls st h k n = (oI (lget ls 1) (WP 113 G S f) 36 ls st h k n) := by rw [wp_s dd_113_35 rfl hs]; rfl
theorem dd_113_36 : decode (mB 113) 36 = .ok (.invokestatic 129, 3) := by decide +kernel
theorem u_113_36 {G : aG} {S : Nat → Bool} {f : Nat} {st : List Value} {ls : aL} {h : aH} {k n : Nat} {v1 : Value} (hs : S 36 = false) : WP 113 G S (f + 1) 36 ls (v1 :: st) h k n = (CAL G (WP 113 G S f) 114 [v1] 39 ls st h k n) := by rw [wp_s dd_113_36 rfl hs]; rfl
theorem dd_113_39 : decode (mB 113) 39 = .ok (.if_icmp .lt 41, 3) := by decide +kernel
theorem u_113_39 {G : aG} {S : Nat → Bool} {f : Nat} {st : List Value} {ls : aL} {h : aH} {k n : Nat} {x y : Int32} (hs : S 39 = false) : WP 113 G S (f + 1) 39 ls (.int y :: .int x :: st) h k n = (if x < y then WP 113 G S f 80 ls st h k n else WP 113 G S f 42 ls st h k n) := by rw [wp_s dd_113_39 rfl hs]; exact br_ite (c := x < y)
theorem dd_113_42 : decode (mB 113) 42 = .ok (.aload_n 0, 1) := by decide +kernel
theorem u_113_42 {G : aG} {S : Nat → Bool} {f : Nat} {st : List Value} {ls : aL} {h : aH} {k n : Nat} (hs : S 42 = false) : WP 113 G S (f + 1) 42 ls st h k n = (oA (lget ls 0) (WP 113 G S f) 43 ls st h k n) := by rw [wp_s dd_113_42 rfl hs]; rfl
theorem dd_113_43 : decode (mB 113) 43 = .ok (.invokevirtual 132, 3) := by decide +kernel
theorem u_113_43 {G : aG} {S : Nat → Bool} {f : Nat} {st : List Value} {ls : aL} {h : aH} {k n : Nat} {b : Nat} (hs : S 43 = false) : WP 113 G S (f + 1) 43 ls (.ref b :: st) h k n = (rcv (hget h b) 10 ∧ CAL G (WP 113 G S f) 115 [.ref b] 46 ls st h k n) := by rw [wp_s dd_113_43 rfl hs]; rfl
theorem dd_113_46 : decode (mB 113) 46 = .ok (.istore_n 2, 1) := by decide +kernel
theorem u_113_46 {G : aG} {S : Nat → Bool} {f : Nat} {st : List Value} {ls : aL} {h : aH} {k n : Nat} {x : Int32} (hs : S 46 = false) : WP 113 G S (f + 1) 46 ls (.int x :: st) h k n = (WP 113 G S f 47 (lput1 ls 2 (.int x)) st h k n) := by rw [wp_s dd_113_46 rfl hs]; rfl
theorem dd_113_47 : decode (mB 113) 47 = .ok (.aload_n 0, 1) := by decide +kernel
theorem u_113_47 {G : aG} {S : Nat → Bool} {f : Nat} {st : List Value} {ls : aL} {h : aH} {k n : Nat} (hs : S 47 = false) : WP 113 G S (f + 1) 47 ls st h k n = (oA (lget ls 0) (WP 113 G S f) 48 ls st h k n) := by rw [wp_s dd_113_47 rfl hs]; rfl
theorem dd_113_48 : decode (mB 113) 48 = .ok (.invokevirtual 132, 3) := by decide +kernel
theorem u_113_48 {G : aG} {S : Nat → Bool} {f : Nat} {st : List Value} {ls : aL} {h : aH} {k n : Nat} {b : Nat} (hs : S 48 = false) : WP 113 G S (f + 1) 48 ls (.ref b :: st) h k n = (rcv (hget h b) 10 ∧ CAL G (WP 113 G S f) 115 [.ref b] 51 ls st h k n) := by rw [wp_s dd_113_48 rfl hs]; rfl
theorem dd_113_51 : decode (mB 113) 51 = .ok (.istore_n 3, 1) := by decide +kernel
theorem u_113_51 {G : aG} {S : Nat → Bool} {f : Nat} {st : List Value} {ls : aL} {h : aH} {k n : Nat} {x : Int32} (hs : S 51 = false) : WP 113 G S (f + 1) 51 ls (.int x :: st) h k n = (WP 113 G S f 52 (lput1 ls 3 (.int x)) st h k n) := by rw [wp_s dd_113_51 rfl hs]; rfl
theorem dd_113_52 : decode (mB 113) 52 = .ok (.aload_n 0, 1) := by decide +kernel
theorem u_113_52 {G : aG} {S : Nat → Bool} {f : Nat} {st : List Value} {ls : aL} {h : aH} {k n : Nat} (hs : S 52 = false) : WP 113 G S (f + 1) 52 ls st h k n = (oA (lget ls 0) (WP 113 G S f) 53 ls st h k n) := by rw [wp_s dd_113_52 rfl hs]; rfl
theorem dd_113_53 : decode (mB 113) 53 = .ok (.dup, 1) := by decide +kernel
theorem u_113_53 {G : aG} {S : Nat → Bool} {f : Nat} {st : List Value} {ls : aL} {h : aH} {k n : Nat} {v : Value} (hs : S 53 = false) : WP 113 G S (f + 1) 53 ls (v :: st) h k n = (cond (cat1 v) (WP 113 G S f 54 ls (v :: v :: st) h k n) False) := by rw [wp_s dd_113_53 rfl hs]; rfl
theorem dd_113_54 : decode (mB 113) 54 = .ok (.getfield 126, 3) := by decide +kernel
theorem u_113_54 {G : aG} {S : Nat → Bool} {f : Nat} {st : List Value} {ls : aL} {h : aH} {k n : Nat} {a : Nat} (hs : S 54 = false) : WP 113 G S (f + 1) 54 ls (.ref a :: st) h k n = (oV (fget h a 10 22) (WP 113 G S f) 57 ls st h k n) := by rw [wp_s dd_113_54 rfl hs]; rfl
theorem dd_113_57 : decode (mB 113) 57 = .ok (.iconst 1, 1) := by decide +kernel
theorem u_113_57 {G : aG} {S : Nat → Bool} {f : Nat} {st : List Value} {ls : aL} {h : aH} {k n : Nat} (hs : S 57 = false) : WP 113 G S (f + 1) 57 ls st h k n = (WP 113 G S f 58 ls (.int (nI 1) :: st) h k n) := by rw [wp_s dd_113_57 rfl hs]; rfl
theorem dd_113_58 : decode (mB 113) 58 = .ok (.isub, 1) := by decide +kernel
theorem u_113_58 {G : aG} {S : Nat → Bool} {f : Nat} {st : List Value} {ls : aL} {h : aH} {k n : Nat} {x y : Int32} (hs : S 58 = false) : WP 113 G S (f + 1) 58 ls (.int y :: .int x :: st) h k n = (WP 113 G S f 59 ls (.int (x - y) :: st) h k n) := by rw [wp_s dd_113_58 rfl hs]; rfl
theorem dd_113_59 : decode (mB 113) 59 = .ok (.putfield 126, 3) := by decide +kernel
theorem u_113_59 {G : aG} {S : Nat → Bool} {f : Nat} {st : List Value} {ls : aL} {h : aH} {k n : Nat} {a : Nat} {x : Int32} (hs : S 59 = false) : WP 113 G S (f + 1) 59 ls (.int x :: .ref a :: st) h k n = (oH (fput h a 10 22 (.int x)) (WP 113 G S f) 62 ls st k n) := by rw [wp_s dd_113_59 rfl hs]; rfl
theorem dd_113_62 : decode (mB 113) 62 = .ok (.aload_n 0, 1) := by decide +kernel
theorem u_113_62 {G : aG} {S : Nat → Bool} {f : Nat} {st : List Value} {ls : aL} {h : aH} {k n : Nat} (hs : S 62 = false) : WP 113 G S (f + 1) 62 ls st h k n = (oA (lget ls 0) (WP 113 G S f) 63 ls st h k n) := by rw [wp_s dd_113_62 rfl hs]; rfl
theorem dd_113_63 : decode (mB 113) 63 = .ok (.aload_n 0, 1) := by decide +kernel
theorem u_113_63 {G : aG} {S : Nat → Bool} {f : Nat} {st : List Value} {ls : aL} {h : aH} {k n : Nat} (hs : S 63 = false) : WP 113 G S (f + 1) 63 ls st h k n = (oA (lget ls 0) (WP 113 G S f) 64 ls st h k n) := by rw [wp_s dd_113_63 rfl hs]; rfl
theorem dd_113_64 : decode (mB 113) 64 = .ok (.getfield 58, 3) := by decide +kernel
theorem u_113_64 {G : aG} {S : Nat → Bool} {f : Nat} {st : List Value} {ls : aL} {h : aH} {k n : Nat} {a : Nat} (hs : S 64 = false) : WP 113 G S (f + 1) 64 ls (.ref a :: st) h k n = (oV (fget h a 10 21) (WP 113 G S f) 67 ls st h k n) := by rw [wp_s dd_113_64 rfl hs]; rfl
theorem dd_113_67 : decode (mB 113) 67 = .ok (.aload_n 0, 1) := by decide +kernel
theorem u_113_67 {G : aG} {S : Nat → Bool} {f : Nat} {st : List Value} {ls : aL} {h : aH} {k n : Nat} (hs : S 67 = false) : WP 113 G S (f + 1) 67 ls st h k n = (oA (lget ls 0) (WP 113 G S f) 68 ls st h k n) := by rw [wp_s dd_113_67 rfl hs]; rfl
theorem dd_113_68 : decode (mB 113) 68 = .ok (.getfield 126, 3) := by decide +kernel
theorem u_113_68 {G : aG} {S : Nat → Bool} {f : Nat} {st : List Value} {ls : aL} {h : aH} {k n : Nat} {a : Nat} (hs : S 68 = false) : WP 113 G S (f + 1) 68 ls (.ref a :: st) h k n = (oV (fget h a 10 22) (WP 113 G S f) 71 ls st h k n) := by rw [wp_s dd_113_68 rfl hs]; rfl
theorem dd_113_71 : decode (mB 113) 71 = .ok (.iaload, 1) := by decide +kernel
theorem u_113_71 {G : aG} {S : Nat → Bool} {f : Nat} {st : List Value} {ls : aL} {h : aH} {k n : Nat} {i : Int32} {a : Nat} (hs : S 71 = false) : WP 113 G S (f + 1) 71 ls (.int i :: .ref a :: st) h k n = (oIld (iget h a 1) i (WP 113 G S f) 72 ls st h k n) := by rw [wp_s dd_113_71 rfl hs]; rfl
theorem dd_113_72 : decode (mB 113) 72 = .ok (.iload_n 3, 1) := by decide +kernel
theorem u_113_72 {G : aG} {S : Nat → Bool} {f : Nat} {st : List Value} {ls : aL} {h : aH} {k n : Nat} (hs : S 72 = false) : WP 113 G S (f + 1) 72 ls st h k n = (oI (lget ls 3) (WP 113 G S f) 73 ls st h k n) := by rw [wp_s dd_113_72 rfl hs]; rfl
theorem dd_113_73 : decode (mB 113) 73 = .ok (.iload_n 2, 1) := by decide +kernel
theorem u_113_73 {G : aG} {S : Nat → Bool} {f : Nat} {st : List Value} {ls : aL} {h : aH} {k n : Nat} (hs : S 73 = false) : WP 113 G S (f + 1) 73 ls st h k n = (oI (lget ls 2) (WP 113 G S f) 74 ls st h k n) := by rw [wp_s dd_113_73 rfl hs]; rfl
theorem dd_113_74 : decode (mB 113) 74 = .ok (.invokevirtual 136, 3) := by decide +kernel
theorem u_113_74 {G : aG} {S : Nat → Bool} {f : Nat} {st : List Value} {ls : aL} {h : aH} {k n : Nat} {v1 v2 v3 : Value} {b : Nat} (hs : S 74 = false) : WP 113 G S (f + 1) 74 ls (v3 :: v2 :: v1 :: .ref b :: st) h k n = (rcv (hget h b) 10 ∧ CAL G (WP 113 G S f) 112 [.ref b, v1, v2, v3] 77 ls st h k n) := by rw [wp_s dd_113_74 rfl hs]; rfl
theorem dd_113_77 : decode (mB 113) 77 = .ok (.goto (-77), 3) := by decide +kernel
theorem u_113_77 {G : aG} {S : Nat → Bool} {f : Nat} {st : List Value} {ls : aL} {h : aH} {k n : Nat} (hs : S 77 = false) : WP 113 G S (f + 1) 77 ls st h k n = (WP 113 G S f 0 ls st h k n) := by rw [wp_s dd_113_77 rfl hs]; rfl
theorem dd_113_80 : decode (mB 113) 80 = .ok (.return_, 1) := by decide +kernel
theorem u_113_80 {G : aG} {S : Nat → Bool} {f : Nat} {ls : aL} {h : aH} {k n : Nat} (hs : S 80 = false) : WP 113 G S (f + 1) 80 ls [] h k n = (RET G none h k n) := by rw [wp_s dd_113_80 rfl hs]; rfl
theorem dd_114_0 : decode (mB 114) 0 = .ok (.iload_n 0, 1) := by decide +kernel
theorem u_114_0 {G : aG} {S : Nat → Bool} {f : Nat} {st : List Value} {ls : aL} {h : aH} {k n : Nat} (hs : S 0 = false) : WP 114 G S (f + 1) 0 ls st h k n = (oI (lget ls 0) (WP 114 G S f) 1 ls st h k n) := by rw [wp_s dd_114_0 rfl hs]; rfl
theorem dd_114_1 : decode (mB 114) 1 = .ok (.bipush 9, 2) := by decide +kernel
theorem u_114_1 {G : aG} {S : Nat → Bool} {f : Nat} {st : List Value} {ls : aL} {h : aH} {k n : Nat} (hs : S 1 = false) : WP 114 G S (f + 1) 1 ls st h k n = (WP 114 G S f 3 ls (.int (nI 9) :: st) h k n) := by rw [wp_s dd_114_1 rfl hs]; rfl
theorem dd_114_3 : decode (mB 114) 3 = .ok (.if_icmp .ne 7, 3) := by decide +kernel
theorem u_114_3 {G : aG} {S : Nat → Bool} {f : Nat} {st : List Value} {ls : aL} {h : aH} {k n : Nat} {x y : Int32} (hs : S 3 = false) : WP 114 G S (f + 1) 3 ls (.int y :: .int x :: st) h k n = (if x = y then WP 114 G S f 6 ls st h k n else WP 114 G S f 10 ls st h k n) := by rw [wp_s dd_114_3 rfl hs]; exact br_iten (c := x = y)
theorem dd_114_6 : decode (mB 114) 6 = .ok (.iconst 3, 1) := by decide +kernel
theorem u_114_6 {G : aG} {S : Nat → Bool} {f : Nat} {st : List Value} {ls : aL} {h : aH} {k n : Nat} (hs : S 6 = false) : WP 114 G S (f + 1) 6 ls st h k n = (WP 114 G S f 7 ls (.int (nI 3) :: st) h k n) := by rw [wp_s dd_114_6 rfl hs]; rfl
theorem dd_114_7 : decode (mB 114) 7 = .ok (.goto 24, 3) := by decide +kernel
theorem u_114_7 {G : aG} {S : Nat → Bool} {f : Nat} {st : List Value} {ls : aL} {h : aH} {k n : Nat} (hs : S 7 = false) : WP 114 G S (f + 1) 7 ls st h k n = (WP 114 G S f 31 ls st h k n) := by rw [wp_s dd_114_7 rfl hs]; rfl
theorem dd_114_10 : decode (mB 114) 10 = .ok (.iload_n 0, 1) := by decide +kernel
theorem u_114_10 {G : aG} {S : Nat → Bool} {f : Nat} {st : List Value} {ls : aL} {h : aH} {k n : Nat} (hs : S 10 = false) : WP 114 G S (f + 1) 10 ls st h k n = (oI (lget ls 0) (WP 114 G S f) 11 ls st h k n) := by rw [wp_s dd_114_10 rfl hs]; rfl
theorem dd_114_11 : decode (mB 114) 11 = .ok (.bipush 11, 2) := by decide +kernel
theorem u_114_11 {G : aG} {S : Nat → Bool} {f : Nat} {st : List Value} {ls : aL} {h : aH} {k n : Nat} (hs : S 11 = false) : WP 114 G S (f + 1) 11 ls st h k n = (WP 114 G S f 13 ls (.int (nI 11) :: st) h k n) := by rw [wp_s dd_114_11 rfl hs]; rfl
theorem dd_114_13 : decode (mB 114) 13 = .ok (.if_icmp .ne 7, 3) := by decide +kernel
theorem u_114_13 {G : aG} {S : Nat → Bool} {f : Nat} {st : List Value} {ls : aL} {h : aH} {k n : Nat} {x y : Int32} (hs : S 13 = false) : WP 114 G S (f + 1) 13 ls (.int y :: .int x :: st) h k n = (if x = y then WP 114 G S f 16 ls st h k n else WP 114 G S f 20 ls st h k n) := by rw [wp_s dd_114_13 rfl hs]; exact br_iten (c := x = y)
theorem dd_114_16 : decode (mB 114) 16 = .ok (.iconst 2, 1) := by decide +kernel
theorem u_114_16 {G : aG} {S : Nat → Bool} {f : Nat} {st : List Value} {ls : aL} {h : aH} {k n : Nat} (hs : S 16 = false) : WP 114 G S (f + 1) 16 ls st h k n = (WP 114 G S f 17 ls (.int (nI 2) :: st) h k n) := by rw [wp_s dd_114_16 rfl hs]; rfl
theorem dd_114_17 : decode (mB 114) 17 = .ok (.goto 14, 3) := by decide +kernel
theorem u_114_17 {G : aG} {S : Nat → Bool} {f : Nat} {st : List Value} {ls : aL} {h : aH} {k n : Nat} (hs : S 17 = false) : WP 114 G S (f + 1) 17 ls st h k n = (WP 114 G S f 31 ls st h k n) := by rw [wp_s dd_114_17 rfl hs]; rfl
theorem dd_114_20 : decode (mB 114) 20 = .ok (.iload_n 0, 1) := by decide +kernel
theorem u_114_20 {G : aG} {S : Nat → Bool} {f : Nat} {st : List Value} {ls : aL} {h : aH} {k n : Nat} (hs : S 20 = false) : WP 114 G S (f + 1) 20 ls st h k n = (oI (lget ls 0) (WP 114 G S f) 21 ls st h k n) := by rw [wp_s dd_114_20 rfl hs]; rfl
theorem dd_114_21 : decode (mB 114) 21 = .ok (.bipush 10, 2) := by decide +kernel
theorem u_114_21 {G : aG} {S : Nat → Bool} {f : Nat} {st : List Value} {ls : aL} {h : aH} {k n : Nat} (hs : S 21 = false) : WP 114 G S (f + 1) 21 ls st h k n = (WP 114 G S f 23 ls (.int (nI 10) :: st) h k n) := by rw [wp_s dd_114_21 rfl hs]; rfl
theorem dd_114_23 : decode (mB 114) 23 = .ok (.if_icmp .ne 7, 3) := by decide +kernel
theorem u_114_23 {G : aG} {S : Nat → Bool} {f : Nat} {st : List Value} {ls : aL} {h : aH} {k n : Nat} {x y : Int32} (hs : S 23 = false) : WP 114 G S (f + 1) 23 ls (.int y :: .int x :: st) h k n = (if x = y then WP 114 G S f 26 ls st h k n else WP 114 G S f 30 ls st h k n) := by rw [wp_s dd_114_23 rfl hs]; exact br_iten (c := x = y)
theorem dd_114_26 : decode (mB 114) 26 = .ok (.iconst 1, 1) := by decide +kernel
theorem u_114_26 {G : aG} {S : Nat → Bool} {f : Nat} {st : List Value} {ls : aL} {h : aH} {k n : Nat} (hs : S 26 = false) : WP 114 G S (f + 1) 26 ls st h k n = (WP 114 G S f 27 ls (.int (nI 1) :: st) h k n) := by rw [wp_s dd_114_26 rfl hs]; rfl
theorem dd_114_27 : decode (mB 114) 27 = .ok (.goto 4, 3) := by decide +kernel
theorem u_114_27 {G : aG} {S : Nat → Bool} {f : Nat} {st : List Value} {ls : aL} {h : aH} {k n : Nat} (hs : S 27 = false) : WP 114 G S (f + 1) 27 ls st h k n = (WP 114 G S f 31 ls st h k n) := by rw [wp_s dd_114_27 rfl hs]; rfl
theorem dd_114_30 : decode (mB 114) 30 = .ok (.iconst 0, 1) := by decide +kernel
theorem u_114_30 {G : aG} {S : Nat → Bool} {f : Nat} {st : List Value} {ls : aL} {h : aH} {k n : Nat} (hs : S 30 = false) : WP 114 G S (f + 1) 30 ls st h k n = (WP 114 G S f 31 ls (.int (nI 0) :: st) h k n) := by rw [wp_s dd_114_30 rfl hs]; rfl
theorem dd_114_31 : decode (mB 114) 31 = .ok (.ireturn, 1) := by decide +kernel
theorem u_114_31 {G : aG} {S : Nat → Bool} {f : Nat} {ls : aL} {h : aH} {k n : Nat} {x : Int32} (hs : S 31 = false) : WP 114 G S (f + 1) 31 ls [.int x] h k n = (RET G (some (.int x)) h k n) := by rw [wp_s dd_114_31 rfl hs]; rfl
theorem dd_115_0 : decode (mB 115) 0 = .ok (.aload_n 0, 1) := by decide +kernel
theorem u_115_0 {G : aG} {S : Nat → Bool} {f : Nat} {st : List Value} {ls : aL} {h : aH} {k n : Nat} (hs : S 0 = false) : WP 115 G S (f + 1) 0 ls st h k n = (oA (lget ls 0) (WP 115 G S f) 1 ls st h k n) := by rw [wp_s dd_115_0 rfl hs]; rfl
theorem dd_115_1 : decode (mB 115) 1 = .ok (.dup, 1) := by decide +kernel
theorem u_115_1 {G : aG} {S : Nat → Bool} {f : Nat} {st : List Value} {ls : aL} {h : aH} {k n : Nat} {v : Value} (hs : S 1 = false) : WP 115 G S (f + 1) 1 ls (v :: st) h k n = (cond (cat1 v) (WP 115 G S f 2 ls (v :: v :: st) h k n) False) := by rw [wp_s dd_115_1 rfl hs]; rfl
theorem dd_115_2 : decode (mB 115) 2 = .ok (.getfield 123, 3) := by decide +kernel
theorem u_115_2 {G : aG} {S : Nat → Bool} {f : Nat} {st : List Value} {ls : aL} {h : aH} {k n : Nat} {a : Nat} (hs : S 2 = false) : WP 115 G S (f + 1) 2 ls (.ref a :: st) h k n = (oV (fget h a 10 20) (WP 115 G S f) 5 ls st h k n) := by rw [wp_s dd_115_2 rfl hs]; rfl
theorem dd_115_5 : decode (mB 115) 5 = .ok (.iconst 1, 1) := by decide +kernel
theorem u_115_5 {G : aG} {S : Nat → Bool} {f : Nat} {st : List Value} {ls : aL} {h : aH} {k n : Nat} (hs : S 5 = false) : WP 115 G S (f + 1) 5 ls st h k n = (WP 115 G S f 6 ls (.int (nI 1) :: st) h k n) := by rw [wp_s dd_115_5 rfl hs]; rfl
theorem dd_115_6 : decode (mB 115) 6 = .ok (.isub, 1) := by decide +kernel
theorem u_115_6 {G : aG} {S : Nat → Bool} {f : Nat} {st : List Value} {ls : aL} {h : aH} {k n : Nat} {x y : Int32} (hs : S 6 = false) : WP 115 G S (f + 1) 6 ls (.int y :: .int x :: st) h k n = (WP 115 G S f 7 ls (.int (x - y) :: st) h k n) := by rw [wp_s dd_115_6 rfl hs]; rfl
theorem dd_115_7 : decode (mB 115) 7 = .ok (.putfield 123, 3) := by decide +kernel
theorem u_115_7 {G : aG} {S : Nat → Bool} {f : Nat} {st : List Value} {ls : aL} {h : aH} {k n : Nat} {a : Nat} {x : Int32} (hs : S 7 = false) : WP 115 G S (f + 1) 7 ls (.int x :: .ref a :: st) h k n = (oH (fput h a 10 20 (.int x)) (WP 115 G S f) 10 ls st k n) := by rw [wp_s dd_115_7 rfl hs]; rfl
theorem dd_115_10 : decode (mB 115) 10 = .ok (.aload_n 0, 1) := by decide +kernel
theorem u_115_10 {G : aG} {S : Nat → Bool} {f : Nat} {st : List Value} {ls : aL} {h : aH} {k n : Nat} (hs : S 10 = false) : WP 115 G S (f + 1) 10 ls st h k n = (oA (lget ls 0) (WP 115 G S f) 11 ls st h k n) := by rw [wp_s dd_115_10 rfl hs]; rfl
theorem dd_115_11 : decode (mB 115) 11 = .ok (.getfield 55, 3) := by decide +kernel
theorem u_115_11 {G : aG} {S : Nat → Bool} {f : Nat} {st : List Value} {ls : aL} {h : aH} {k n : Nat} {a : Nat} (hs : S 11 = false) : WP 115 G S (f + 1) 11 ls (.ref a :: st) h k n = (oV (fget h a 10 19) (WP 115 G S f) 14 ls st h k n) := by rw [wp_s dd_115_11 rfl hs]; rfl
theorem dd_115_14 : decode (mB 115) 14 = .ok (.aload_n 0, 1) := by decide +kernel
theorem u_115_14 {G : aG} {S : Nat → Bool} {f : Nat} {st : List Value} {ls : aL} {h : aH} {k n : Nat} (hs : S 14 = false) : WP 115 G S (f + 1) 14 ls st h k n = (oA (lget ls 0) (WP 115 G S f) 15 ls st h k n) := by rw [wp_s dd_115_14 rfl hs]; rfl
theorem dd_115_15 : decode (mB 115) 15 = .ok (.getfield 123, 3) := by decide +kernel
theorem u_115_15 {G : aG} {S : Nat → Bool} {f : Nat} {st : List Value} {ls : aL} {h : aH} {k n : Nat} {a : Nat} (hs : S 15 = false) : WP 115 G S (f + 1) 15 ls (.ref a :: st) h k n = (oV (fget h a 10 20) (WP 115 G S f) 18 ls st h k n) := by rw [wp_s dd_115_15 rfl hs]; rfl
theorem dd_115_18 : decode (mB 115) 18 = .ok (.iaload, 1) := by decide +kernel
theorem u_115_18 {G : aG} {S : Nat → Bool} {f : Nat} {st : List Value} {ls : aL} {h : aH} {k n : Nat} {i : Int32} {a : Nat} (hs : S 18 = false) : WP 115 G S (f + 1) 18 ls (.int i :: .ref a :: st) h k n = (oIld (iget h a 1) i (WP 115 G S f) 19 ls st h k n) := by rw [wp_s dd_115_18 rfl hs]; rfl
theorem dd_115_19 : decode (mB 115) 19 = .ok (.ireturn, 1) := by decide +kernel
theorem u_115_19 {G : aG} {S : Nat → Bool} {f : Nat} {ls : aL} {h : aH} {k n : Nat} {x : Int32} (hs : S 19 = false) : WP 115 G S (f + 1) 19 ls [.int x] h k n = (RET G (some (.int x)) h k n) := by rw [wp_s dd_115_19 rfl hs]; rfl
theorem dd_116_0 : decode (mB 116) 0 = .ok (.iload_n 0, 1) := by decide +kernel
theorem u_116_0 {G : aG} {S : Nat → Bool} {f : Nat} {st : List Value} {ls : aL} {h : aH} {k n : Nat} (hs : S 0 = false) : WP 116 G S (f + 1) 0 ls st h k n = (oI (lget ls 0) (WP 116 G S f) 1 ls st h k n) := by rw [wp_s dd_116_0 rfl hs]; rfl
theorem dd_116_1 : decode (mB 116) 1 = .ok (.lookupswitch 77 #[(38, 65), (42, 71), (43, 74), (44, 59), (63, 68), (124, 62)], 59) := by decide +kernel
theorem u_116_1 {G : aG} {S : Nat → Bool} {f : Nat} {st : List Value} {ls : aL} {h : aH} {k n : Nat} {x : Int32} (hs : S 1 = false) : WP 116 G S (f + 1) 1 ls (.int x :: st) h k n = (if x = nI 38 then WP 116 G S f 66 ls st h k n else (if x = nI 42 then WP 116 G S f 72 ls st h k n else (if x = nI 43 then WP 116 G S f 75 ls st h k n else (if x = nI 44 then WP 116 G S f 60 ls st h k n else (if x = nI 63 then WP 116 G S f 69 ls st h k n else (if x = nI 124 then WP 116 G S f 63 ls st h k n else (WP 116 G S f 78 ls st h k n))))))) := by rw [wp_s dd_116_1 rfl hs]; show WP 116 G S f (tgtL 1 [(38, 65), (42, 71), (43, 74), (44, 59), (63, 68), (124, 62)] 77 x) ls st h k n = _; refine (tl_ite (K := fun q => WP 116 G S f q ls st h k n) (nI 38) rfl).trans (if_cg ?_); refine (tl_ite (K := fun q => WP 116 G S f q ls st h k n) (nI 42) rfl).trans (if_cg ?_); refine (tl_ite (K := fun q => WP 116 G S f q ls st h k n) (nI 43) rfl).trans (if_cg ?_); refine (tl_ite (K := fun q => WP 116 G S f q ls st h k n) (nI 44) rfl).trans (if_cg ?_); refine (tl_ite (K := fun q => WP 116 G S f q ls st h k n) (nI 63) rfl).trans (if_cg ?_); refine (tl_ite (K := fun q => WP 116 G S f q ls st h k n) (nI 124) rfl).trans (if_cg ?_); exact tl_nil (K := fun q => WP 116 G S f q ls st h k n)
theorem dd_116_60 : decode (mB 116) 60 = .ok (.bipush 9, 2) := by decide +kernel
theorem u_116_60 {G : aG} {S : Nat → Bool} {f : Nat} {st : List Value} {ls : aL} {h : aH} {k n : Nat} (hs : S 60 = false) : WP 116 G S (f + 1) 60 ls st h k n = (WP 116 G S f 62 ls (.int (nI 9) :: st) h k n) := by rw [wp_s dd_116_60 rfl hs]; rfl
theorem dd_116_62 : decode (mB 116) 62 = .ok (.ireturn, 1) := by decide +kernel
theorem u_116_62 {G : aG} {S : Nat → Bool} {f : Nat} {ls : aL} {h : aH} {k n : Nat} {x : Int32} (hs : S 62 = false) : WP 116 G S (f + 1) 62 ls [.int x] h k n = (RET G (some (.int x)) h k n) := by rw [wp_s dd_116_62 rfl hs]; rfl
theorem dd_116_63 : decode (mB 116) 63 = .ok (.bipush 10, 2) := by decide +kernel
theorem u_116_63 {G : aG} {S : Nat → Bool} {f : Nat} {st : List Value} {ls : aL} {h : aH} {k n : Nat} (hs : S 63 = false) : WP 116 G S (f + 1) 63 ls st h k n = (WP 116 G S f 65 ls (.int (nI 10) :: st) h k n) := by rw [wp_s dd_116_63 rfl hs]; rfl
theorem dd_116_65 : decode (mB 116) 65 = .ok (.ireturn, 1) := by decide +kernel
theorem u_116_65 {G : aG} {S : Nat → Bool} {f : Nat} {ls : aL} {h : aH} {k n : Nat} {x : Int32} (hs : S 65 = false) : WP 116 G S (f + 1) 65 ls [.int x] h k n = (RET G (some (.int x)) h k n) := by rw [wp_s dd_116_65 rfl hs]; rfl
theorem dd_116_66 : decode (mB 116) 66 = .ok (.bipush 11, 2) := by decide +kernel
theorem u_116_66 {G : aG} {S : Nat → Bool} {f : Nat} {st : List Value} {ls : aL} {h : aH} {k n : Nat} (hs : S 66 = false) : WP 116 G S (f + 1) 66 ls st h k n = (WP 116 G S f 68 ls (.int (nI 11) :: st) h k n) := by rw [wp_s dd_116_66 rfl hs]; rfl
theorem dd_116_68 : decode (mB 116) 68 = .ok (.ireturn, 1) := by decide +kernel
theorem u_116_68 {G : aG} {S : Nat → Bool} {f : Nat} {ls : aL} {h : aH} {k n : Nat} {x : Int32} (hs : S 68 = false) : WP 116 G S (f + 1) 68 ls [.int x] h k n = (RET G (some (.int x)) h k n) := by rw [wp_s dd_116_68 rfl hs]; rfl
theorem dd_116_69 : decode (mB 116) 69 = .ok (.bipush 12, 2) := by decide +kernel
theorem u_116_69 {G : aG} {S : Nat → Bool} {f : Nat} {st : List Value} {ls : aL} {h : aH} {k n : Nat} (hs : S 69 = false) : WP 116 G S (f + 1) 69 ls st h k n = (WP 116 G S f 71 ls (.int (nI 12) :: st) h k n) := by rw [wp_s dd_116_69 rfl hs]; rfl
theorem dd_116_71 : decode (mB 116) 71 = .ok (.ireturn, 1) := by decide +kernel
theorem u_116_71 {G : aG} {S : Nat → Bool} {f : Nat} {ls : aL} {h : aH} {k n : Nat} {x : Int32} (hs : S 71 = false) : WP 116 G S (f + 1) 71 ls [.int x] h k n = (RET G (some (.int x)) h k n) := by rw [wp_s dd_116_71 rfl hs]; rfl
theorem dd_116_72 : decode (mB 116) 72 = .ok (.bipush 13, 2) := by decide +kernel
theorem u_116_72 {G : aG} {S : Nat → Bool} {f : Nat} {st : List Value} {ls : aL} {h : aH} {k n : Nat} (hs : S 72 = false) : WP 116 G S (f + 1) 72 ls st h k n = (WP 116 G S f 74 ls (.int (nI 13) :: st) h k n) := by rw [wp_s dd_116_72 rfl hs]; rfl
theorem dd_116_74 : decode (mB 116) 74 = .ok (.ireturn, 1) := by decide +kernel
theorem u_116_74 {G : aG} {S : Nat → Bool} {f : Nat} {ls : aL} {h : aH} {k n : Nat} {x : Int32} (hs : S 74 = false) : WP 116 G S (f + 1) 74 ls [.int x] h k n = (RET G (some (.int x)) h k n) := by rw [wp_s dd_116_74 rfl hs]; rfl
theorem dd_116_75 : decode (mB 116) 75 = .ok (.bipush 14, 2) := by decide +kernel
theorem u_116_75 {G : aG} {S : Nat → Bool} {f : Nat} {st : List Value} {ls : aL} {h : aH} {k n : Nat} (hs : S 75 = false) : WP 116 G S (f + 1) 75 ls st h k n = (WP 116 G S f 77 ls (.int (nI 14) :: st) h k n) := by rw [wp_s dd_116_75 rfl hs]; rfl
theorem dd_116_77 : decode (mB 116) 77 = .ok (.ireturn, 1) := by decide +kernel
theorem u_116_77 {G : aG} {S : Nat → Bool} {f : Nat} {ls : aL} {h : aH} {k n : Nat} {x : Int32} (hs : S 77 = false) : WP 116 G S (f + 1) 77 ls [.int x] h k n = (RET G (some (.int x)) h k n) := by rw [wp_s dd_116_77 rfl hs]; rfl
theorem dd_116_78 : decode (mB 116) 78 = .ok (.iconst (-1), 1) := by decide +kernel
theorem u_116_78 {G : aG} {S : Nat → Bool} {f : Nat} {st : List Value} {ls : aL} {h : aH} {k n : Nat} (hs : S 78 = false) : WP 116 G S (f + 1) 78 ls st h k n = (WP 116 G S f 79 ls (.int (-1) :: st) h k n) := by rw [wp_s dd_116_78 rfl hs]; rfl
theorem dd_116_79 : decode (mB 116) 79 = .ok (.ireturn, 1) := by decide +kernel
theorem u_116_79 {G : aG} {S : Nat → Bool} {f : Nat} {ls : aL} {h : aH} {k n : Nat} {x : Int32} (hs : S 79 = false) : WP 116 G S (f + 1) 79 ls [.int x] h k n = (RET G (some (.int x)) h k n) := by rw [wp_s dd_116_79 rfl hs]; rfl
theorem dd_117_0 : decode (mB 117) 0 = .ok (.aload_n 0, 1) := by decide +kernel
theorem u_117_0 {G : aG} {S : Nat → Bool} {f : Nat} {st : List Value} {ls : aL} {h : aH} {k n : Nat} (hs : S 0 = false) : WP 117 G S (f + 1) 0 ls st h k n = (oA (lget ls 0) (WP 117 G S f) 1 ls st h k n) := by rw [wp_s dd_117_0 rfl hs]; rfl
theorem dd_117_1 : decode (mB 117) 1 = .ok (.getfield 146, 3) := by decide +kernel
theorem u_117_1 {G : aG} {S : Nat → Bool} {f : Nat} {st : List Value} {ls : aL} {h : aH} {k n : Nat} {a : Nat} (hs : S 1 = false) : WP 117 G S (f + 1) 1 ls (.ref a :: st) h k n = (oV (fget h a 10 23) (WP 117 G S f) 4 ls st h k n) := by rw [wp_s dd_117_1 rfl hs]; rfl
theorem dd_117_4 : decode (mB 117) 4 = .ok (.bipush 16, 2) := by decide +kernel
theorem u_117_4 {G : aG} {S : Nat → Bool} {f : Nat} {st : List Value} {ls : aL} {h : aH} {k n : Nat} (hs : S 4 = false) : WP 117 G S (f + 1) 4 ls st h k n = (WP 117 G S f 6 ls (.int (nI 16) :: st) h k n) := by rw [wp_s dd_117_4 rfl hs]; rfl
theorem dd_117_6 : decode (mB 117) 6 = .ok (.if_icmp .ne 5, 3) := by decide +kernel
theorem u_117_6 {G : aG} {S : Nat → Bool} {f : Nat} {st : List Value} {ls : aL} {h : aH} {k n : Nat} {x y : Int32} (hs : S 6 = false) : WP 117 G S (f + 1) 6 ls (.int y :: .int x :: st) h k n = (if x = y then WP 117 G S f 9 ls st h k n else WP 117 G S f 11 ls st h k n) := by rw [wp_s dd_117_6 rfl hs]; exact br_iten (c := x = y)
theorem dd_117_9 : decode (mB 117) 9 = .ok (.iconst 0, 1) := by decide +kernel
theorem u_117_9 {G : aG} {S : Nat → Bool} {f : Nat} {st : List Value} {ls : aL} {h : aH} {k n : Nat} (hs : S 9 = false) : WP 117 G S (f + 1) 9 ls st h k n = (WP 117 G S f 10 ls (.int (nI 0) :: st) h k n) := by rw [wp_s dd_117_9 rfl hs]; rfl
theorem dd_117_10 : decode (mB 117) 10 = .ok (.ireturn, 1) := by decide +kernel
theorem u_117_10 {G : aG} {S : Nat → Bool} {f : Nat} {ls : aL} {h : aH} {k n : Nat} {x : Int32} (hs : S 10 = false) : WP 117 G S (f + 1) 10 ls [.int x] h k n = (cond (x == nI 0 || x == nI 1) (RET G (some (.int x)) h k n) False) := by rw [wp_s dd_117_10 rfl hs]; rfl
theorem dd_117_11 : decode (mB 117) 11 = .ok (.aload_n 0, 1) := by decide +kernel
theorem u_117_11 {G : aG} {S : Nat → Bool} {f : Nat} {st : List Value} {ls : aL} {h : aH} {k n : Nat} (hs : S 11 = false) : WP 117 G S (f + 1) 11 ls st h k n = (oA (lget ls 0) (WP 117 G S f) 12 ls st h k n) := by rw [wp_s dd_117_11 rfl hs]; rfl
theorem dd_117_12 : decode (mB 117) 12 = .ok (.dup, 1) := by decide +kernel
theorem u_117_12 {G : aG} {S : Nat → Bool} {f : Nat} {st : List Value} {ls : aL} {h : aH} {k n : Nat} {v : Value} (hs : S 12 = false) : WP 117 G S (f + 1) 12 ls (v :: st) h k n = (cond (cat1 v) (WP 117 G S f 13 ls (v :: v :: st) h k n) False) := by rw [wp_s dd_117_12 rfl hs]; rfl
theorem dd_117_13 : decode (mB 117) 13 = .ok (.getfield 146, 3) := by decide +kernel
theorem u_117_13 {G : aG} {S : Nat → Bool} {f : Nat} {st : List Value} {ls : aL} {h : aH} {k n : Nat} {a : Nat} (hs : S 13 = false) : WP 117 G S (f + 1) 13 ls (.ref a :: st) h k n = (oV (fget h a 10 23) (WP 117 G S f) 16 ls st h k n) := by rw [wp_s dd_117_13 rfl hs]; rfl
theorem dd_117_16 : decode (mB 117) 16 = .ok (.iconst 1, 1) := by decide +kernel
theorem u_117_16 {G : aG} {S : Nat → Bool} {f : Nat} {st : List Value} {ls : aL} {h : aH} {k n : Nat} (hs : S 16 = false) : WP 117 G S (f + 1) 16 ls st h k n = (WP 117 G S f 17 ls (.int (nI 1) :: st) h k n) := by rw [wp_s dd_117_16 rfl hs]; rfl
theorem dd_117_17 : decode (mB 117) 17 = .ok (.iadd, 1) := by decide +kernel
theorem u_117_17 {G : aG} {S : Nat → Bool} {f : Nat} {st : List Value} {ls : aL} {h : aH} {k n : Nat} {x y : Int32} (hs : S 17 = false) : WP 117 G S (f + 1) 17 ls (.int y :: .int x :: st) h k n = (WP 117 G S f 18 ls (.int (x + y) :: st) h k n) := by rw [wp_s dd_117_17 rfl hs]; rfl
theorem dd_117_18 : decode (mB 117) 18 = .ok (.putfield 146, 3) := by decide +kernel
theorem u_117_18 {G : aG} {S : Nat → Bool} {f : Nat} {st : List Value} {ls : aL} {h : aH} {k n : Nat} {a : Nat} {x : Int32} (hs : S 18 = false) : WP 117 G S (f + 1) 18 ls (.int x :: .ref a :: st) h k n = (oH (fput h a 10 23 (.int x)) (WP 117 G S f) 21 ls st k n) := by rw [wp_s dd_117_18 rfl hs]; rfl
theorem dd_117_21 : decode (mB 117) 21 = .ok (.iload_n 1, 1) := by decide +kernel
theorem u_117_21 {G : aG} {S : Nat → Bool} {f : Nat} {st : List Value} {ls : aL} {h : aH} {k n : Nat} (hs : S 21 = false) : WP 117 G S (f + 1) 21 ls st h k n = (oI (lget ls 1) (WP 117 G S f) 22 ls st h k n) := by rw [wp_s dd_117_21 rfl hs]; rfl
theorem dd_117_22 : decode (mB 117) 22 = .ok (.bipush 12, 2) := by decide +kernel
theorem u_117_22 {G : aG} {S : Nat → Bool} {f : Nat} {st : List Value} {ls : aL} {h : aH} {k n : Nat} (hs : S 22 = false) : WP 117 G S (f + 1) 22 ls st h k n = (WP 117 G S f 24 ls (.int (nI 12) :: st) h k n) := by rw [wp_s dd_117_22 rfl hs]; rfl
theorem dd_117_24 : decode (mB 117) 24 = .ok (.if_icmp .lt 18, 3) := by decide +kernel
theorem u_117_24 {G : aG} {S : Nat → Bool} {f : Nat} {st : List Value} {ls : aL} {h : aH} {k n : Nat} {x y : Int32} (hs : S 24 = false) : WP 117 G S (f + 1) 24 ls (.int y :: .int x :: st) h k n = (if x < y then WP 117 G S f 42 ls st h k n else WP 117 G S f 27 ls st h k n) := by rw [wp_s dd_117_24 rfl hs]; exact br_ite (c := x < y)
theorem dd_117_27 : decode (mB 117) 27 = .ok (.aload_n 0, 1) := by decide +kernel
theorem u_117_27 {G : aG} {S : Nat → Bool} {f : Nat} {st : List Value} {ls : aL} {h : aH} {k n : Nat} (hs : S 27 = false) : WP 117 G S (f + 1) 27 ls st h k n = (oA (lget ls 0) (WP 117 G S f) 28 ls st h k n) := by rw [wp_s dd_117_27 rfl hs]; rfl
theorem dd_117_28 : decode (mB 117) 28 = .ok (.invokevirtual 132, 3) := by decide +kernel
theorem u_117_28 {G : aG} {S : Nat → Bool} {f : Nat} {st : List Value} {ls : aL} {h : aH} {k n : Nat} {b : Nat} (hs : S 28 = false) : WP 117 G S (f + 1) 28 ls (.ref b :: st) h k n = (rcv (hget h b) 10 ∧ CAL G (WP 117 G S f) 115 [.ref b] 31 ls st h k n) := by rw [wp_s dd_117_28 rfl hs]; rfl
theorem dd_117_31 : decode (mB 117) 31 = .ok (.istore_n 2, 1) := by decide +kernel
theorem u_117_31 {G : aG} {S : Nat → Bool} {f : Nat} {st : List Value} {ls : aL} {h : aH} {k n : Nat} {x : Int32} (hs : S 31 = false) : WP 117 G S (f + 1) 31 ls (.int x :: st) h k n = (WP 117 G S f 32 (lput1 ls 2 (.int x)) st h k n) := by rw [wp_s dd_117_31 rfl hs]; rfl
theorem dd_117_32 : decode (mB 117) 32 = .ok (.aload_n 0, 1) := by decide +kernel
theorem u_117_32 {G : aG} {S : Nat → Bool} {f : Nat} {st : List Value} {ls : aL} {h : aH} {k n : Nat} (hs : S 32 = false) : WP 117 G S (f + 1) 32 ls st h k n = (oA (lget ls 0) (WP 117 G S f) 33 ls st h k n) := by rw [wp_s dd_117_32 rfl hs]; rfl
theorem dd_117_33 : decode (mB 117) 33 = .ok (.iload_n 1, 1) := by decide +kernel
theorem u_117_33 {G : aG} {S : Nat → Bool} {f : Nat} {st : List Value} {ls : aL} {h : aH} {k n : Nat} (hs : S 33 = false) : WP 117 G S (f + 1) 33 ls st h k n = (oI (lget ls 1) (WP 117 G S f) 34 ls st h k n) := by rw [wp_s dd_117_33 rfl hs]; rfl
theorem dd_117_34 : decode (mB 117) 34 = .ok (.iload_n 2, 1) := by decide +kernel
theorem u_117_34 {G : aG} {S : Nat → Bool} {f : Nat} {st : List Value} {ls : aL} {h : aH} {k n : Nat} (hs : S 34 = false) : WP 117 G S (f + 1) 34 ls st h k n = (oI (lget ls 2) (WP 117 G S f) 35 ls st h k n) := by rw [wp_s dd_117_34 rfl hs]; rfl
theorem dd_117_35 : decode (mB 117) 35 = .ok (.iconst (-1), 1) := by decide +kernel
theorem u_117_35 {G : aG} {S : Nat → Bool} {f : Nat} {st : List Value} {ls : aL} {h : aH} {k n : Nat} (hs : S 35 = false) : WP 117 G S (f + 1) 35 ls st h k n = (WP 117 G S f 36 ls (.int (-1) :: st) h k n) := by rw [wp_s dd_117_35 rfl hs]; rfl
theorem dd_117_36 : decode (mB 117) 36 = .ok (.invokevirtual 136, 3) := by decide +kernel
theorem u_117_36 {G : aG} {S : Nat → Bool} {f : Nat} {st : List Value} {ls : aL} {h : aH} {k n : Nat} {v1 v2 v3 : Value} {b : Nat} (hs : S 36 = false) : WP 117 G S (f + 1) 36 ls (v3 :: v2 :: v1 :: .ref b :: st) h k n = (rcv (hget h b) 10 ∧ CAL G (WP 117 G S f) 112 [.ref b, v1, v2, v3] 39 ls st h k n) := by rw [wp_s dd_117_36 rfl hs]; rfl
theorem dd_117_39 : decode (mB 117) 39 = .ok (.goto 28, 3) := by decide +kernel
theorem u_117_39 {G : aG} {S : Nat → Bool} {f : Nat} {st : List Value} {ls : aL} {h : aH} {k n : Nat} (hs : S 39 = false) : WP 117 G S (f + 1) 39 ls st h k n = (WP 117 G S f 67 ls st h k n) := by rw [wp_s dd_117_39 rfl hs]; rfl
theorem dd_117_42 : decode (mB 117) 42 = .ok (.aload_n 0, 1) := by decide +kernel
theorem u_117_42 {G : aG} {S : Nat → Bool} {f : Nat} {st : List Value} {ls : aL} {h : aH} {k n : Nat} (hs : S 42 = false) : WP 117 G S (f + 1) 42 ls st h k n = (oA (lget ls 0) (WP 117 G S f) 43 ls st h k n) := by rw [wp_s dd_117_42 rfl hs]; rfl
theorem dd_117_43 : decode (mB 117) 43 = .ok (.iload_n 1, 1) := by decide +kernel
theorem u_117_43 {G : aG} {S : Nat → Bool} {f : Nat} {st : List Value} {ls : aL} {h : aH} {k n : Nat} (hs : S 43 = false) : WP 117 G S (f + 1) 43 ls st h k n = (oI (lget ls 1) (WP 117 G S f) 44 ls st h k n) := by rw [wp_s dd_117_43 rfl hs]; rfl
theorem dd_117_44 : decode (mB 117) 44 = .ok (.invokevirtual 149, 3) := by decide +kernel
theorem u_117_44 {G : aG} {S : Nat → Bool} {f : Nat} {st : List Value} {ls : aL} {h : aH} {k n : Nat} {v1 : Value} {b : Nat} (hs : S 44 = false) : WP 117 G S (f + 1) 44 ls (v1 :: .ref b :: st) h k n = (rcv (hget h b) 10 ∧ CAL G (WP 117 G S f) 113 [.ref b, v1] 47 ls st h k n) := by rw [wp_s dd_117_44 rfl hs]; rfl
theorem dd_117_47 : decode (mB 117) 47 = .ok (.aload_n 0, 1) := by decide +kernel
theorem u_117_47 {G : aG} {S : Nat → Bool} {f : Nat} {st : List Value} {ls : aL} {h : aH} {k n : Nat} (hs : S 47 = false) : WP 117 G S (f + 1) 47 ls st h k n = (oA (lget ls 0) (WP 117 G S f) 48 ls st h k n) := by rw [wp_s dd_117_47 rfl hs]; rfl
theorem dd_117_48 : decode (mB 117) 48 = .ok (.getfield 58, 3) := by decide +kernel
theorem u_117_48 {G : aG} {S : Nat → Bool} {f : Nat} {st : List Value} {ls : aL} {h : aH} {k n : Nat} {a : Nat} (hs : S 48 = false) : WP 117 G S (f + 1) 48 ls (.ref a :: st) h k n = (oV (fget h a 10 21) (WP 117 G S f) 51 ls st h k n) := by rw [wp_s dd_117_48 rfl hs]; rfl
theorem dd_117_51 : decode (mB 117) 51 = .ok (.aload_n 0, 1) := by decide +kernel
theorem u_117_51 {G : aG} {S : Nat → Bool} {f : Nat} {st : List Value} {ls : aL} {h : aH} {k n : Nat} (hs : S 51 = false) : WP 117 G S (f + 1) 51 ls st h k n = (oA (lget ls 0) (WP 117 G S f) 52 ls st h k n) := by rw [wp_s dd_117_51 rfl hs]; rfl
theorem dd_117_52 : decode (mB 117) 52 = .ok (.getfield 126, 3) := by decide +kernel
theorem u_117_52 {G : aG} {S : Nat → Bool} {f : Nat} {st : List Value} {ls : aL} {h : aH} {k n : Nat} {a : Nat} (hs : S 52 = false) : WP 117 G S (f + 1) 52 ls (.ref a :: st) h k n = (oV (fget h a 10 22) (WP 117 G S f) 55 ls st h k n) := by rw [wp_s dd_117_52 rfl hs]; rfl
theorem dd_117_55 : decode (mB 117) 55 = .ok (.iload_n 1, 1) := by decide +kernel
theorem u_117_55 {G : aG} {S : Nat → Bool} {f : Nat} {st : List Value} {ls : aL} {h : aH} {k n : Nat} (hs : S 55 = false) : WP 117 G S (f + 1) 55 ls st h k n = (oI (lget ls 1) (WP 117 G S f) 56 ls st h k n) := by rw [wp_s dd_117_55 rfl hs]; rfl
theorem dd_117_56 : decode (mB 117) 56 = .ok (.iastore, 1) := by decide +kernel
theorem u_117_56 {G : aG} {S : Nat → Bool} {f : Nat} {st : List Value} {ls : aL} {h : aH} {k n : Nat} {i x : Int32} {a : Nat} (hs : S 56 = false) : WP 117 G S (f + 1) 56 ls (.int x :: .int i :: .ref a :: st) h k n = (oIst (iget h a 1) a i x (WP 117 G S f) 57 ls st h k n) := by rw [wp_s dd_117_56 rfl hs]; rfl
theorem dd_117_57 : decode (mB 117) 57 = .ok (.aload_n 0, 1) := by decide +kernel
theorem u_117_57 {G : aG} {S : Nat → Bool} {f : Nat} {st : List Value} {ls : aL} {h : aH} {k n : Nat} (hs : S 57 = false) : WP 117 G S (f + 1) 57 ls st h k n = (oA (lget ls 0) (WP 117 G S f) 58 ls st h k n) := by rw [wp_s dd_117_57 rfl hs]; rfl
theorem dd_117_58 : decode (mB 117) 58 = .ok (.dup, 1) := by decide +kernel
theorem u_117_58 {G : aG} {S : Nat → Bool} {f : Nat} {st : List Value} {ls : aL} {h : aH} {k n : Nat} {v : Value} (hs : S 58 = false) : WP 117 G S (f + 1) 58 ls (v :: st) h k n = (cond (cat1 v) (WP 117 G S f 59 ls (v :: v :: st) h k n) False) := by rw [wp_s dd_117_58 rfl hs]; rfl
theorem dd_117_59 : decode (mB 117) 59 = .ok (.getfield 126, 3) := by decide +kernel
theorem u_117_59 {G : aG} {S : Nat → Bool} {f : Nat} {st : List Value} {ls : aL} {h : aH} {k n : Nat} {a : Nat} (hs : S 59 = false) : WP 117 G S (f + 1) 59 ls (.ref a :: st) h k n = (oV (fget h a 10 22) (WP 117 G S f) 62 ls st h k n) := by rw [wp_s dd_117_59 rfl hs]; rfl
theorem dd_117_62 : decode (mB 117) 62 = .ok (.iconst 1, 1) := by decide +kernel
theorem u_117_62 {G : aG} {S : Nat → Bool} {f : Nat} {st : List Value} {ls : aL} {h : aH} {k n : Nat} (hs : S 62 = false) : WP 117 G S (f + 1) 62 ls st h k n = (WP 117 G S f 63 ls (.int (nI 1) :: st) h k n) := by rw [wp_s dd_117_62 rfl hs]; rfl
theorem dd_117_63 : decode (mB 117) 63 = .ok (.iadd, 1) := by decide +kernel
theorem u_117_63 {G : aG} {S : Nat → Bool} {f : Nat} {st : List Value} {ls : aL} {h : aH} {k n : Nat} {x y : Int32} (hs : S 63 = false) : WP 117 G S (f + 1) 63 ls (.int y :: .int x :: st) h k n = (WP 117 G S f 64 ls (.int (x + y) :: st) h k n) := by rw [wp_s dd_117_63 rfl hs]; rfl
theorem dd_117_64 : decode (mB 117) 64 = .ok (.putfield 126, 3) := by decide +kernel
theorem u_117_64 {G : aG} {S : Nat → Bool} {f : Nat} {st : List Value} {ls : aL} {h : aH} {k n : Nat} {a : Nat} {x : Int32} (hs : S 64 = false) : WP 117 G S (f + 1) 64 ls (.int x :: .ref a :: st) h k n = (oH (fput h a 10 22 (.int x)) (WP 117 G S f) 67 ls st k n) := by rw [wp_s dd_117_64 rfl hs]; rfl
theorem dd_117_67 : decode (mB 117) 67 = .ok (.iconst 1, 1) := by decide +kernel
theorem u_117_67 {G : aG} {S : Nat → Bool} {f : Nat} {st : List Value} {ls : aL} {h : aH} {k n : Nat} (hs : S 67 = false) : WP 117 G S (f + 1) 67 ls st h k n = (WP 117 G S f 68 ls (.int (nI 1) :: st) h k n) := by rw [wp_s dd_117_67 rfl hs]; rfl
theorem dd_117_68 : decode (mB 117) 68 = .ok (.ireturn, 1) := by decide +kernel
theorem u_117_68 {G : aG} {S : Nat → Bool} {f : Nat} {ls : aL} {h : aH} {k n : Nat} {x : Int32} (hs : S 68 = false) : WP 117 G S (f + 1) 68 ls [.int x] h k n = (cond (x == nI 0 || x == nI 1) (RET G (some (.int x)) h k n) False) := by rw [wp_s dd_117_68 rfl hs]; rfl
theorem dd_118_0 : decode (mB 118) 0 = .ok (.aload_n 0, 1) := by decide +kernel
theorem u_118_0 {G : aG} {S : Nat → Bool} {f : Nat} {st : List Value} {ls : aL} {h : aH} {k n : Nat} (hs : S 0 = false) : WP 118 G S (f + 1) 0 ls st h k n = (oA (lget ls 0) (WP 118 G S f) 1 ls st h k n) := by rw [wp_s dd_118_0 rfl hs]; rfl
theorem dd_118_1 : decode (mB 118) 1 = .ok (.getfield 77, 3) := by decide +kernel
theorem u_118_1 {G : aG} {S : Nat → Bool} {f : Nat} {st : List Value} {ls : aL} {h : aH} {k n : Nat} {a : Nat} (hs : S 1 = false) : WP 118 G S (f + 1) 1 ls (.ref a :: st) h k n = (oV (fget h a 10 2) (WP 118 G S f) 4 ls st h k n) := by rw [wp_s dd_118_1 rfl hs]; rfl
theorem dd_118_4 : decode (mB 118) 4 = .ok (.iconst 4, 1) := by decide +kernel
theorem u_118_4 {G : aG} {S : Nat → Bool} {f : Nat} {st : List Value} {ls : aL} {h : aH} {k n : Nat} (hs : S 4 = false) : WP 118 G S (f + 1) 4 ls st h k n = (WP 118 G S f 5 ls (.int (nI 4) :: st) h k n) := by rw [wp_s dd_118_4 rfl hs]; rfl
theorem dd_118_5 : decode (mB 118) 5 = .ok (.if_icmp .ne 44, 3) := by decide +kernel
theorem u_118_5 {G : aG} {S : Nat → Bool} {f : Nat} {st : List Value} {ls : aL} {h : aH} {k n : Nat} {x y : Int32} (hs : S 5 = false) : WP 118 G S (f + 1) 5 ls (.int y :: .int x :: st) h k n = (if x = y then WP 118 G S f 8 ls st h k n else WP 118 G S f 49 ls st h k n) := by rw [wp_s dd_118_5 rfl hs]; exact br_iten (c := x = y)
theorem dd_118_8 : decode (mB 118) 8 = .ok (.iconst 0, 1) := by decide +kernel
theorem u_118_8 {G : aG} {S : Nat → Bool} {f : Nat} {st : List Value} {ls : aL} {h : aH} {k n : Nat} (hs : S 8 = false) : WP 118 G S (f + 1) 8 ls st h k n = (WP 118 G S f 9 ls (.int (nI 0) :: st) h k n) := by rw [wp_s dd_118_8 rfl hs]; rfl
theorem dd_118_9 : decode (mB 118) 9 = .ok (.istore_n 1, 1) := by decide +kernel
theorem u_118_9 {G : aG} {S : Nat → Bool} {f : Nat} {st : List Value} {ls : aL} {h : aH} {k n : Nat} {x : Int32} (hs : S 9 = false) : WP 118 G S (f + 1) 9 ls (.int x :: st) h k n = (WP 118 G S f 10 (lput1 ls 1 (.int x)) st h k n) := by rw [wp_s dd_118_9 rfl hs]; rfl
theorem dd_118_10 : decode (mB 118) 10 = .ok (.iload_n 1, 1) := by decide +kernel
theorem u_118_10 {G : aG} {S : Nat → Bool} {f : Nat} {st : List Value} {ls : aL} {h : aH} {k n : Nat} (hs : S 10 = false) : WP 118 G S (f + 1) 10 ls st h k n = (oI (lget ls 1) (WP 118 G S f) 11 ls st h k n) := by rw [wp_s dd_118_10 rfl hs]; rfl
theorem v_118_10 {G : aG} {S : Nat → Bool} {f : Nat} {st : List Value} {ls : aL} {h : aH} {k n : Nat} : WQ 118 G S f 10 ls st h k n = (oI (lget ls 1) (WP 118 G S f) 11 ls st h k n) := by rw [wq_s dd_118_10 rfl]; rfl
theorem dd_118_11 : decode (mB 118) 11 = .ok (.sipush 1392, 3) := by decide +kernel
theorem u_118_11 {G : aG} {S : Nat → Bool} {f : Nat} {st : List Value} {ls : aL} {h : aH} {k n : Nat} (hs : S 11 = false) : WP 118 G S (f + 1) 11 ls st h k n = (WP 118 G S f 14 ls (.int (nI 1392) :: st) h k n) := by rw [wp_s dd_118_11 rfl hs]; rfl
theorem dd_118_14 : decode (mB 118) 14 = .ok (.if_icmp .ge 25, 3) := by decide +kernel
theorem u_118_14 {G : aG} {S : Nat → Bool} {f : Nat} {st : List Value} {ls : aL} {h : aH} {k n : Nat} {x y : Int32} (hs : S 14 = false) : WP 118 G S (f + 1) 14 ls (.int y :: .int x :: st) h k n = (if y ≤ x then WP 118 G S f 39 ls st h k n else WP 118 G S f 17 ls st h k n) := by rw [wp_s dd_118_14 rfl hs]; exact br_ite (c := y ≤ x)
theorem dd_118_17 : decode (mB 118) 17 = .ok (.aload_n 0, 1) := by decide +kernel
theorem u_118_17 {G : aG} {S : Nat → Bool} {f : Nat} {st : List Value} {ls : aL} {h : aH} {k n : Nat} (hs : S 17 = false) : WP 118 G S (f + 1) 17 ls st h k n = (oA (lget ls 0) (WP 118 G S f) 18 ls st h k n) := by rw [wp_s dd_118_17 rfl hs]; rfl
theorem dd_118_18 : decode (mB 118) 18 = .ok (.getfield 13, 3) := by decide +kernel
theorem u_118_18 {G : aG} {S : Nat → Bool} {f : Nat} {st : List Value} {ls : aL} {h : aH} {k n : Nat} {a : Nat} (hs : S 18 = false) : WP 118 G S (f + 1) 18 ls (.ref a :: st) h k n = (oV (fget h a 10 1) (WP 118 G S f) 21 ls st h k n) := by rw [wp_s dd_118_18 rfl hs]; rfl
theorem dd_118_21 : decode (mB 118) 21 = .ok (.iload_n 1, 1) := by decide +kernel
theorem u_118_21 {G : aG} {S : Nat → Bool} {f : Nat} {st : List Value} {ls : aL} {h : aH} {k n : Nat} (hs : S 21 = false) : WP 118 G S (f + 1) 21 ls st h k n = (oI (lget ls 1) (WP 118 G S f) 22 ls st h k n) := by rw [wp_s dd_118_21 rfl hs]; rfl
theorem dd_118_22 : decode (mB 118) 22 = .ok (.aload_n 0, 1) := by decide +kernel
theorem u_118_22 {G : aG} {S : Nat → Bool} {f : Nat} {st : List Value} {ls : aL} {h : aH} {k n : Nat} (hs : S 22 = false) : WP 118 G S (f + 1) 22 ls st h k n = (oA (lget ls 0) (WP 118 G S f) 23 ls st h k n) := by rw [wp_s dd_118_22 rfl hs]; rfl
theorem dd_118_23 : decode (mB 118) 23 = .ok (.getfield 13, 3) := by decide +kernel
theorem u_118_23 {G : aG} {S : Nat → Bool} {f : Nat} {st : List Value} {ls : aL} {h : aH} {k n : Nat} {a : Nat} (hs : S 23 = false) : WP 118 G S (f + 1) 23 ls (.ref a :: st) h k n = (oV (fget h a 10 1) (WP 118 G S f) 26 ls st h k n) := by rw [wp_s dd_118_23 rfl hs]; rfl
theorem dd_118_26 : decode (mB 118) 26 = .ok (.iload_n 1, 1) := by decide +kernel
theorem u_118_26 {G : aG} {S : Nat → Bool} {f : Nat} {st : List Value} {ls : aL} {h : aH} {k n : Nat} (hs : S 26 = false) : WP 118 G S (f + 1) 26 ls st h k n = (oI (lget ls 1) (WP 118 G S f) 27 ls st h k n) := by rw [wp_s dd_118_26 rfl hs]; rfl
theorem dd_118_27 : decode (mB 118) 27 = .ok (.sipush 464, 3) := by decide +kernel
theorem u_118_27 {G : aG} {S : Nat → Bool} {f : Nat} {st : List Value} {ls : aL} {h : aH} {k n : Nat} (hs : S 27 = false) : WP 118 G S (f + 1) 27 ls st h k n = (WP 118 G S f 30 ls (.int (nI 464) :: st) h k n) := by rw [wp_s dd_118_27 rfl hs]; rfl
theorem dd_118_30 : decode (mB 118) 30 = .ok (.iadd, 1) := by decide +kernel
theorem u_118_30 {G : aG} {S : Nat → Bool} {f : Nat} {st : List Value} {ls : aL} {h : aH} {k n : Nat} {x y : Int32} (hs : S 30 = false) : WP 118 G S (f + 1) 30 ls (.int y :: .int x :: st) h k n = (WP 118 G S f 31 ls (.int (x + y) :: st) h k n) := by rw [wp_s dd_118_30 rfl hs]; rfl
theorem dd_118_31 : decode (mB 118) 31 = .ok (.iaload, 1) := by decide +kernel
theorem u_118_31 {G : aG} {S : Nat → Bool} {f : Nat} {st : List Value} {ls : aL} {h : aH} {k n : Nat} {i : Int32} {a : Nat} (hs : S 31 = false) : WP 118 G S (f + 1) 31 ls (.int i :: .ref a :: st) h k n = (oIld (iget h a 1) i (WP 118 G S f) 32 ls st h k n) := by rw [wp_s dd_118_31 rfl hs]; rfl
theorem dd_118_32 : decode (mB 118) 32 = .ok (.iastore, 1) := by decide +kernel
theorem u_118_32 {G : aG} {S : Nat → Bool} {f : Nat} {st : List Value} {ls : aL} {h : aH} {k n : Nat} {i x : Int32} {a : Nat} (hs : S 32 = false) : WP 118 G S (f + 1) 32 ls (.int x :: .int i :: .ref a :: st) h k n = (oIst (iget h a 1) a i x (WP 118 G S f) 33 ls st h k n) := by rw [wp_s dd_118_32 rfl hs]; rfl
theorem dd_118_33 : decode (mB 118) 33 = .ok (.iinc 1 1, 3) := by decide +kernel
theorem u_118_33 {G : aG} {S : Nat → Bool} {f : Nat} {st : List Value} {ls : aL} {h : aH} {k n : Nat} (hs : S 33 = false) : WP 118 G S (f + 1) 33 ls st h k n = (oInc (lget ls 1) (nI 1) (WP 118 G S f) 1 36 ls st h k n) := by rw [wp_s dd_118_33 rfl hs]; rfl
theorem dd_118_36 : decode (mB 118) 36 = .ok (.goto (-26), 3) := by decide +kernel
theorem u_118_36 {G : aG} {S : Nat → Bool} {f : Nat} {st : List Value} {ls : aL} {h : aH} {k n : Nat} (hs : S 36 = false) : WP 118 G S (f + 1) 36 ls st h k n = (WP 118 G S f 10 ls st h k n) := by rw [wp_s dd_118_36 rfl hs]; rfl
theorem dd_118_39 : decode (mB 118) 39 = .ok (.aload_n 0, 1) := by decide +kernel
theorem u_118_39 {G : aG} {S : Nat → Bool} {f : Nat} {st : List Value} {ls : aL} {h : aH} {k n : Nat} (hs : S 39 = false) : WP 118 G S (f + 1) 39 ls st h k n = (oA (lget ls 0) (WP 118 G S f) 40 ls st h k n) := by rw [wp_s dd_118_39 rfl hs]; rfl
theorem dd_118_40 : decode (mB 118) 40 = .ok (.dup, 1) := by decide +kernel
theorem u_118_40 {G : aG} {S : Nat → Bool} {f : Nat} {st : List Value} {ls : aL} {h : aH} {k n : Nat} {v : Value} (hs : S 40 = false) : WP 118 G S (f + 1) 40 ls (v :: st) h k n = (cond (cat1 v) (WP 118 G S f 41 ls (v :: v :: st) h k n) False) := by rw [wp_s dd_118_40 rfl hs]; rfl
theorem dd_118_41 : decode (mB 118) 41 = .ok (.getfield 77, 3) := by decide +kernel
theorem u_118_41 {G : aG} {S : Nat → Bool} {f : Nat} {st : List Value} {ls : aL} {h : aH} {k n : Nat} {a : Nat} (hs : S 41 = false) : WP 118 G S (f + 1) 41 ls (.ref a :: st) h k n = (oV (fget h a 10 2) (WP 118 G S f) 44 ls st h k n) := by rw [wp_s dd_118_41 rfl hs]; rfl
theorem dd_118_44 : decode (mB 118) 44 = .ok (.iconst 1, 1) := by decide +kernel
theorem u_118_44 {G : aG} {S : Nat → Bool} {f : Nat} {st : List Value} {ls : aL} {h : aH} {k n : Nat} (hs : S 44 = false) : WP 118 G S (f + 1) 44 ls st h k n = (WP 118 G S f 45 ls (.int (nI 1) :: st) h k n) := by rw [wp_s dd_118_44 rfl hs]; rfl
theorem dd_118_45 : decode (mB 118) 45 = .ok (.isub, 1) := by decide +kernel
theorem u_118_45 {G : aG} {S : Nat → Bool} {f : Nat} {st : List Value} {ls : aL} {h : aH} {k n : Nat} {x y : Int32} (hs : S 45 = false) : WP 118 G S (f + 1) 45 ls (.int y :: .int x :: st) h k n = (WP 118 G S f 46 ls (.int (x - y) :: st) h k n) := by rw [wp_s dd_118_45 rfl hs]; rfl
theorem dd_118_46 : decode (mB 118) 46 = .ok (.putfield 77, 3) := by decide +kernel
theorem u_118_46 {G : aG} {S : Nat → Bool} {f : Nat} {st : List Value} {ls : aL} {h : aH} {k n : Nat} {a : Nat} {x : Int32} (hs : S 46 = false) : WP 118 G S (f + 1) 46 ls (.int x :: .ref a :: st) h k n = (oH (fput h a 10 2 (.int x)) (WP 118 G S f) 49 ls st k n) := by rw [wp_s dd_118_46 rfl hs]; rfl
theorem dd_118_49 : decode (mB 118) 49 = .ok (.iconst 0, 1) := by decide +kernel
theorem u_118_49 {G : aG} {S : Nat → Bool} {f : Nat} {st : List Value} {ls : aL} {h : aH} {k n : Nat} (hs : S 49 = false) : WP 118 G S (f + 1) 49 ls st h k n = (WP 118 G S f 50 ls (.int (nI 0) :: st) h k n) := by rw [wp_s dd_118_49 rfl hs]; rfl
theorem dd_118_50 : decode (mB 118) 50 = .ok (.istore_n 1, 1) := by decide +kernel
theorem u_118_50 {G : aG} {S : Nat → Bool} {f : Nat} {st : List Value} {ls : aL} {h : aH} {k n : Nat} {x : Int32} (hs : S 50 = false) : WP 118 G S (f + 1) 50 ls (.int x :: st) h k n = (WP 118 G S f 51 (lput1 ls 1 (.int x)) st h k n) := by rw [wp_s dd_118_50 rfl hs]; rfl
theorem dd_118_51 : decode (mB 118) 51 = .ok (.iload_n 1, 1) := by decide +kernel
theorem u_118_51 {G : aG} {S : Nat → Bool} {f : Nat} {st : List Value} {ls : aL} {h : aH} {k n : Nat} (hs : S 51 = false) : WP 118 G S (f + 1) 51 ls st h k n = (oI (lget ls 1) (WP 118 G S f) 52 ls st h k n) := by rw [wp_s dd_118_51 rfl hs]; rfl
theorem v_118_51 {G : aG} {S : Nat → Bool} {f : Nat} {st : List Value} {ls : aL} {h : aH} {k n : Nat} : WQ 118 G S f 51 ls st h k n = (oI (lget ls 1) (WP 118 G S f) 52 ls st h k n) := by rw [wq_s dd_118_51 rfl]; rfl
theorem dd_118_52 : decode (mB 118) 52 = .ok (.sipush 464, 3) := by decide +kernel
theorem u_118_52 {G : aG} {S : Nat → Bool} {f : Nat} {st : List Value} {ls : aL} {h : aH} {k n : Nat} (hs : S 52 = false) : WP 118 G S (f + 1) 52 ls st h k n = (WP 118 G S f 55 ls (.int (nI 464) :: st) h k n) := by rw [wp_s dd_118_52 rfl hs]; rfl
theorem dd_118_55 : decode (mB 118) 55 = .ok (.if_icmp .ge 30, 3) := by decide +kernel
theorem u_118_55 {G : aG} {S : Nat → Bool} {f : Nat} {st : List Value} {ls : aL} {h : aH} {k n : Nat} {x y : Int32} (hs : S 55 = false) : WP 118 G S (f + 1) 55 ls (.int y :: .int x :: st) h k n = (if y ≤ x then WP 118 G S f 85 ls st h k n else WP 118 G S f 58 ls st h k n) := by rw [wp_s dd_118_55 rfl hs]; exact br_ite (c := y ≤ x)
theorem dd_118_58 : decode (mB 118) 58 = .ok (.aload_n 0, 1) := by decide +kernel
theorem u_118_58 {G : aG} {S : Nat → Bool} {f : Nat} {st : List Value} {ls : aL} {h : aH} {k n : Nat} (hs : S 58 = false) : WP 118 G S (f + 1) 58 ls st h k n = (oA (lget ls 0) (WP 118 G S f) 59 ls st h k n) := by rw [wp_s dd_118_58 rfl hs]; rfl
theorem dd_118_59 : decode (mB 118) 59 = .ok (.getfield 13, 3) := by decide +kernel
theorem u_118_59 {G : aG} {S : Nat → Bool} {f : Nat} {st : List Value} {ls : aL} {h : aH} {k n : Nat} {a : Nat} (hs : S 59 = false) : WP 118 G S (f + 1) 59 ls (.ref a :: st) h k n = (oV (fget h a 10 1) (WP 118 G S f) 62 ls st h k n) := by rw [wp_s dd_118_59 rfl hs]; rfl
theorem dd_118_62 : decode (mB 118) 62 = .ok (.sipush 464, 3) := by decide +kernel
theorem u_118_62 {G : aG} {S : Nat → Bool} {f : Nat} {st : List Value} {ls : aL} {h : aH} {k n : Nat} (hs : S 62 = false) : WP 118 G S (f + 1) 62 ls st h k n = (WP 118 G S f 65 ls (.int (nI 464) :: st) h k n) := by rw [wp_s dd_118_62 rfl hs]; rfl
theorem dd_118_65 : decode (mB 118) 65 = .ok (.aload_n 0, 1) := by decide +kernel
theorem u_118_65 {G : aG} {S : Nat → Bool} {f : Nat} {st : List Value} {ls : aL} {h : aH} {k n : Nat} (hs : S 65 = false) : WP 118 G S (f + 1) 65 ls st h k n = (oA (lget ls 0) (WP 118 G S f) 66 ls st h k n) := by rw [wp_s dd_118_65 rfl hs]; rfl
theorem dd_118_66 : decode (mB 118) 66 = .ok (.getfield 77, 3) := by decide +kernel
theorem u_118_66 {G : aG} {S : Nat → Bool} {f : Nat} {st : List Value} {ls : aL} {h : aH} {k n : Nat} {a : Nat} (hs : S 66 = false) : WP 118 G S (f + 1) 66 ls (.ref a :: st) h k n = (oV (fget h a 10 2) (WP 118 G S f) 69 ls st h k n) := by rw [wp_s dd_118_66 rfl hs]; rfl
theorem dd_118_69 : decode (mB 118) 69 = .ok (.imul, 1) := by decide +kernel
theorem u_118_69 {G : aG} {S : Nat → Bool} {f : Nat} {st : List Value} {ls : aL} {h : aH} {k n : Nat} {x y : Int32} (hs : S 69 = false) : WP 118 G S (f + 1) 69 ls (.int y :: .int x :: st) h k n = (WP 118 G S f 70 ls (.int (x * y) :: st) h k n) := by rw [wp_s dd_118_69 rfl hs]; rfl
theorem dd_118_70 : decode (mB 118) 70 = .ok (.iload_n 1, 1) := by decide +kernel
theorem u_118_70 {G : aG} {S : Nat → Bool} {f : Nat} {st : List Value} {ls : aL} {h : aH} {k n : Nat} (hs : S 70 = false) : WP 118 G S (f + 1) 70 ls st h k n = (oI (lget ls 1) (WP 118 G S f) 71 ls st h k n) := by rw [wp_s dd_118_70 rfl hs]; rfl
theorem dd_118_71 : decode (mB 118) 71 = .ok (.iadd, 1) := by decide +kernel
theorem u_118_71 {G : aG} {S : Nat → Bool} {f : Nat} {st : List Value} {ls : aL} {h : aH} {k n : Nat} {x y : Int32} (hs : S 71 = false) : WP 118 G S (f + 1) 71 ls (.int y :: .int x :: st) h k n = (WP 118 G S f 72 ls (.int (x + y) :: st) h k n) := by rw [wp_s dd_118_71 rfl hs]; rfl
theorem dd_118_72 : decode (mB 118) 72 = .ok (.aload_n 0, 1) := by decide +kernel
theorem u_118_72 {G : aG} {S : Nat → Bool} {f : Nat} {st : List Value} {ls : aL} {h : aH} {k n : Nat} (hs : S 72 = false) : WP 118 G S (f + 1) 72 ls st h k n = (oA (lget ls 0) (WP 118 G S f) 73 ls st h k n) := by rw [wp_s dd_118_72 rfl hs]; rfl
theorem dd_118_73 : decode (mB 118) 73 = .ok (.getfield 7, 3) := by decide +kernel
theorem u_118_73 {G : aG} {S : Nat → Bool} {f : Nat} {st : List Value} {ls : aL} {h : aH} {k n : Nat} {a : Nat} (hs : S 73 = false) : WP 118 G S (f + 1) 73 ls (.ref a :: st) h k n = (oV (fget h a 10 0) (WP 118 G S f) 76 ls st h k n) := by rw [wp_s dd_118_73 rfl hs]; rfl
theorem dd_118_76 : decode (mB 118) 76 = .ok (.iload_n 1, 1) := by decide +kernel
theorem u_118_76 {G : aG} {S : Nat → Bool} {f : Nat} {st : List Value} {ls : aL} {h : aH} {k n : Nat} (hs : S 76 = false) : WP 118 G S (f + 1) 76 ls st h k n = (oI (lget ls 1) (WP 118 G S f) 77 ls st h k n) := by rw [wp_s dd_118_76 rfl hs]; rfl
theorem dd_118_77 : decode (mB 118) 77 = .ok (.iaload, 1) := by decide +kernel
theorem u_118_77 {G : aG} {S : Nat → Bool} {f : Nat} {st : List Value} {ls : aL} {h : aH} {k n : Nat} {i : Int32} {a : Nat} (hs : S 77 = false) : WP 118 G S (f + 1) 77 ls (.int i :: .ref a :: st) h k n = (oIld (iget h a 1) i (WP 118 G S f) 78 ls st h k n) := by rw [wp_s dd_118_77 rfl hs]; rfl
theorem dd_118_78 : decode (mB 118) 78 = .ok (.iastore, 1) := by decide +kernel
theorem u_118_78 {G : aG} {S : Nat → Bool} {f : Nat} {st : List Value} {ls : aL} {h : aH} {k n : Nat} {i x : Int32} {a : Nat} (hs : S 78 = false) : WP 118 G S (f + 1) 78 ls (.int x :: .int i :: .ref a :: st) h k n = (oIst (iget h a 1) a i x (WP 118 G S f) 79 ls st h k n) := by rw [wp_s dd_118_78 rfl hs]; rfl
theorem dd_118_79 : decode (mB 118) 79 = .ok (.iinc 1 1, 3) := by decide +kernel
theorem u_118_79 {G : aG} {S : Nat → Bool} {f : Nat} {st : List Value} {ls : aL} {h : aH} {k n : Nat} (hs : S 79 = false) : WP 118 G S (f + 1) 79 ls st h k n = (oInc (lget ls 1) (nI 1) (WP 118 G S f) 1 82 ls st h k n) := by rw [wp_s dd_118_79 rfl hs]; rfl
theorem dd_118_82 : decode (mB 118) 82 = .ok (.goto (-31), 3) := by decide +kernel
theorem u_118_82 {G : aG} {S : Nat → Bool} {f : Nat} {st : List Value} {ls : aL} {h : aH} {k n : Nat} (hs : S 82 = false) : WP 118 G S (f + 1) 82 ls st h k n = (WP 118 G S f 51 ls st h k n) := by rw [wp_s dd_118_82 rfl hs]; rfl
theorem dd_118_85 : decode (mB 118) 85 = .ok (.aload_n 0, 1) := by decide +kernel
theorem u_118_85 {G : aG} {S : Nat → Bool} {f : Nat} {st : List Value} {ls : aL} {h : aH} {k n : Nat} (hs : S 85 = false) : WP 118 G S (f + 1) 85 ls st h k n = (oA (lget ls 0) (WP 118 G S f) 86 ls st h k n) := by rw [wp_s dd_118_85 rfl hs]; rfl
theorem dd_118_86 : decode (mB 118) 86 = .ok (.dup, 1) := by decide +kernel
theorem u_118_86 {G : aG} {S : Nat → Bool} {f : Nat} {st : List Value} {ls : aL} {h : aH} {k n : Nat} {v : Value} (hs : S 86 = false) : WP 118 G S (f + 1) 86 ls (v :: st) h k n = (cond (cat1 v) (WP 118 G S f 87 ls (v :: v :: st) h k n) False) := by rw [wp_s dd_118_86 rfl hs]; rfl
theorem dd_118_87 : decode (mB 118) 87 = .ok (.getfield 77, 3) := by decide +kernel
theorem u_118_87 {G : aG} {S : Nat → Bool} {f : Nat} {st : List Value} {ls : aL} {h : aH} {k n : Nat} {a : Nat} (hs : S 87 = false) : WP 118 G S (f + 1) 87 ls (.ref a :: st) h k n = (oV (fget h a 10 2) (WP 118 G S f) 90 ls st h k n) := by rw [wp_s dd_118_87 rfl hs]; rfl
theorem dd_118_90 : decode (mB 118) 90 = .ok (.iconst 1, 1) := by decide +kernel
theorem u_118_90 {G : aG} {S : Nat → Bool} {f : Nat} {st : List Value} {ls : aL} {h : aH} {k n : Nat} (hs : S 90 = false) : WP 118 G S (f + 1) 90 ls st h k n = (WP 118 G S f 91 ls (.int (nI 1) :: st) h k n) := by rw [wp_s dd_118_90 rfl hs]; rfl
theorem dd_118_91 : decode (mB 118) 91 = .ok (.iadd, 1) := by decide +kernel
theorem u_118_91 {G : aG} {S : Nat → Bool} {f : Nat} {st : List Value} {ls : aL} {h : aH} {k n : Nat} {x y : Int32} (hs : S 91 = false) : WP 118 G S (f + 1) 91 ls (.int y :: .int x :: st) h k n = (WP 118 G S f 92 ls (.int (x + y) :: st) h k n) := by rw [wp_s dd_118_91 rfl hs]; rfl
theorem dd_118_92 : decode (mB 118) 92 = .ok (.putfield 77, 3) := by decide +kernel
theorem u_118_92 {G : aG} {S : Nat → Bool} {f : Nat} {st : List Value} {ls : aL} {h : aH} {k n : Nat} {a : Nat} {x : Int32} (hs : S 92 = false) : WP 118 G S (f + 1) 92 ls (.int x :: .ref a :: st) h k n = (oH (fput h a 10 2 (.int x)) (WP 118 G S f) 95 ls st k n) := by rw [wp_s dd_118_92 rfl hs]; rfl
theorem dd_118_95 : decode (mB 118) 95 = .ok (.return_, 1) := by decide +kernel
theorem u_118_95 {G : aG} {S : Nat → Bool} {f : Nat} {ls : aL} {h : aH} {k n : Nat} (hs : S 95 = false) : WP 118 G S (f + 1) 95 ls [] h k n = (RET G none h k n) := by rw [wp_s dd_118_95 rfl hs]; rfl
theorem dd_119_0 : decode (mB 119) 0 = .ok (.iload_n 1, 1) := by decide +kernel
theorem u_119_0 {G : aG} {S : Nat → Bool} {f : Nat} {st : List Value} {ls : aL} {h : aH} {k n : Nat} (hs : S 0 = false) : WP 119 G S (f + 1) 0 ls st h k n = (oI (lget ls 1) (WP 119 G S f) 1 ls st h k n) := by rw [wp_s dd_119_0 rfl hs]; rfl
theorem dd_119_1 : decode (mB 119) 1 = .ok (.invokestatic 177, 3) := by decide +kernel
theorem u_119_1 {G : aG} {S : Nat → Bool} {f : Nat} {st : List Value} {ls : aL} {h : aH} {k n : Nat} {v1 : Value} (hs : S 1 = false) : WP 119 G S (f + 1) 1 ls (v1 :: st) h k n = (CAL G (WP 119 G S f) 120 [v1] 4 ls st h k n) := by rw [wp_s dd_119_1 rfl hs]; rfl
theorem dd_119_4 : decode (mB 119) 4 = .ok (.ifCond .ne 10, 3) := by decide +kernel
theorem u_119_4 {G : aG} {S : Nat → Bool} {f : Nat} {st : List Value} {ls : aL} {h : aH} {k n : Nat} {x : Int32} (hs : S 4 = false) : WP 119 G S (f + 1) 4 ls (.int x :: st) h k n = (if x = nI 0 then WP 119 G S f 7 ls st h k n else WP 119 G S f 14 ls st h k n) := by rw [wp_s dd_119_4 rfl hs]; exact br_iten (c := x = nI 0)
theorem dd_119_7 : decode (mB 119) 7 = .ok (.aload_n 0, 1) := by decide +kernel
theorem u_119_7 {G : aG} {S : Nat → Bool} {f : Nat} {st : List Value} {ls : aL} {h : aH} {k n : Nat} (hs : S 7 = false) : WP 119 G S (f + 1) 7 ls st h k n = (oA (lget ls 0) (WP 119 G S f) 8 ls st h k n) := by rw [wp_s dd_119_7 rfl hs]; rfl
theorem dd_119_8 : decode (mB 119) 8 = .ok (.bipush (-2), 2) := by decide +kernel
theorem u_119_8 {G : aG} {S : Nat → Bool} {f : Nat} {st : List Value} {ls : aL} {h : aH} {k n : Nat} (hs : S 8 = false) : WP 119 G S (f + 1) 8 ls st h k n = (WP 119 G S f 10 ls (.int (-2) :: st) h k n) := by rw [wp_s dd_119_8 rfl hs]; rfl
theorem dd_119_10 : decode (mB 119) 10 = .ok (.invokevirtual 113, 3) := by decide +kernel
theorem u_119_10 {G : aG} {S : Nat → Bool} {f : Nat} {st : List Value} {ls : aL} {h : aH} {k n : Nat} {v1 : Value} {b : Nat} (hs : S 10 = false) : WP 119 G S (f + 1) 10 ls (v1 :: .ref b :: st) h k n = (rcv (hget h b) 10 ∧ CAL G (WP 119 G S f) 105 [.ref b, v1] 13 ls st h k n) := by rw [wp_s dd_119_10 rfl hs]; rfl
theorem dd_119_13 : decode (mB 119) 13 = .ok (.ireturn, 1) := by decide +kernel
theorem u_119_13 {G : aG} {S : Nat → Bool} {f : Nat} {ls : aL} {h : aH} {k n : Nat} {x : Int32} (hs : S 13 = false) : WP 119 G S (f + 1) 13 ls [.int x] h k n = (RET G (some (.int x)) h k n) := by rw [wp_s dd_119_13 rfl hs]; rfl
theorem dd_119_14 : decode (mB 119) 14 = .ok (.aload_n 0, 1) := by decide +kernel
theorem u_119_14 {G : aG} {S : Nat → Bool} {f : Nat} {st : List Value} {ls : aL} {h : aH} {k n : Nat} (hs : S 14 = false) : WP 119 G S (f + 1) 14 ls st h k n = (oA (lget ls 0) (WP 119 G S f) 15 ls st h k n) := by rw [wp_s dd_119_14 rfl hs]; rfl
theorem dd_119_15 : decode (mB 119) 15 = .ok (.invokevirtual 172, 3) := by decide +kernel
theorem u_119_15 {G : aG} {S : Nat → Bool} {f : Nat} {st : List Value} {ls : aL} {h : aH} {k n : Nat} {b : Nat} (hs : S 15 = false) : WP 119 G S (f + 1) 15 ls (.ref b :: st) h k n = (rcv (hget h b) 10 ∧ CAL G (WP 119 G S f) 118 [.ref b] 18 ls st h k n) := by rw [wp_s dd_119_15 rfl hs]; rfl
theorem dd_119_18 : decode (mB 119) 18 = .ok (.aload_n 0, 1) := by decide +kernel
theorem u_119_18 {G : aG} {S : Nat → Bool} {f : Nat} {st : List Value} {ls : aL} {h : aH} {k n : Nat} (hs : S 18 = false) : WP 119 G S (f + 1) 18 ls st h k n = (oA (lget ls 0) (WP 119 G S f) 19 ls st h k n) := by rw [wp_s dd_119_18 rfl hs]; rfl
theorem dd_119_19 : decode (mB 119) 19 = .ok (.iload_n 1, 1) := by decide +kernel
theorem u_119_19 {G : aG} {S : Nat → Bool} {f : Nat} {st : List Value} {ls : aL} {h : aH} {k n : Nat} (hs : S 19 = false) : WP 119 G S (f + 1) 19 ls st h k n = (oI (lget ls 1) (WP 119 G S f) 20 ls st h k n) := by rw [wp_s dd_119_19 rfl hs]; rfl
theorem dd_119_20 : decode (mB 119) 20 = .ok (.invokevirtual 70, 3) := by decide +kernel
theorem u_119_20 {G : aG} {S : Nat → Bool} {f : Nat} {st : List Value} {ls : aL} {h : aH} {k n : Nat} {v1 : Value} {b : Nat} (hs : S 20 = false) : WP 119 G S (f + 1) 20 ls (v1 :: .ref b :: st) h k n = (rcv (hget h b) 10 ∧ CAL G (WP 119 G S f) 101 [.ref b, v1] 23 ls st h k n) := by rw [wp_s dd_119_20 rfl hs]; rfl
theorem dd_119_23 : decode (mB 119) 23 = .ok (.aload_n 0, 1) := by decide +kernel
theorem u_119_23 {G : aG} {S : Nat → Bool} {f : Nat} {st : List Value} {ls : aL} {h : aH} {k n : Nat} (hs : S 23 = false) : WP 119 G S (f + 1) 23 ls st h k n = (oA (lget ls 0) (WP 119 G S f) 24 ls st h k n) := by rw [wp_s dd_119_23 rfl hs]; rfl
theorem dd_119_24 : decode (mB 119) 24 = .ok (.invokevirtual 74, 3) := by decide +kernel
theorem u_119_24 {G : aG} {S : Nat → Bool} {f : Nat} {st : List Value} {ls : aL} {h : aH} {k n : Nat} {b : Nat} (hs : S 24 = false) : WP 119 G S (f + 1) 24 ls (.ref b :: st) h k n = (rcv (hget h b) 10 ∧ CAL G (WP 119 G S f) 102 [.ref b] 27 ls st h k n) := by rw [wp_s dd_119_24 rfl hs]; rfl
theorem dd_119_27 : decode (mB 119) 27 = .ok (.iconst 1, 1) := by decide +kernel
theorem u_119_27 {G : aG} {S : Nat → Bool} {f : Nat} {st : List Value} {ls : aL} {h : aH} {k n : Nat} (hs : S 27 = false) : WP 119 G S (f + 1) 27 ls st h k n = (WP 119 G S f 28 ls (.int (nI 1) :: st) h k n) := by rw [wp_s dd_119_27 rfl hs]; rfl
theorem dd_119_28 : decode (mB 119) 28 = .ok (.ireturn, 1) := by decide +kernel
theorem u_119_28 {G : aG} {S : Nat → Bool} {f : Nat} {ls : aL} {h : aH} {k n : Nat} {x : Int32} (hs : S 28 = false) : WP 119 G S (f + 1) 28 ls [.int x] h k n = (RET G (some (.int x)) h k n) := by rw [wp_s dd_119_28 rfl hs]; rfl
theorem dd_120_0 : decode (mB 120) 0 = .ok (.iload_n 0, 1) := by decide +kernel
theorem u_120_0 {G : aG} {S : Nat → Bool} {f : Nat} {st : List Value} {ls : aL} {h : aH} {k n : Nat} (hs : S 0 = false) : WP 120 G S (f + 1) 0 ls st h k n = (oI (lget ls 0) (WP 120 G S f) 1 ls st h k n) := by rw [wp_s dd_120_0 rfl hs]; rfl
theorem dd_120_1 : decode (mB 120) 1 = .ok (.i2l, 1) := by decide +kernel
theorem u_120_1 {G : aG} {S : Nat → Bool} {f : Nat} {st : List Value} {ls : aL} {h : aH} {k n : Nat} {x : Int32} (hs : S 1 = false) : WP 120 G S (f + 1) 1 ls (.int x :: st) h k n = (WP 120 G S f 2 ls (.long x.toInt64 :: st) h k n) := by rw [wp_s dd_120_1 rfl hs]; rfl
theorem dd_120_2 : decode (mB 120) 2 = .ok (.lconst 0, 1) := by decide +kernel
theorem u_120_2 {G : aG} {S : Nat → Bool} {f : Nat} {st : List Value} {ls : aL} {h : aH} {k n : Nat} (hs : S 2 = false) : WP 120 G S (f + 1) 2 ls st h k n = (WP 120 G S f 3 ls (.long (lN 0) :: st) h k n) := by rw [wp_s dd_120_2 rfl hs]; rfl
theorem dd_120_3 : decode (mB 120) 3 = .ok (.ldc2_w 175, 3) := by decide +kernel
theorem u_120_3 {G : aG} {S : Nat → Bool} {f : Nat} {st : List Value} {ls : aL} {h : aH} {k n : Nat} (hs : S 3 = false) : WP 120 G S (f + 1) 3 ls st h k n = (WP 120 G S f 6 ls (.long (lN 8) :: st) h k n) := by rw [wp_s dd_120_3 rfl hs]; rfl
theorem dd_120_6 : decode (mB 120) 6 = .ok (.invokestatic 109, 3) := by decide +kernel
theorem u_120_6 {G : aG} {S : Nat → Bool} {f : Nat} {st : List Value} {ls : aL} {h : aH} {k n : Nat} {v1 v2 v3 : Value} (hs : S 6 = false) : WP 120 G S (f + 1) 6 ls (v3 :: v2 :: v1 :: st) h k n = (CAL G (WP 120 G S f) 104 [v1, v2, v3] 9 ls st h k n) := by rw [wp_s dd_120_6 rfl hs]; rfl
theorem dd_120_9 : decode (mB 120) 9 = .ok (.ireturn, 1) := by decide +kernel
theorem u_120_9 {G : aG} {S : Nat → Bool} {f : Nat} {ls : aL} {h : aH} {k n : Nat} {x : Int32} (hs : S 9 = false) : WP 120 G S (f + 1) 9 ls [.int x] h k n = (cond (x == nI 0 || x == nI 1) (RET G (some (.int x)) h k n) False) := by rw [wp_s dd_120_9 rfl hs]; rfl
theorem dd_121_0 : decode (mB 121) 0 = .ok (.iload_n 1, 1) := by decide +kernel
theorem u_121_0 {G : aG} {S : Nat → Bool} {f : Nat} {st : List Value} {ls : aL} {h : aH} {k n : Nat} (hs : S 0 = false) : WP 121 G S (f + 1) 0 ls st h k n = (oI (lget ls 1) (WP 121 G S f) 1 ls st h k n) := by rw [wp_s dd_121_0 rfl hs]; rfl
theorem dd_121_1 : decode (mB 121) 1 = .ok (.invokestatic 177, 3) := by decide +kernel
theorem u_121_1 {G : aG} {S : Nat → Bool} {f : Nat} {st : List Value} {ls : aL} {h : aH} {k n : Nat} {v1 : Value} (hs : S 1 = false) : WP 121 G S (f + 1) 1 ls (v1 :: st) h k n = (CAL G (WP 121 G S f) 120 [v1] 4 ls st h k n) := by rw [wp_s dd_121_1 rfl hs]; rfl
theorem dd_121_4 : decode (mB 121) 4 = .ok (.ifCond .eq 24, 3) := by decide +kernel
theorem u_121_4 {G : aG} {S : Nat → Bool} {f : Nat} {st : List Value} {ls : aL} {h : aH} {k n : Nat} {x : Int32} (hs : S 4 = false) : WP 121 G S (f + 1) 4 ls (.int x :: st) h k n = (if x = nI 0 then WP 121 G S f 28 ls st h k n else WP 121 G S f 7 ls st h k n) := by rw [wp_s dd_121_4 rfl hs]; exact br_ite (c := x = nI 0)
theorem dd_121_7 : decode (mB 121) 7 = .ok (.iload_n 2, 1) := by decide +kernel
theorem u_121_7 {G : aG} {S : Nat → Bool} {f : Nat} {st : List Value} {ls : aL} {h : aH} {k n : Nat} (hs : S 7 = false) : WP 121 G S (f + 1) 7 ls st h k n = (oI (lget ls 2) (WP 121 G S f) 8 ls st h k n) := by rw [wp_s dd_121_7 rfl hs]; rfl
theorem dd_121_8 : decode (mB 121) 8 = .ok (.i2l, 1) := by decide +kernel
theorem u_121_8 {G : aG} {S : Nat → Bool} {f : Nat} {st : List Value} {ls : aL} {h : aH} {k n : Nat} {x : Int32} (hs : S 8 = false) : WP 121 G S (f + 1) 8 ls (.int x :: st) h k n = (WP 121 G S f 9 ls (.long x.toInt64 :: st) h k n) := by rw [wp_s dd_121_8 rfl hs]; rfl
theorem dd_121_9 : decode (mB 121) 9 = .ok (.lconst 0, 1) := by decide +kernel
theorem u_121_9 {G : aG} {S : Nat → Bool} {f : Nat} {st : List Value} {ls : aL} {h : aH} {k n : Nat} (hs : S 9 = false) : WP 121 G S (f + 1) 9 ls st h k n = (WP 121 G S f 10 ls (.long (lN 0) :: st) h k n) := by rw [wp_s dd_121_9 rfl hs]; rfl
theorem dd_121_10 : decode (mB 121) 10 = .ok (.ldc2_w 192, 3) := by decide +kernel
theorem u_121_10 {G : aG} {S : Nat → Bool} {f : Nat} {st : List Value} {ls : aL} {h : aH} {k n : Nat} (hs : S 10 = false) : WP 121 G S (f + 1) 10 ls st h k n = (WP 121 G S f 13 ls (.long (lN 3) :: st) h k n) := by rw [wp_s dd_121_10 rfl hs]; rfl
theorem dd_121_13 : decode (mB 121) 13 = .ok (.invokestatic 109, 3) := by decide +kernel
theorem u_121_13 {G : aG} {S : Nat → Bool} {f : Nat} {st : List Value} {ls : aL} {h : aH} {k n : Nat} {v1 v2 v3 : Value} (hs : S 13 = false) : WP 121 G S (f + 1) 13 ls (v3 :: v2 :: v1 :: st) h k n = (CAL G (WP 121 G S f) 104 [v1, v2, v3] 16 ls st h k n) := by rw [wp_s dd_121_13 rfl hs]; rfl
theorem dd_121_16 : decode (mB 121) 16 = .ok (.ifCond .eq 12, 3) := by decide +kernel
theorem u_121_16 {G : aG} {S : Nat → Bool} {f : Nat} {st : List Value} {ls : aL} {h : aH} {k n : Nat} {x : Int32} (hs : S 16 = false) : WP 121 G S (f + 1) 16 ls (.int x :: st) h k n = (if x = nI 0 then WP 121 G S f 28 ls st h k n else WP 121 G S f 19 ls st h k n) := by rw [wp_s dd_121_16 rfl hs]; exact br_ite (c := x = nI 0)
theorem dd_121_19 : decode (mB 121) 19 = .ok (.aload_n 0, 1) := by decide +kernel
theorem u_121_19 {G : aG} {S : Nat → Bool} {f : Nat} {st : List Value} {ls : aL} {h : aH} {k n : Nat} (hs : S 19 = false) : WP 121 G S (f + 1) 19 ls st h k n = (oA (lget ls 0) (WP 121 G S f) 20 ls st h k n) := by rw [wp_s dd_121_19 rfl hs]; rfl
theorem dd_121_20 : decode (mB 121) 20 = .ok (.iload_n 1, 1) := by decide +kernel
theorem u_121_20 {G : aG} {S : Nat → Bool} {f : Nat} {st : List Value} {ls : aL} {h : aH} {k n : Nat} (hs : S 20 = false) : WP 121 G S (f + 1) 20 ls st h k n = (oI (lget ls 1) (WP 121 G S f) 21 ls st h k n) := by rw [wp_s dd_121_20 rfl hs]; rfl
theorem dd_121_21 : decode (mB 121) 21 = .ok (.iload_n 2, 1) := by decide +kernel
theorem u_121_21 {G : aG} {S : Nat → Bool} {f : Nat} {st : List Value} {ls : aL} {h : aH} {k n : Nat} (hs : S 21 = false) : WP 121 G S (f + 1) 21 ls st h k n = (oI (lget ls 2) (WP 121 G S f) 22 ls st h k n) := by rw [wp_s dd_121_21 rfl hs]; rfl
theorem dd_121_22 : decode (mB 121) 22 = .ok (.invokevirtual 194, 3) := by decide +kernel
theorem u_121_22 {G : aG} {S : Nat → Bool} {f : Nat} {st : List Value} {ls : aL} {h : aH} {k n : Nat} {v1 v2 : Value} {b : Nat} (hs : S 22 = false) : WP 121 G S (f + 1) 22 ls (v2 :: v1 :: .ref b :: st) h k n = (rcv (hget h b) 10 ∧ CAL G (WP 121 G S f) 122 [.ref b, v1, v2] 25 ls st h k n) := by rw [wp_s dd_121_22 rfl hs]; rfl
theorem dd_121_25 : decode (mB 121) 25 = .ok (.goto 9, 3) := by decide +kernel
theorem u_121_25 {G : aG} {S : Nat → Bool} {f : Nat} {st : List Value} {ls : aL} {h : aH} {k n : Nat} (hs : S 25 = false) : WP 121 G S (f + 1) 25 ls st h k n = (WP 121 G S f 34 ls st h k n) := by rw [wp_s dd_121_25 rfl hs]; rfl
theorem dd_121_28 : decode (mB 121) 28 = .ok (.aload_n 0, 1) := by decide +kernel
theorem u_121_28 {G : aG} {S : Nat → Bool} {f : Nat} {st : List Value} {ls : aL} {h : aH} {k n : Nat} (hs : S 28 = false) : WP 121 G S (f + 1) 28 ls st h k n = (oA (lget ls 0) (WP 121 G S f) 29 ls st h k n) := by rw [wp_s dd_121_28 rfl hs]; rfl
theorem dd_121_29 : decode (mB 121) 29 = .ok (.bipush (-2), 2) := by decide +kernel
theorem u_121_29 {G : aG} {S : Nat → Bool} {f : Nat} {st : List Value} {ls : aL} {h : aH} {k n : Nat} (hs : S 29 = false) : WP 121 G S (f + 1) 29 ls st h k n = (WP 121 G S f 31 ls (.int (-2) :: st) h k n) := by rw [wp_s dd_121_29 rfl hs]; rfl
theorem dd_121_31 : decode (mB 121) 31 = .ok (.invokevirtual 113, 3) := by decide +kernel
theorem u_121_31 {G : aG} {S : Nat → Bool} {f : Nat} {st : List Value} {ls : aL} {h : aH} {k n : Nat} {v1 : Value} {b : Nat} (hs : S 31 = false) : WP 121 G S (f + 1) 31 ls (v1 :: .ref b :: st) h k n = (rcv (hget h b) 10 ∧ CAL G (WP 121 G S f) 105 [.ref b, v1] 34 ls st h k n) := by rw [wp_s dd_121_31 rfl hs]; rfl
theorem dd_121_34 : decode (mB 121) 34 = .ok (.ireturn, 1) := by decide +kernel
theorem u_121_34 {G : aG} {S : Nat → Bool} {f : Nat} {ls : aL} {h : aH} {k n : Nat} {x : Int32} (hs : S 34 = false) : WP 121 G S (f + 1) 34 ls [.int x] h k n = (RET G (some (.int x)) h k n) := by rw [wp_s dd_121_34 rfl hs]; rfl
theorem dd_122_0 : decode (mB 122) 0 = .ok (.aload_n 0, 1) := by decide +kernel
theorem u_122_0 {G : aG} {S : Nat → Bool} {f : Nat} {st : List Value} {ls : aL} {h : aH} {k n : Nat} (hs : S 0 = false) : WP 122 G S (f + 1) 0 ls st h k n = (oA (lget ls 0) (WP 122 G S f) 1 ls st h k n) := by rw [wp_s dd_122_0 rfl hs]; rfl
theorem dd_122_1 : decode (mB 122) 1 = .ok (.iload_n 1, 1) := by decide +kernel
theorem u_122_1 {G : aG} {S : Nat → Bool} {f : Nat} {st : List Value} {ls : aL} {h : aH} {k n : Nat} (hs : S 1 = false) : WP 122 G S (f + 1) 1 ls st h k n = (oI (lget ls 1) (WP 122 G S f) 2 ls st h k n) := by rw [wp_s dd_122_1 rfl hs]; rfl
theorem dd_122_2 : decode (mB 122) 2 = .ok (.invokevirtual 180, 3) := by decide +kernel
theorem u_122_2 {G : aG} {S : Nat → Bool} {f : Nat} {st : List Value} {ls : aL} {h : aH} {k n : Nat} {v1 : Value} {b : Nat} (hs : S 2 = false) : WP 122 G S (f + 1) 2 ls (v1 :: .ref b :: st) h k n = (rcv (hget h b) 10 ∧ CAL G (WP 122 G S f) 123 [.ref b, v1] 5 ls st h k n) := by rw [wp_s dd_122_2 rfl hs]; rfl
theorem dd_122_5 : decode (mB 122) 5 = .ok (.iload_n 2, 1) := by decide +kernel
theorem u_122_5 {G : aG} {S : Nat → Bool} {f : Nat} {st : List Value} {ls : aL} {h : aH} {k n : Nat} (hs : S 5 = false) : WP 122 G S (f + 1) 5 ls st h k n = (oI (lget ls 2) (WP 122 G S f) 6 ls st h k n) := by rw [wp_s dd_122_5 rfl hs]; rfl
theorem dd_122_6 : decode (mB 122) 6 = .ok (.ifCond .ne 15, 3) := by decide +kernel
theorem u_122_6 {G : aG} {S : Nat → Bool} {f : Nat} {st : List Value} {ls : aL} {h : aH} {k n : Nat} {x : Int32} (hs : S 6 = false) : WP 122 G S (f + 1) 6 ls (.int x :: st) h k n = (if x = nI 0 then WP 122 G S f 9 ls st h k n else WP 122 G S f 21 ls st h k n) := by rw [wp_s dd_122_6 rfl hs]; exact br_iten (c := x = nI 0)
theorem dd_122_9 : decode (mB 122) 9 = .ok (.aload_n 0, 1) := by decide +kernel
theorem u_122_9 {G : aG} {S : Nat → Bool} {f : Nat} {st : List Value} {ls : aL} {h : aH} {k n : Nat} (hs : S 9 = false) : WP 122 G S (f + 1) 9 ls st h k n = (oA (lget ls 0) (WP 122 G S f) 10 ls st h k n) := by rw [wp_s dd_122_9 rfl hs]; rfl
theorem dd_122_10 : decode (mB 122) 10 = .ok (.getfield 37, 3) := by decide +kernel
theorem u_122_10 {G : aG} {S : Nat → Bool} {f : Nat} {st : List Value} {ls : aL} {h : aH} {k n : Nat} {a : Nat} (hs : S 10 = false) : WP 122 G S (f + 1) 10 ls (.ref a :: st) h k n = (oV (fget h a 10 11) (WP 122 G S f) 13 ls st h k n) := by rw [wp_s dd_122_10 rfl hs]; rfl
theorem dd_122_13 : decode (mB 122) 13 = .ok (.aload_n 0, 1) := by decide +kernel
theorem u_122_13 {G : aG} {S : Nat → Bool} {f : Nat} {st : List Value} {ls : aL} {h : aH} {k n : Nat} (hs : S 13 = false) : WP 122 G S (f + 1) 13 ls st h k n = (oA (lget ls 0) (WP 122 G S f) 14 ls st h k n) := by rw [wp_s dd_122_13 rfl hs]; rfl
theorem dd_122_14 : decode (mB 122) 14 = .ok (.getfield 81, 3) := by decide +kernel
theorem u_122_14 {G : aG} {S : Nat → Bool} {f : Nat} {st : List Value} {ls : aL} {h : aH} {k n : Nat} {a : Nat} (hs : S 14 = false) : WP 122 G S (f + 1) 14 ls (.ref a :: st) h k n = (oV (fget h a 10 4) (WP 122 G S f) 17 ls st h k n) := by rw [wp_s dd_122_14 rfl hs]; rfl
theorem dd_122_17 : decode (mB 122) 17 = .ok (.iconst 1, 1) := by decide +kernel
theorem u_122_17 {G : aG} {S : Nat → Bool} {f : Nat} {st : List Value} {ls : aL} {h : aH} {k n : Nat} (hs : S 17 = false) : WP 122 G S (f + 1) 17 ls st h k n = (WP 122 G S f 18 ls (.int (nI 1) :: st) h k n) := by rw [wp_s dd_122_17 rfl hs]; rfl
theorem dd_122_18 : decode (mB 122) 18 = .ok (.isub, 1) := by decide +kernel
theorem u_122_18 {G : aG} {S : Nat → Bool} {f : Nat} {st : List Value} {ls : aL} {h : aH} {k n : Nat} {x y : Int32} (hs : S 18 = false) : WP 122 G S (f + 1) 18 ls (.int y :: .int x :: st) h k n = (WP 122 G S f 19 ls (.int (x - y) :: st) h k n) := by rw [wp_s dd_122_18 rfl hs]; rfl
theorem dd_122_19 : decode (mB 122) 19 = .ok (.iaload, 1) := by decide +kernel
theorem u_122_19 {G : aG} {S : Nat → Bool} {f : Nat} {st : List Value} {ls : aL} {h : aH} {k n : Nat} {i : Int32} {a : Nat} (hs : S 19 = false) : WP 122 G S (f + 1) 19 ls (.int i :: .ref a :: st) h k n = (oIld (iget h a 1) i (WP 122 G S f) 20 ls st h k n) := by rw [wp_s dd_122_19 rfl hs]; rfl
theorem dd_122_20 : decode (mB 122) 20 = .ok (.ireturn, 1) := by decide +kernel
theorem u_122_20 {G : aG} {S : Nat → Bool} {f : Nat} {ls : aL} {h : aH} {k n : Nat} {x : Int32} (hs : S 20 = false) : WP 122 G S (f + 1) 20 ls [.int x] h k n = (RET G (some (.int x)) h k n) := by rw [wp_s dd_122_20 rfl hs]; rfl
theorem dd_122_21 : decode (mB 122) 21 = .ok (.iload_n 2, 1) := by decide +kernel
theorem u_122_21 {G : aG} {S : Nat → Bool} {f : Nat} {st : List Value} {ls : aL} {h : aH} {k n : Nat} (hs : S 21 = false) : WP 122 G S (f + 1) 21 ls st h k n = (oI (lget ls 2) (WP 122 G S f) 22 ls st h k n) := by rw [wp_s dd_122_21 rfl hs]; rfl
theorem dd_122_22 : decode (mB 122) 22 = .ok (.iconst 3, 1) := by decide +kernel
theorem u_122_22 {G : aG} {S : Nat → Bool} {f : Nat} {st : List Value} {ls : aL} {h : aH} {k n : Nat} (hs : S 22 = false) : WP 122 G S (f + 1) 22 ls st h k n = (WP 122 G S f 23 ls (.int (nI 3) :: st) h k n) := by rw [wp_s dd_122_22 rfl hs]; rfl
theorem dd_122_23 : decode (mB 122) 23 = .ok (.if_icmp .ne 8, 3) := by decide +kernel
theorem u_122_23 {G : aG} {S : Nat → Bool} {f : Nat} {st : List Value} {ls : aL} {h : aH} {k n : Nat} {x y : Int32} (hs : S 23 = false) : WP 122 G S (f + 1) 23 ls (.int y :: .int x :: st) h k n = (if x = y then WP 122 G S f 26 ls st h k n else WP 122 G S f 31 ls st h k n) := by rw [wp_s dd_122_23 rfl hs]; exact br_iten (c := x = y)
theorem dd_122_26 : decode (mB 122) 26 = .ok (.aload_n 0, 1) := by decide +kernel
theorem u_122_26 {G : aG} {S : Nat → Bool} {f : Nat} {st : List Value} {ls : aL} {h : aH} {k n : Nat} (hs : S 26 = false) : WP 122 G S (f + 1) 26 ls st h k n = (oA (lget ls 0) (WP 122 G S f) 27 ls st h k n) := by rw [wp_s dd_122_26 rfl hs]; rfl
theorem dd_122_27 : decode (mB 122) 27 = .ok (.invokevirtual 183, 3) := by decide +kernel
theorem u_122_27 {G : aG} {S : Nat → Bool} {f : Nat} {st : List Value} {ls : aL} {h : aH} {k n : Nat} {b : Nat} (hs : S 27 = false) : WP 122 G S (f + 1) 27 ls (.ref b :: st) h k n = (rcv (hget h b) 10 ∧ CAL G (WP 122 G S f) 125 [.ref b] 30 ls st h k n) := by rw [wp_s dd_122_27 rfl hs]; rfl
theorem dd_122_30 : decode (mB 122) 30 = .ok (.ireturn, 1) := by decide +kernel
theorem u_122_30 {G : aG} {S : Nat → Bool} {f : Nat} {ls : aL} {h : aH} {k n : Nat} {x : Int32} (hs : S 30 = false) : WP 122 G S (f + 1) 30 ls [.int x] h k n = (RET G (some (.int x)) h k n) := by rw [wp_s dd_122_30 rfl hs]; rfl
theorem dd_122_31 : decode (mB 122) 31 = .ok (.iload_n 2, 1) := by decide +kernel
theorem u_122_31 {G : aG} {S : Nat → Bool} {f : Nat} {st : List Value} {ls : aL} {h : aH} {k n : Nat} (hs : S 31 = false) : WP 122 G S (f + 1) 31 ls st h k n = (oI (lget ls 2) (WP 122 G S f) 32 ls st h k n) := by rw [wp_s dd_122_31 rfl hs]; rfl
theorem dd_122_32 : decode (mB 122) 32 = .ok (.iconst 1, 1) := by decide +kernel
theorem u_122_32 {G : aG} {S : Nat → Bool} {f : Nat} {st : List Value} {ls : aL} {h : aH} {k n : Nat} (hs : S 32 = false) : WP 122 G S (f + 1) 32 ls st h k n = (WP 122 G S f 33 ls (.int (nI 1) :: st) h k n) := by rw [wp_s dd_122_32 rfl hs]; rfl
theorem dd_122_33 : decode (mB 122) 33 = .ok (.if_icmp .ne 14, 3) := by decide +kernel
theorem u_122_33 {G : aG} {S : Nat → Bool} {f : Nat} {st : List Value} {ls : aL} {h : aH} {k n : Nat} {x y : Int32} (hs : S 33 = false) : WP 122 G S (f + 1) 33 ls (.int y :: .int x :: st) h k n = (if x = y then WP 122 G S f 36 ls st h k n else WP 122 G S f 47 ls st h k n) := by rw [wp_s dd_122_33 rfl hs]; exact br_iten (c := x = y)
theorem dd_122_36 : decode (mB 122) 36 = .ok (.aload_n 0, 1) := by decide +kernel
theorem u_122_36 {G : aG} {S : Nat → Bool} {f : Nat} {st : List Value} {ls : aL} {h : aH} {k n : Nat} (hs : S 36 = false) : WP 122 G S (f + 1) 36 ls st h k n = (oA (lget ls 0) (WP 122 G S f) 37 ls st h k n) := by rw [wp_s dd_122_36 rfl hs]; rfl
theorem dd_122_37 : decode (mB 122) 37 = .ok (.iconst 0, 1) := by decide +kernel
theorem u_122_37 {G : aG} {S : Nat → Bool} {f : Nat} {st : List Value} {ls : aL} {h : aH} {k n : Nat} (hs : S 37 = false) : WP 122 G S (f + 1) 37 ls st h k n = (WP 122 G S f 38 ls (.int (nI 0) :: st) h k n) := by rw [wp_s dd_122_37 rfl hs]; rfl
theorem dd_122_38 : decode (mB 122) 38 = .ok (.invokevirtual 186, 3) := by decide +kernel
theorem u_122_38 {G : aG} {S : Nat → Bool} {f : Nat} {st : List Value} {ls : aL} {h : aH} {k n : Nat} {v1 : Value} {b : Nat} (hs : S 38 = false) : WP 122 G S (f + 1) 38 ls (v1 :: .ref b :: st) h k n = (rcv (hget h b) 10 ∧ CAL G (WP 122 G S f) 126 [.ref b, v1] 41 ls st h k n) := by rw [wp_s dd_122_38 rfl hs]; rfl
theorem dd_122_41 : decode (mB 122) 41 = .ok (.aload_n 0, 1) := by decide +kernel
theorem u_122_41 {G : aG} {S : Nat → Bool} {f : Nat} {st : List Value} {ls : aL} {h : aH} {k n : Nat} (hs : S 41 = false) : WP 122 G S (f + 1) 41 ls st h k n = (oA (lget ls 0) (WP 122 G S f) 42 ls st h k n) := by rw [wp_s dd_122_41 rfl hs]; rfl
theorem dd_122_42 : decode (mB 122) 42 = .ok (.iconst 0, 1) := by decide +kernel
theorem u_122_42 {G : aG} {S : Nat → Bool} {f : Nat} {st : List Value} {ls : aL} {h : aH} {k n : Nat} (hs : S 42 = false) : WP 122 G S (f + 1) 42 ls st h k n = (WP 122 G S f 43 ls (.int (nI 0) :: st) h k n) := by rw [wp_s dd_122_42 rfl hs]; rfl
theorem dd_122_43 : decode (mB 122) 43 = .ok (.invokevirtual 189, 3) := by decide +kernel
theorem u_122_43 {G : aG} {S : Nat → Bool} {f : Nat} {st : List Value} {ls : aL} {h : aH} {k n : Nat} {v1 : Value} {b : Nat} (hs : S 43 = false) : WP 122 G S (f + 1) 43 ls (v1 :: .ref b :: st) h k n = (rcv (hget h b) 10 ∧ CAL G (WP 122 G S f) 127 [.ref b, v1] 46 ls st h k n) := by rw [wp_s dd_122_43 rfl hs]; rfl
theorem dd_122_46 : decode (mB 122) 46 = .ok (.ireturn, 1) := by decide +kernel
theorem u_122_46 {G : aG} {S : Nat → Bool} {f : Nat} {ls : aL} {h : aH} {k n : Nat} {x : Int32} (hs : S 46 = false) : WP 122 G S (f + 1) 46 ls [.int x] h k n = (RET G (some (.int x)) h k n) := by rw [wp_s dd_122_46 rfl hs]; rfl
theorem dd_122_47 : decode (mB 122) 47 = .ok (.iconst 0, 1) := by decide +kernel
theorem u_122_47 {G : aG} {S : Nat → Bool} {f : Nat} {st : List Value} {ls : aL} {h : aH} {k n : Nat} (hs : S 47 = false) : WP 122 G S (f + 1) 47 ls st h k n = (WP 122 G S f 48 ls (.int (nI 0) :: st) h k n) := by rw [wp_s dd_122_47 rfl hs]; rfl
theorem dd_122_48 : decode (mB 122) 48 = .ok (.istore_n 3, 1) := by decide +kernel
theorem u_122_48 {G : aG} {S : Nat → Bool} {f : Nat} {st : List Value} {ls : aL} {h : aH} {k n : Nat} {x : Int32} (hs : S 48 = false) : WP 122 G S (f + 1) 48 ls (.int x :: st) h k n = (WP 122 G S f 49 (lput1 ls 3 (.int x)) st h k n) := by rw [wp_s dd_122_48 rfl hs]; rfl
theorem dd_122_49 : decode (mB 122) 49 = .ok (.iconst 0, 1) := by decide +kernel
theorem u_122_49 {G : aG} {S : Nat → Bool} {f : Nat} {st : List Value} {ls : aL} {h : aH} {k n : Nat} (hs : S 49 = false) : WP 122 G S (f + 1) 49 ls st h k n = (WP 122 G S f 50 ls (.int (nI 0) :: st) h k n) := by rw [wp_s dd_122_49 rfl hs]; rfl
theorem dd_122_50 : decode (mB 122) 50 = .ok (.istore 4, 2) := by decide +kernel
theorem u_122_50 {G : aG} {S : Nat → Bool} {f : Nat} {st : List Value} {ls : aL} {h : aH} {k n : Nat} {x : Int32} (hs : S 50 = false) : WP 122 G S (f + 1) 50 ls (.int x :: st) h k n = (WP 122 G S f 52 (lput1 ls 4 (.int x)) st h k n) := by rw [wp_s dd_122_50 rfl hs]; rfl
theorem dd_122_52 : decode (mB 122) 52 = .ok (.iload 4, 2) := by decide +kernel
theorem u_122_52 {G : aG} {S : Nat → Bool} {f : Nat} {st : List Value} {ls : aL} {h : aH} {k n : Nat} (hs : S 52 = false) : WP 122 G S (f + 1) 52 ls st h k n = (oI (lget ls 4) (WP 122 G S f) 54 ls st h k n) := by rw [wp_s dd_122_52 rfl hs]; rfl
theorem v_122_52 {G : aG} {S : Nat → Bool} {f : Nat} {st : List Value} {ls : aL} {h : aH} {k n : Nat} : WQ 122 G S f 52 ls st h k n = (oI (lget ls 4) (WP 122 G S f) 54 ls st h k n) := by rw [wq_s dd_122_52 rfl]; rfl
theorem dd_122_54 : decode (mB 122) 54 = .ok (.aload_n 0, 1) := by decide +kernel
theorem u_122_54 {G : aG} {S : Nat → Bool} {f : Nat} {st : List Value} {ls : aL} {h : aH} {k n : Nat} (hs : S 54 = false) : WP 122 G S (f + 1) 54 ls st h k n = (oA (lget ls 0) (WP 122 G S f) 55 ls st h k n) := by rw [wp_s dd_122_54 rfl hs]; rfl
theorem dd_122_55 : decode (mB 122) 55 = .ok (.getfield 81, 3) := by decide +kernel
theorem u_122_55 {G : aG} {S : Nat → Bool} {f : Nat} {st : List Value} {ls : aL} {h : aH} {k n : Nat} {a : Nat} (hs : S 55 = false) : WP 122 G S (f + 1) 55 ls (.ref a :: st) h k n = (oV (fget h a 10 4) (WP 122 G S f) 58 ls st h k n) := by rw [wp_s dd_122_55 rfl hs]; rfl
theorem dd_122_58 : decode (mB 122) 58 = .ok (.if_icmp .ge 37, 3) := by decide +kernel
theorem u_122_58 {G : aG} {S : Nat → Bool} {f : Nat} {st : List Value} {ls : aL} {h : aH} {k n : Nat} {x y : Int32} (hs : S 58 = false) : WP 122 G S (f + 1) 58 ls (.int y :: .int x :: st) h k n = (if y ≤ x then WP 122 G S f 95 ls st h k n else WP 122 G S f 61 ls st h k n) := by rw [wp_s dd_122_58 rfl hs]; exact br_ite (c := y ≤ x)
theorem dd_122_61 : decode (mB 122) 61 = .ok (.iload_n 3, 1) := by decide +kernel
theorem u_122_61 {G : aG} {S : Nat → Bool} {f : Nat} {st : List Value} {ls : aL} {h : aH} {k n : Nat} (hs : S 61 = false) : WP 122 G S (f + 1) 61 ls st h k n = (oI (lget ls 3) (WP 122 G S f) 62 ls st h k n) := by rw [wp_s dd_122_61 rfl hs]; rfl
theorem dd_122_62 : decode (mB 122) 62 = .ok (.aload_n 0, 1) := by decide +kernel
theorem u_122_62 {G : aG} {S : Nat → Bool} {f : Nat} {st : List Value} {ls : aL} {h : aH} {k n : Nat} (hs : S 62 = false) : WP 122 G S (f + 1) 62 ls st h k n = (oA (lget ls 0) (WP 122 G S f) 63 ls st h k n) := by rw [wp_s dd_122_62 rfl hs]; rfl
theorem dd_122_63 : decode (mB 122) 63 = .ok (.getfield 34, 3) := by decide +kernel
theorem u_122_63 {G : aG} {S : Nat → Bool} {f : Nat} {st : List Value} {ls : aL} {h : aH} {k n : Nat} {a : Nat} (hs : S 63 = false) : WP 122 G S (f + 1) 63 ls (.ref a :: st) h k n = (oV (fget h a 10 10) (WP 122 G S f) 66 ls st h k n) := by rw [wp_s dd_122_63 rfl hs]; rfl
theorem dd_122_66 : decode (mB 122) 66 = .ok (.iload 4, 2) := by decide +kernel
theorem u_122_66 {G : aG} {S : Nat → Bool} {f : Nat} {st : List Value} {ls : aL} {h : aH} {k n : Nat} (hs : S 66 = false) : WP 122 G S (f + 1) 66 ls st h k n = (oI (lget ls 4) (WP 122 G S f) 68 ls st h k n) := by rw [wp_s dd_122_66 rfl hs]; rfl
theorem dd_122_68 : decode (mB 122) 68 = .ok (.iaload, 1) := by decide +kernel
theorem u_122_68 {G : aG} {S : Nat → Bool} {f : Nat} {st : List Value} {ls : aL} {h : aH} {k n : Nat} {i : Int32} {a : Nat} (hs : S 68 = false) : WP 122 G S (f + 1) 68 ls (.int i :: .ref a :: st) h k n = (oIld (iget h a 1) i (WP 122 G S f) 69 ls st h k n) := by rw [wp_s dd_122_68 rfl hs]; rfl
theorem dd_122_69 : decode (mB 122) 69 = .ok (.ifCond .eq 17, 3) := by decide +kernel
theorem u_122_69 {G : aG} {S : Nat → Bool} {f : Nat} {st : List Value} {ls : aL} {h : aH} {k n : Nat} {x : Int32} (hs : S 69 = false) : WP 122 G S (f + 1) 69 ls (.int x :: st) h k n = (if x = nI 0 then WP 122 G S f 86 ls st h k n else WP 122 G S f 72 ls st h k n) := by rw [wp_s dd_122_69 rfl hs]; exact br_ite (c := x = nI 0)
theorem dd_122_72 : decode (mB 122) 72 = .ok (.iconst 1, 1) := by decide +kernel
theorem u_122_72 {G : aG} {S : Nat → Bool} {f : Nat} {st : List Value} {ls : aL} {h : aH} {k n : Nat} (hs : S 72 = false) : WP 122 G S (f + 1) 72 ls st h k n = (WP 122 G S f 73 ls (.int (nI 1) :: st) h k n) := by rw [wp_s dd_122_72 rfl hs]; rfl
theorem dd_122_73 : decode (mB 122) 73 = .ok (.aload_n 0, 1) := by decide +kernel
theorem u_122_73 {G : aG} {S : Nat → Bool} {f : Nat} {st : List Value} {ls : aL} {h : aH} {k n : Nat} (hs : S 73 = false) : WP 122 G S (f + 1) 73 ls st h k n = (oA (lget ls 0) (WP 122 G S f) 74 ls st h k n) := by rw [wp_s dd_122_73 rfl hs]; rfl
theorem dd_122_74 : decode (mB 122) 74 = .ok (.getfield 19, 3) := by decide +kernel
theorem u_122_74 {G : aG} {S : Nat → Bool} {f : Nat} {st : List Value} {ls : aL} {h : aH} {k n : Nat} {a : Nat} (hs : S 74 = false) : WP 122 G S (f + 1) 74 ls (.ref a :: st) h k n = (oV (fget h a 10 5) (WP 122 G S f) 77 ls st h k n) := by rw [wp_s dd_122_74 rfl hs]; rfl
theorem dd_122_77 : decode (mB 122) 77 = .ok (.iload 4, 2) := by decide +kernel
theorem u_122_77 {G : aG} {S : Nat → Bool} {f : Nat} {st : List Value} {ls : aL} {h : aH} {k n : Nat} (hs : S 77 = false) : WP 122 G S (f + 1) 77 ls st h k n = (oI (lget ls 4) (WP 122 G S f) 79 ls st h k n) := by rw [wp_s dd_122_77 rfl hs]; rfl
theorem dd_122_79 : decode (mB 122) 79 = .ok (.iaload, 1) := by decide +kernel
theorem u_122_79 {G : aG} {S : Nat → Bool} {f : Nat} {st : List Value} {ls : aL} {h : aH} {k n : Nat} {i : Int32} {a : Nat} (hs : S 79 = false) : WP 122 G S (f + 1) 79 ls (.int i :: .ref a :: st) h k n = (oIld (iget h a 1) i (WP 122 G S f) 80 ls st h k n) := by rw [wp_s dd_122_79 rfl hs]; rfl
theorem dd_122_80 : decode (mB 122) 80 = .ok (.iconst 1, 1) := by decide +kernel
theorem u_122_80 {G : aG} {S : Nat → Bool} {f : Nat} {st : List Value} {ls : aL} {h : aH} {k n : Nat} (hs : S 80 = false) : WP 122 G S (f + 1) 80 ls st h k n = (WP 122 G S f 81 ls (.int (nI 1) :: st) h k n) := by rw [wp_s dd_122_80 rfl hs]; rfl
theorem dd_122_81 : decode (mB 122) 81 = .ok (.isub, 1) := by decide +kernel
theorem u_122_81 {G : aG} {S : Nat → Bool} {f : Nat} {st : List Value} {ls : aL} {h : aH} {k n : Nat} {x y : Int32} (hs : S 81 = false) : WP 122 G S (f + 1) 81 ls (.int y :: .int x :: st) h k n = (WP 122 G S f 82 ls (.int (x - y) :: st) h k n) := by rw [wp_s dd_122_81 rfl hs]; rfl
theorem dd_122_82 : decode (mB 122) 82 = .ok (.ishl, 1) := by decide +kernel
theorem u_122_82 {G : aG} {S : Nat → Bool} {f : Nat} {st : List Value} {ls : aL} {h : aH} {k n : Nat} {x y : Int32} (hs : S 82 = false) : WP 122 G S (f + 1) 82 ls (.int y :: .int x :: st) h k n = (WP 122 G S f 83 ls (.int (x <<< (y &&& 31)) :: st) h k n) := by rw [wp_s dd_122_82 rfl hs]; rfl
theorem dd_122_83 : decode (mB 122) 83 = .ok (.goto 4, 3) := by decide +kernel
theorem u_122_83 {G : aG} {S : Nat → Bool} {f : Nat} {st : List Value} {ls : aL} {h : aH} {k n : Nat} (hs : S 83 = false) : WP 122 G S (f + 1) 83 ls st h k n = (WP 122 G S f 87 ls st h k n) := by rw [wp_s dd_122_83 rfl hs]; rfl
theorem dd_122_86 : decode (mB 122) 86 = .ok (.iconst 0, 1) := by decide +kernel
theorem u_122_86 {G : aG} {S : Nat → Bool} {f : Nat} {st : List Value} {ls : aL} {h : aH} {k n : Nat} (hs : S 86 = false) : WP 122 G S (f + 1) 86 ls st h k n = (WP 122 G S f 87 ls (.int (nI 0) :: st) h k n) := by rw [wp_s dd_122_86 rfl hs]; rfl
theorem dd_122_87 : decode (mB 122) 87 = .ok (.ior, 1) := by decide +kernel
theorem u_122_87 {G : aG} {S : Nat → Bool} {f : Nat} {st : List Value} {ls : aL} {h : aH} {k n : Nat} {x y : Int32} (hs : S 87 = false) : WP 122 G S (f + 1) 87 ls (.int y :: .int x :: st) h k n = (WP 122 G S f 88 ls (.int (x ||| y) :: st) h k n) := by rw [wp_s dd_122_87 rfl hs]; rfl
theorem dd_122_88 : decode (mB 122) 88 = .ok (.istore_n 3, 1) := by decide +kernel
theorem u_122_88 {G : aG} {S : Nat → Bool} {f : Nat} {st : List Value} {ls : aL} {h : aH} {k n : Nat} {x : Int32} (hs : S 88 = false) : WP 122 G S (f + 1) 88 ls (.int x :: st) h k n = (WP 122 G S f 89 (lput1 ls 3 (.int x)) st h k n) := by rw [wp_s dd_122_88 rfl hs]; rfl
theorem dd_122_89 : decode (mB 122) 89 = .ok (.iinc 4 1, 3) := by decide +kernel
theorem u_122_89 {G : aG} {S : Nat → Bool} {f : Nat} {st : List Value} {ls : aL} {h : aH} {k n : Nat} (hs : S 89 = false) : WP 122 G S (f + 1) 89 ls st h k n = (oInc (lget ls 4) (nI 1) (WP 122 G S f) 4 92 ls st h k n) := by rw [wp_s dd_122_89 rfl hs]; rfl
theorem dd_122_92 : decode (mB 122) 92 = .ok (.goto (-40), 3) := by decide +kernel
theorem u_122_92 {G : aG} {S : Nat → Bool} {f : Nat} {st : List Value} {ls : aL} {h : aH} {k n : Nat} (hs : S 92 = false) : WP 122 G S (f + 1) 92 ls st h k n = (WP 122 G S f 52 ls st h k n) := by rw [wp_s dd_122_92 rfl hs]; rfl
theorem dd_122_95 : decode (mB 122) 95 = .ok (.iload_n 3, 1) := by decide +kernel
theorem u_122_95 {G : aG} {S : Nat → Bool} {f : Nat} {st : List Value} {ls : aL} {h : aH} {k n : Nat} (hs : S 95 = false) : WP 122 G S (f + 1) 95 ls st h k n = (oI (lget ls 3) (WP 122 G S f) 96 ls st h k n) := by rw [wp_s dd_122_95 rfl hs]; rfl
theorem dd_122_96 : decode (mB 122) 96 = .ok (.ireturn, 1) := by decide +kernel
theorem u_122_96 {G : aG} {S : Nat → Bool} {f : Nat} {ls : aL} {h : aH} {k n : Nat} {x : Int32} (hs : S 96 = false) : WP 122 G S (f + 1) 96 ls [.int x] h k n = (RET G (some (.int x)) h k n) := by rw [wp_s dd_122_96 rfl hs]; rfl
theorem dd_123_0 : decode (mB 123) 0 = .ok (.aload_n 0, 1) := by decide +kernel
theorem u_123_0 {G : aG} {S : Nat → Bool} {f : Nat} {st : List Value} {ls : aL} {h : aH} {k n : Nat} (hs : S 0 = false) : WP 123 G S (f + 1) 0 ls st h k n = (oA (lget ls 0) (WP 123 G S f) 1 ls st h k n) := by rw [wp_s dd_123_0 rfl hs]; rfl
theorem dd_123_1 : decode (mB 123) 1 = .ok (.aload_n 0, 1) := by decide +kernel
theorem u_123_1 {G : aG} {S : Nat → Bool} {f : Nat} {st : List Value} {ls : aL} {h : aH} {k n : Nat} (hs : S 1 = false) : WP 123 G S (f + 1) 1 ls st h k n = (oA (lget ls 0) (WP 123 G S f) 2 ls st h k n) := by rw [wp_s dd_123_1 rfl hs]; rfl
theorem dd_123_2 : decode (mB 123) 2 = .ok (.getfield 7, 3) := by decide +kernel
theorem u_123_2 {G : aG} {S : Nat → Bool} {f : Nat} {st : List Value} {ls : aL} {h : aH} {k n : Nat} {a : Nat} (hs : S 2 = false) : WP 123 G S (f + 1) 2 ls (.ref a :: st) h k n = (oV (fget h a 10 0) (WP 123 G S f) 5 ls st h k n) := by rw [wp_s dd_123_2 rfl hs]; rfl
theorem dd_123_5 : decode (mB 123) 5 = .ok (.bipush 49, 2) := by decide +kernel
theorem u_123_5 {G : aG} {S : Nat → Bool} {f : Nat} {st : List Value} {ls : aL} {h : aH} {k n : Nat} (hs : S 5 = false) : WP 123 G S (f + 1) 5 ls st h k n = (WP 123 G S f 7 ls (.int (nI 49) :: st) h k n) := by rw [wp_s dd_123_5 rfl hs]; rfl
theorem dd_123_7 : decode (mB 123) 7 = .ok (.iload_n 1, 1) := by decide +kernel
theorem u_123_7 {G : aG} {S : Nat → Bool} {f : Nat} {st : List Value} {ls : aL} {h : aH} {k n : Nat} (hs : S 7 = false) : WP 123 G S (f + 1) 7 ls st h k n = (oI (lget ls 1) (WP 123 G S f) 8 ls st h k n) := by rw [wp_s dd_123_7 rfl hs]; rfl
theorem dd_123_8 : decode (mB 123) 8 = .ok (.imul, 1) := by decide +kernel
theorem u_123_8 {G : aG} {S : Nat → Bool} {f : Nat} {st : List Value} {ls : aL} {h : aH} {k n : Nat} {x y : Int32} (hs : S 8 = false) : WP 123 G S (f + 1) 8 ls (.int y :: .int x :: st) h k n = (WP 123 G S f 9 ls (.int (x * y) :: st) h k n) := by rw [wp_s dd_123_8 rfl hs]; rfl
theorem dd_123_9 : decode (mB 123) 9 = .ok (.iaload, 1) := by decide +kernel
theorem u_123_9 {G : aG} {S : Nat → Bool} {f : Nat} {st : List Value} {ls : aL} {h : aH} {k n : Nat} {i : Int32} {a : Nat} (hs : S 9 = false) : WP 123 G S (f + 1) 9 ls (.int i :: .ref a :: st) h k n = (oIld (iget h a 1) i (WP 123 G S f) 10 ls st h k n) := by rw [wp_s dd_123_9 rfl hs]; rfl
theorem dd_123_10 : decode (mB 123) 10 = .ok (.putfield 81, 3) := by decide +kernel
theorem u_123_10 {G : aG} {S : Nat → Bool} {f : Nat} {st : List Value} {ls : aL} {h : aH} {k n : Nat} {a : Nat} {x : Int32} (hs : S 10 = false) : WP 123 G S (f + 1) 10 ls (.int x :: .ref a :: st) h k n = (oH (fput h a 10 4 (.int x)) (WP 123 G S f) 13 ls st k n) := by rw [wp_s dd_123_10 rfl hs]; rfl
theorem dd_123_13 : decode (mB 123) 13 = .ok (.iconst 0, 1) := by decide +kernel
theorem u_123_13 {G : aG} {S : Nat → Bool} {f : Nat} {st : List Value} {ls : aL} {h : aH} {k n : Nat} (hs : S 13 = false) : WP 123 G S (f + 1) 13 ls st h k n = (WP 123 G S f 14 ls (.int (nI 0) :: st) h k n) := by rw [wp_s dd_123_13 rfl hs]; rfl
theorem dd_123_14 : decode (mB 123) 14 = .ok (.istore_n 2, 1) := by decide +kernel
theorem u_123_14 {G : aG} {S : Nat → Bool} {f : Nat} {st : List Value} {ls : aL} {h : aH} {k n : Nat} {x : Int32} (hs : S 14 = false) : WP 123 G S (f + 1) 14 ls (.int x :: st) h k n = (WP 123 G S f 15 (lput1 ls 2 (.int x)) st h k n) := by rw [wp_s dd_123_14 rfl hs]; rfl
theorem dd_123_15 : decode (mB 123) 15 = .ok (.iconst 0, 1) := by decide +kernel
theorem u_123_15 {G : aG} {S : Nat → Bool} {f : Nat} {st : List Value} {ls : aL} {h : aH} {k n : Nat} (hs : S 15 = false) : WP 123 G S (f + 1) 15 ls st h k n = (WP 123 G S f 16 ls (.int (nI 0) :: st) h k n) := by rw [wp_s dd_123_15 rfl hs]; rfl
theorem dd_123_16 : decode (mB 123) 16 = .ok (.istore_n 3, 1) := by decide +kernel
theorem u_123_16 {G : aG} {S : Nat → Bool} {f : Nat} {st : List Value} {ls : aL} {h : aH} {k n : Nat} {x : Int32} (hs : S 16 = false) : WP 123 G S (f + 1) 16 ls (.int x :: st) h k n = (WP 123 G S f 17 (lput1 ls 3 (.int x)) st h k n) := by rw [wp_s dd_123_16 rfl hs]; rfl
theorem dd_123_17 : decode (mB 123) 17 = .ok (.iload_n 3, 1) := by decide +kernel
theorem u_123_17 {G : aG} {S : Nat → Bool} {f : Nat} {st : List Value} {ls : aL} {h : aH} {k n : Nat} (hs : S 17 = false) : WP 123 G S (f + 1) 17 ls st h k n = (oI (lget ls 3) (WP 123 G S f) 18 ls st h k n) := by rw [wp_s dd_123_17 rfl hs]; rfl
theorem v_123_17 {G : aG} {S : Nat → Bool} {f : Nat} {st : List Value} {ls : aL} {h : aH} {k n : Nat} : WQ 123 G S f 17 ls st h k n = (oI (lget ls 3) (WP 123 G S f) 18 ls st h k n) := by rw [wq_s dd_123_17 rfl]; rfl
theorem dd_123_18 : decode (mB 123) 18 = .ok (.aload_n 0, 1) := by decide +kernel
theorem u_123_18 {G : aG} {S : Nat → Bool} {f : Nat} {st : List Value} {ls : aL} {h : aH} {k n : Nat} (hs : S 18 = false) : WP 123 G S (f + 1) 18 ls st h k n = (oA (lget ls 0) (WP 123 G S f) 19 ls st h k n) := by rw [wp_s dd_123_18 rfl hs]; rfl
theorem dd_123_19 : decode (mB 123) 19 = .ok (.getfield 81, 3) := by decide +kernel
theorem u_123_19 {G : aG} {S : Nat → Bool} {f : Nat} {st : List Value} {ls : aL} {h : aH} {k n : Nat} {a : Nat} (hs : S 19 = false) : WP 123 G S (f + 1) 19 ls (.ref a :: st) h k n = (oV (fget h a 10 4) (WP 123 G S f) 22 ls st h k n) := by rw [wp_s dd_123_19 rfl hs]; rfl
theorem dd_123_22 : decode (mB 123) 22 = .ok (.if_icmp .ge 238, 3) := by decide +kernel
theorem u_123_22 {G : aG} {S : Nat → Bool} {f : Nat} {st : List Value} {ls : aL} {h : aH} {k n : Nat} {x y : Int32} (hs : S 22 = false) : WP 123 G S (f + 1) 22 ls (.int y :: .int x :: st) h k n = (if y ≤ x then WP 123 G S f 260 ls st h k n else WP 123 G S f 25 ls st h k n) := by rw [wp_s dd_123_22 rfl hs]; exact br_ite (c := y ≤ x)
theorem dd_123_25 : decode (mB 123) 25 = .ok (.aload_n 0, 1) := by decide +kernel
theorem u_123_25 {G : aG} {S : Nat → Bool} {f : Nat} {st : List Value} {ls : aL} {h : aH} {k n : Nat} (hs : S 25 = false) : WP 123 G S (f + 1) 25 ls st h k n = (oA (lget ls 0) (WP 123 G S f) 26 ls st h k n) := by rw [wp_s dd_123_25 rfl hs]; rfl
theorem dd_123_26 : decode (mB 123) 26 = .ok (.getfield 19, 3) := by decide +kernel
theorem u_123_26 {G : aG} {S : Nat → Bool} {f : Nat} {st : List Value} {ls : aL} {h : aH} {k n : Nat} {a : Nat} (hs : S 26 = false) : WP 123 G S (f + 1) 26 ls (.ref a :: st) h k n = (oV (fget h a 10 5) (WP 123 G S f) 29 ls st h k n) := by rw [wp_s dd_123_26 rfl hs]; rfl
theorem dd_123_29 : decode (mB 123) 29 = .ok (.iload_n 3, 1) := by decide +kernel
theorem u_123_29 {G : aG} {S : Nat → Bool} {f : Nat} {st : List Value} {ls : aL} {h : aH} {k n : Nat} (hs : S 29 = false) : WP 123 G S (f + 1) 29 ls st h k n = (oI (lget ls 3) (WP 123 G S f) 30 ls st h k n) := by rw [wp_s dd_123_29 rfl hs]; rfl
theorem dd_123_30 : decode (mB 123) 30 = .ok (.aload_n 0, 1) := by decide +kernel
theorem u_123_30 {G : aG} {S : Nat → Bool} {f : Nat} {st : List Value} {ls : aL} {h : aH} {k n : Nat} (hs : S 30 = false) : WP 123 G S (f + 1) 30 ls st h k n = (oA (lget ls 0) (WP 123 G S f) 31 ls st h k n) := by rw [wp_s dd_123_30 rfl hs]; rfl
theorem dd_123_31 : decode (mB 123) 31 = .ok (.getfield 7, 3) := by decide +kernel
theorem u_123_31 {G : aG} {S : Nat → Bool} {f : Nat} {st : List Value} {ls : aL} {h : aH} {k n : Nat} {a : Nat} (hs : S 31 = false) : WP 123 G S (f + 1) 31 ls (.ref a :: st) h k n = (oV (fget h a 10 0) (WP 123 G S f) 34 ls st h k n) := by rw [wp_s dd_123_31 rfl hs]; rfl
theorem dd_123_34 : decode (mB 123) 34 = .ok (.bipush 49, 2) := by decide +kernel
theorem u_123_34 {G : aG} {S : Nat → Bool} {f : Nat} {st : List Value} {ls : aL} {h : aH} {k n : Nat} (hs : S 34 = false) : WP 123 G S (f + 1) 34 ls st h k n = (WP 123 G S f 36 ls (.int (nI 49) :: st) h k n) := by rw [wp_s dd_123_34 rfl hs]; rfl
theorem dd_123_36 : decode (mB 123) 36 = .ok (.iload_n 1, 1) := by decide +kernel
theorem u_123_36 {G : aG} {S : Nat → Bool} {f : Nat} {st : List Value} {ls : aL} {h : aH} {k n : Nat} (hs : S 36 = false) : WP 123 G S (f + 1) 36 ls st h k n = (oI (lget ls 1) (WP 123 G S f) 37 ls st h k n) := by rw [wp_s dd_123_36 rfl hs]; rfl
theorem dd_123_37 : decode (mB 123) 37 = .ok (.imul, 1) := by decide +kernel
theorem u_123_37 {G : aG} {S : Nat → Bool} {f : Nat} {st : List Value} {ls : aL} {h : aH} {k n : Nat} {x y : Int32} (hs : S 37 = false) : WP 123 G S (f + 1) 37 ls (.int y :: .int x :: st) h k n = (WP 123 G S f 38 ls (.int (x * y) :: st) h k n) := by rw [wp_s dd_123_37 rfl hs]; rfl
theorem dd_123_38 : decode (mB 123) 38 = .ok (.iconst 1, 1) := by decide +kernel
theorem u_123_38 {G : aG} {S : Nat → Bool} {f : Nat} {st : List Value} {ls : aL} {h : aH} {k n : Nat} (hs : S 38 = false) : WP 123 G S (f + 1) 38 ls st h k n = (WP 123 G S f 39 ls (.int (nI 1) :: st) h k n) := by rw [wp_s dd_123_38 rfl hs]; rfl
theorem dd_123_39 : decode (mB 123) 39 = .ok (.iadd, 1) := by decide +kernel
theorem u_123_39 {G : aG} {S : Nat → Bool} {f : Nat} {st : List Value} {ls : aL} {h : aH} {k n : Nat} {x y : Int32} (hs : S 39 = false) : WP 123 G S (f + 1) 39 ls (.int y :: .int x :: st) h k n = (WP 123 G S f 40 ls (.int (x + y) :: st) h k n) := by rw [wp_s dd_123_39 rfl hs]; rfl
theorem dd_123_40 : decode (mB 123) 40 = .ok (.iconst 3, 1) := by decide +kernel
theorem u_123_40 {G : aG} {S : Nat → Bool} {f : Nat} {st : List Value} {ls : aL} {h : aH} {k n : Nat} (hs : S 40 = false) : WP 123 G S (f + 1) 40 ls st h k n = (WP 123 G S f 41 ls (.int (nI 3) :: st) h k n) := by rw [wp_s dd_123_40 rfl hs]; rfl
theorem dd_123_41 : decode (mB 123) 41 = .ok (.iload_n 3, 1) := by decide +kernel
theorem u_123_41 {G : aG} {S : Nat → Bool} {f : Nat} {st : List Value} {ls : aL} {h : aH} {k n : Nat} (hs : S 41 = false) : WP 123 G S (f + 1) 41 ls st h k n = (oI (lget ls 3) (WP 123 G S f) 42 ls st h k n) := by rw [wp_s dd_123_41 rfl hs]; rfl
theorem dd_123_42 : decode (mB 123) 42 = .ok (.imul, 1) := by decide +kernel
theorem u_123_42 {G : aG} {S : Nat → Bool} {f : Nat} {st : List Value} {ls : aL} {h : aH} {k n : Nat} {x y : Int32} (hs : S 42 = false) : WP 123 G S (f + 1) 42 ls (.int y :: .int x :: st) h k n = (WP 123 G S f 43 ls (.int (x * y) :: st) h k n) := by rw [wp_s dd_123_42 rfl hs]; rfl
theorem dd_123_43 : decode (mB 123) 43 = .ok (.iadd, 1) := by decide +kernel
theorem u_123_43 {G : aG} {S : Nat → Bool} {f : Nat} {st : List Value} {ls : aL} {h : aH} {k n : Nat} {x y : Int32} (hs : S 43 = false) : WP 123 G S (f + 1) 43 ls (.int y :: .int x :: st) h k n = (WP 123 G S f 44 ls (.int (x + y) :: st) h k n) := by rw [wp_s dd_123_43 rfl hs]; rfl
theorem dd_123_44 : decode (mB 123) 44 = .ok (.iaload, 1) := by decide +kernel
theorem u_123_44 {G : aG} {S : Nat → Bool} {f : Nat} {st : List Value} {ls : aL} {h : aH} {k n : Nat} {i : Int32} {a : Nat} (hs : S 44 = false) : WP 123 G S (f + 1) 44 ls (.int i :: .ref a :: st) h k n = (oIld (iget h a 1) i (WP 123 G S f) 45 ls st h k n) := by rw [wp_s dd_123_44 rfl hs]; rfl
theorem dd_123_45 : decode (mB 123) 45 = .ok (.iastore, 1) := by decide +kernel
theorem u_123_45 {G : aG} {S : Nat → Bool} {f : Nat} {st : List Value} {ls : aL} {h : aH} {k n : Nat} {i x : Int32} {a : Nat} (hs : S 45 = false) : WP 123 G S (f + 1) 45 ls (.int x :: .int i :: .ref a :: st) h k n = (oIst (iget h a 1) a i x (WP 123 G S f) 46 ls st h k n) := by rw [wp_s dd_123_45 rfl hs]; rfl
theorem dd_123_46 : decode (mB 123) 46 = .ok (.aload_n 0, 1) := by decide +kernel
theorem u_123_46 {G : aG} {S : Nat → Bool} {f : Nat} {st : List Value} {ls : aL} {h : aH} {k n : Nat} (hs : S 46 = false) : WP 123 G S (f + 1) 46 ls st h k n = (oA (lget ls 0) (WP 123 G S f) 47 ls st h k n) := by rw [wp_s dd_123_46 rfl hs]; rfl
theorem dd_123_47 : decode (mB 123) 47 = .ok (.getfield 22, 3) := by decide +kernel
theorem u_123_47 {G : aG} {S : Nat → Bool} {f : Nat} {st : List Value} {ls : aL} {h : aH} {k n : Nat} {a : Nat} (hs : S 47 = false) : WP 123 G S (f + 1) 47 ls (.ref a :: st) h k n = (oV (fget h a 10 6) (WP 123 G S f) 50 ls st h k n) := by rw [wp_s dd_123_47 rfl hs]; rfl
theorem dd_123_50 : decode (mB 123) 50 = .ok (.iload_n 3, 1) := by decide +kernel
theorem u_123_50 {G : aG} {S : Nat → Bool} {f : Nat} {st : List Value} {ls : aL} {h : aH} {k n : Nat} (hs : S 50 = false) : WP 123 G S (f + 1) 50 ls st h k n = (oI (lget ls 3) (WP 123 G S f) 51 ls st h k n) := by rw [wp_s dd_123_50 rfl hs]; rfl
theorem dd_123_51 : decode (mB 123) 51 = .ok (.aload_n 0, 1) := by decide +kernel
theorem u_123_51 {G : aG} {S : Nat → Bool} {f : Nat} {st : List Value} {ls : aL} {h : aH} {k n : Nat} (hs : S 51 = false) : WP 123 G S (f + 1) 51 ls st h k n = (oA (lget ls 0) (WP 123 G S f) 52 ls st h k n) := by rw [wp_s dd_123_51 rfl hs]; rfl
theorem dd_123_52 : decode (mB 123) 52 = .ok (.getfield 7, 3) := by decide +kernel
theorem u_123_52 {G : aG} {S : Nat → Bool} {f : Nat} {st : List Value} {ls : aL} {h : aH} {k n : Nat} {a : Nat} (hs : S 52 = false) : WP 123 G S (f + 1) 52 ls (.ref a :: st) h k n = (oV (fget h a 10 0) (WP 123 G S f) 55 ls st h k n) := by rw [wp_s dd_123_52 rfl hs]; rfl
theorem dd_123_55 : decode (mB 123) 55 = .ok (.bipush 49, 2) := by decide +kernel
theorem u_123_55 {G : aG} {S : Nat → Bool} {f : Nat} {st : List Value} {ls : aL} {h : aH} {k n : Nat} (hs : S 55 = false) : WP 123 G S (f + 1) 55 ls st h k n = (WP 123 G S f 57 ls (.int (nI 49) :: st) h k n) := by rw [wp_s dd_123_55 rfl hs]; rfl
theorem dd_123_57 : decode (mB 123) 57 = .ok (.iload_n 1, 1) := by decide +kernel
theorem u_123_57 {G : aG} {S : Nat → Bool} {f : Nat} {st : List Value} {ls : aL} {h : aH} {k n : Nat} (hs : S 57 = false) : WP 123 G S (f + 1) 57 ls st h k n = (oI (lget ls 1) (WP 123 G S f) 58 ls st h k n) := by rw [wp_s dd_123_57 rfl hs]; rfl
theorem dd_123_58 : decode (mB 123) 58 = .ok (.imul, 1) := by decide +kernel
theorem u_123_58 {G : aG} {S : Nat → Bool} {f : Nat} {st : List Value} {ls : aL} {h : aH} {k n : Nat} {x y : Int32} (hs : S 58 = false) : WP 123 G S (f + 1) 58 ls (.int y :: .int x :: st) h k n = (WP 123 G S f 59 ls (.int (x * y) :: st) h k n) := by rw [wp_s dd_123_58 rfl hs]; rfl
theorem dd_123_59 : decode (mB 123) 59 = .ok (.iconst 2, 1) := by decide +kernel
theorem u_123_59 {G : aG} {S : Nat → Bool} {f : Nat} {st : List Value} {ls : aL} {h : aH} {k n : Nat} (hs : S 59 = false) : WP 123 G S (f + 1) 59 ls st h k n = (WP 123 G S f 60 ls (.int (nI 2) :: st) h k n) := by rw [wp_s dd_123_59 rfl hs]; rfl
theorem dd_123_60 : decode (mB 123) 60 = .ok (.iadd, 1) := by decide +kernel
theorem u_123_60 {G : aG} {S : Nat → Bool} {f : Nat} {st : List Value} {ls : aL} {h : aH} {k n : Nat} {x y : Int32} (hs : S 60 = false) : WP 123 G S (f + 1) 60 ls (.int y :: .int x :: st) h k n = (WP 123 G S f 61 ls (.int (x + y) :: st) h k n) := by rw [wp_s dd_123_60 rfl hs]; rfl
theorem dd_123_61 : decode (mB 123) 61 = .ok (.iconst 3, 1) := by decide +kernel
theorem u_123_61 {G : aG} {S : Nat → Bool} {f : Nat} {st : List Value} {ls : aL} {h : aH} {k n : Nat} (hs : S 61 = false) : WP 123 G S (f + 1) 61 ls st h k n = (WP 123 G S f 62 ls (.int (nI 3) :: st) h k n) := by rw [wp_s dd_123_61 rfl hs]; rfl
theorem dd_123_62 : decode (mB 123) 62 = .ok (.iload_n 3, 1) := by decide +kernel
theorem u_123_62 {G : aG} {S : Nat → Bool} {f : Nat} {st : List Value} {ls : aL} {h : aH} {k n : Nat} (hs : S 62 = false) : WP 123 G S (f + 1) 62 ls st h k n = (oI (lget ls 3) (WP 123 G S f) 63 ls st h k n) := by rw [wp_s dd_123_62 rfl hs]; rfl
theorem dd_123_63 : decode (mB 123) 63 = .ok (.imul, 1) := by decide +kernel
theorem u_123_63 {G : aG} {S : Nat → Bool} {f : Nat} {st : List Value} {ls : aL} {h : aH} {k n : Nat} {x y : Int32} (hs : S 63 = false) : WP 123 G S (f + 1) 63 ls (.int y :: .int x :: st) h k n = (WP 123 G S f 64 ls (.int (x * y) :: st) h k n) := by rw [wp_s dd_123_63 rfl hs]; rfl
theorem dd_123_64 : decode (mB 123) 64 = .ok (.iadd, 1) := by decide +kernel
theorem u_123_64 {G : aG} {S : Nat → Bool} {f : Nat} {st : List Value} {ls : aL} {h : aH} {k n : Nat} {x y : Int32} (hs : S 64 = false) : WP 123 G S (f + 1) 64 ls (.int y :: .int x :: st) h k n = (WP 123 G S f 65 ls (.int (x + y) :: st) h k n) := by rw [wp_s dd_123_64 rfl hs]; rfl
theorem dd_123_65 : decode (mB 123) 65 = .ok (.iaload, 1) := by decide +kernel
theorem u_123_65 {G : aG} {S : Nat → Bool} {f : Nat} {st : List Value} {ls : aL} {h : aH} {k n : Nat} {i : Int32} {a : Nat} (hs : S 65 = false) : WP 123 G S (f + 1) 65 ls (.int i :: .ref a :: st) h k n = (oIld (iget h a 1) i (WP 123 G S f) 66 ls st h k n) := by rw [wp_s dd_123_65 rfl hs]; rfl
theorem dd_123_66 : decode (mB 123) 66 = .ok (.iastore, 1) := by decide +kernel
theorem u_123_66 {G : aG} {S : Nat → Bool} {f : Nat} {st : List Value} {ls : aL} {h : aH} {k n : Nat} {i x : Int32} {a : Nat} (hs : S 66 = false) : WP 123 G S (f + 1) 66 ls (.int x :: .int i :: .ref a :: st) h k n = (oIst (iget h a 1) a i x (WP 123 G S f) 67 ls st h k n) := by rw [wp_s dd_123_66 rfl hs]; rfl
theorem dd_123_67 : decode (mB 123) 67 = .ok (.aload_n 0, 1) := by decide +kernel
theorem u_123_67 {G : aG} {S : Nat → Bool} {f : Nat} {st : List Value} {ls : aL} {h : aH} {k n : Nat} (hs : S 67 = false) : WP 123 G S (f + 1) 67 ls st h k n = (oA (lget ls 0) (WP 123 G S f) 68 ls st h k n) := by rw [wp_s dd_123_67 rfl hs]; rfl
theorem dd_123_68 : decode (mB 123) 68 = .ok (.getfield 25, 3) := by decide +kernel
theorem u_123_68 {G : aG} {S : Nat → Bool} {f : Nat} {st : List Value} {ls : aL} {h : aH} {k n : Nat} {a : Nat} (hs : S 68 = false) : WP 123 G S (f + 1) 68 ls (.ref a :: st) h k n = (oV (fget h a 10 7) (WP 123 G S f) 71 ls st h k n) := by rw [wp_s dd_123_68 rfl hs]; rfl
theorem dd_123_71 : decode (mB 123) 71 = .ok (.iload_n 3, 1) := by decide +kernel
theorem u_123_71 {G : aG} {S : Nat → Bool} {f : Nat} {st : List Value} {ls : aL} {h : aH} {k n : Nat} (hs : S 71 = false) : WP 123 G S (f + 1) 71 ls st h k n = (oI (lget ls 3) (WP 123 G S f) 72 ls st h k n) := by rw [wp_s dd_123_71 rfl hs]; rfl
theorem dd_123_72 : decode (mB 123) 72 = .ok (.aload_n 0, 1) := by decide +kernel
theorem u_123_72 {G : aG} {S : Nat → Bool} {f : Nat} {st : List Value} {ls : aL} {h : aH} {k n : Nat} (hs : S 72 = false) : WP 123 G S (f + 1) 72 ls st h k n = (oA (lget ls 0) (WP 123 G S f) 73 ls st h k n) := by rw [wp_s dd_123_72 rfl hs]; rfl
theorem dd_123_73 : decode (mB 123) 73 = .ok (.getfield 7, 3) := by decide +kernel
theorem u_123_73 {G : aG} {S : Nat → Bool} {f : Nat} {st : List Value} {ls : aL} {h : aH} {k n : Nat} {a : Nat} (hs : S 73 = false) : WP 123 G S (f + 1) 73 ls (.ref a :: st) h k n = (oV (fget h a 10 0) (WP 123 G S f) 76 ls st h k n) := by rw [wp_s dd_123_73 rfl hs]; rfl
theorem dd_123_76 : decode (mB 123) 76 = .ok (.bipush 49, 2) := by decide +kernel
theorem u_123_76 {G : aG} {S : Nat → Bool} {f : Nat} {st : List Value} {ls : aL} {h : aH} {k n : Nat} (hs : S 76 = false) : WP 123 G S (f + 1) 76 ls st h k n = (WP 123 G S f 78 ls (.int (nI 49) :: st) h k n) := by rw [wp_s dd_123_76 rfl hs]; rfl
theorem dd_123_78 : decode (mB 123) 78 = .ok (.iload_n 1, 1) := by decide +kernel
theorem u_123_78 {G : aG} {S : Nat → Bool} {f : Nat} {st : List Value} {ls : aL} {h : aH} {k n : Nat} (hs : S 78 = false) : WP 123 G S (f + 1) 78 ls st h k n = (oI (lget ls 1) (WP 123 G S f) 79 ls st h k n) := by rw [wp_s dd_123_78 rfl hs]; rfl
theorem dd_123_79 : decode (mB 123) 79 = .ok (.imul, 1) := by decide +kernel
theorem u_123_79 {G : aG} {S : Nat → Bool} {f : Nat} {st : List Value} {ls : aL} {h : aH} {k n : Nat} {x y : Int32} (hs : S 79 = false) : WP 123 G S (f + 1) 79 ls (.int y :: .int x :: st) h k n = (WP 123 G S f 80 ls (.int (x * y) :: st) h k n) := by rw [wp_s dd_123_79 rfl hs]; rfl
theorem dd_123_80 : decode (mB 123) 80 = .ok (.iconst 3, 1) := by decide +kernel
theorem u_123_80 {G : aG} {S : Nat → Bool} {f : Nat} {st : List Value} {ls : aL} {h : aH} {k n : Nat} (hs : S 80 = false) : WP 123 G S (f + 1) 80 ls st h k n = (WP 123 G S f 81 ls (.int (nI 3) :: st) h k n) := by rw [wp_s dd_123_80 rfl hs]; rfl
theorem dd_123_81 : decode (mB 123) 81 = .ok (.iadd, 1) := by decide +kernel
theorem u_123_81 {G : aG} {S : Nat → Bool} {f : Nat} {st : List Value} {ls : aL} {h : aH} {k n : Nat} {x y : Int32} (hs : S 81 = false) : WP 123 G S (f + 1) 81 ls (.int y :: .int x :: st) h k n = (WP 123 G S f 82 ls (.int (x + y) :: st) h k n) := by rw [wp_s dd_123_81 rfl hs]; rfl
theorem dd_123_82 : decode (mB 123) 82 = .ok (.iconst 3, 1) := by decide +kernel
theorem u_123_82 {G : aG} {S : Nat → Bool} {f : Nat} {st : List Value} {ls : aL} {h : aH} {k n : Nat} (hs : S 82 = false) : WP 123 G S (f + 1) 82 ls st h k n = (WP 123 G S f 83 ls (.int (nI 3) :: st) h k n) := by rw [wp_s dd_123_82 rfl hs]; rfl
theorem dd_123_83 : decode (mB 123) 83 = .ok (.iload_n 3, 1) := by decide +kernel
theorem u_123_83 {G : aG} {S : Nat → Bool} {f : Nat} {st : List Value} {ls : aL} {h : aH} {k n : Nat} (hs : S 83 = false) : WP 123 G S (f + 1) 83 ls st h k n = (oI (lget ls 3) (WP 123 G S f) 84 ls st h k n) := by rw [wp_s dd_123_83 rfl hs]; rfl
theorem dd_123_84 : decode (mB 123) 84 = .ok (.imul, 1) := by decide +kernel
theorem u_123_84 {G : aG} {S : Nat → Bool} {f : Nat} {st : List Value} {ls : aL} {h : aH} {k n : Nat} {x y : Int32} (hs : S 84 = false) : WP 123 G S (f + 1) 84 ls (.int y :: .int x :: st) h k n = (WP 123 G S f 85 ls (.int (x * y) :: st) h k n) := by rw [wp_s dd_123_84 rfl hs]; rfl
theorem dd_123_85 : decode (mB 123) 85 = .ok (.iadd, 1) := by decide +kernel
theorem u_123_85 {G : aG} {S : Nat → Bool} {f : Nat} {st : List Value} {ls : aL} {h : aH} {k n : Nat} {x y : Int32} (hs : S 85 = false) : WP 123 G S (f + 1) 85 ls (.int y :: .int x :: st) h k n = (WP 123 G S f 86 ls (.int (x + y) :: st) h k n) := by rw [wp_s dd_123_85 rfl hs]; rfl
theorem dd_123_86 : decode (mB 123) 86 = .ok (.iaload, 1) := by decide +kernel
theorem u_123_86 {G : aG} {S : Nat → Bool} {f : Nat} {st : List Value} {ls : aL} {h : aH} {k n : Nat} {i : Int32} {a : Nat} (hs : S 86 = false) : WP 123 G S (f + 1) 86 ls (.int i :: .ref a :: st) h k n = (oIld (iget h a 1) i (WP 123 G S f) 87 ls st h k n) := by rw [wp_s dd_123_86 rfl hs]; rfl
theorem dd_123_87 : decode (mB 123) 87 = .ok (.iastore, 1) := by decide +kernel
theorem u_123_87 {G : aG} {S : Nat → Bool} {f : Nat} {st : List Value} {ls : aL} {h : aH} {k n : Nat} {i x : Int32} {a : Nat} (hs : S 87 = false) : WP 123 G S (f + 1) 87 ls (.int x :: .int i :: .ref a :: st) h k n = (oIst (iget h a 1) a i x (WP 123 G S f) 88 ls st h k n) := by rw [wp_s dd_123_87 rfl hs]; rfl
theorem dd_123_88 : decode (mB 123) 88 = .ok (.aload_n 0, 1) := by decide +kernel
theorem u_123_88 {G : aG} {S : Nat → Bool} {f : Nat} {st : List Value} {ls : aL} {h : aH} {k n : Nat} (hs : S 88 = false) : WP 123 G S (f + 1) 88 ls st h k n = (oA (lget ls 0) (WP 123 G S f) 89 ls st h k n) := by rw [wp_s dd_123_88 rfl hs]; rfl
theorem dd_123_89 : decode (mB 123) 89 = .ok (.getfield 28, 3) := by decide +kernel
theorem u_123_89 {G : aG} {S : Nat → Bool} {f : Nat} {st : List Value} {ls : aL} {h : aH} {k n : Nat} {a : Nat} (hs : S 89 = false) : WP 123 G S (f + 1) 89 ls (.ref a :: st) h k n = (oV (fget h a 10 8) (WP 123 G S f) 92 ls st h k n) := by rw [wp_s dd_123_89 rfl hs]; rfl
theorem dd_123_92 : decode (mB 123) 92 = .ok (.iload_n 3, 1) := by decide +kernel
theorem u_123_92 {G : aG} {S : Nat → Bool} {f : Nat} {st : List Value} {ls : aL} {h : aH} {k n : Nat} (hs : S 92 = false) : WP 123 G S (f + 1) 92 ls st h k n = (oI (lget ls 3) (WP 123 G S f) 93 ls st h k n) := by rw [wp_s dd_123_92 rfl hs]; rfl
theorem dd_123_93 : decode (mB 123) 93 = .ok (.iconst (-1), 1) := by decide +kernel
theorem u_123_93 {G : aG} {S : Nat → Bool} {f : Nat} {st : List Value} {ls : aL} {h : aH} {k n : Nat} (hs : S 93 = false) : WP 123 G S (f + 1) 93 ls st h k n = (WP 123 G S f 94 ls (.int (-1) :: st) h k n) := by rw [wp_s dd_123_93 rfl hs]; rfl
theorem dd_123_94 : decode (mB 123) 94 = .ok (.iastore, 1) := by decide +kernel
theorem u_123_94 {G : aG} {S : Nat → Bool} {f : Nat} {st : List Value} {ls : aL} {h : aH} {k n : Nat} {i x : Int32} {a : Nat} (hs : S 94 = false) : WP 123 G S (f + 1) 94 ls (.int x :: .int i :: .ref a :: st) h k n = (oIst (iget h a 1) a i x (WP 123 G S f) 95 ls st h k n) := by rw [wp_s dd_123_94 rfl hs]; rfl
theorem dd_123_95 : decode (mB 123) 95 = .ok (.aload_n 0, 1) := by decide +kernel
theorem u_123_95 {G : aG} {S : Nat → Bool} {f : Nat} {st : List Value} {ls : aL} {h : aH} {k n : Nat} (hs : S 95 = false) : WP 123 G S (f + 1) 95 ls st h k n = (oA (lget ls 0) (WP 123 G S f) 96 ls st h k n) := by rw [wp_s dd_123_95 rfl hs]; rfl
theorem dd_123_96 : decode (mB 123) 96 = .ok (.getfield 34, 3) := by decide +kernel
theorem u_123_96 {G : aG} {S : Nat → Bool} {f : Nat} {st : List Value} {ls : aL} {h : aH} {k n : Nat} {a : Nat} (hs : S 96 = false) : WP 123 G S (f + 1) 96 ls (.ref a :: st) h k n = (oV (fget h a 10 10) (WP 123 G S f) 99 ls st h k n) := by rw [wp_s dd_123_96 rfl hs]; rfl
theorem dd_123_99 : decode (mB 123) 99 = .ok (.iload_n 3, 1) := by decide +kernel
theorem u_123_99 {G : aG} {S : Nat → Bool} {f : Nat} {st : List Value} {ls : aL} {h : aH} {k n : Nat} (hs : S 99 = false) : WP 123 G S (f + 1) 99 ls st h k n = (oI (lget ls 3) (WP 123 G S f) 100 ls st h k n) := by rw [wp_s dd_123_99 rfl hs]; rfl
theorem dd_123_100 : decode (mB 123) 100 = .ok (.iconst 0, 1) := by decide +kernel
theorem u_123_100 {G : aG} {S : Nat → Bool} {f : Nat} {st : List Value} {ls : aL} {h : aH} {k n : Nat} (hs : S 100 = false) : WP 123 G S (f + 1) 100 ls st h k n = (WP 123 G S f 101 ls (.int (nI 0) :: st) h k n) := by rw [wp_s dd_123_100 rfl hs]; rfl
theorem dd_123_101 : decode (mB 123) 101 = .ok (.iastore, 1) := by decide +kernel
theorem u_123_101 {G : aG} {S : Nat → Bool} {f : Nat} {st : List Value} {ls : aL} {h : aH} {k n : Nat} {i x : Int32} {a : Nat} (hs : S 101 = false) : WP 123 G S (f + 1) 101 ls (.int x :: .int i :: .ref a :: st) h k n = (oIst (iget h a 1) a i x (WP 123 G S f) 102 ls st h k n) := by rw [wp_s dd_123_101 rfl hs]; rfl
theorem dd_123_102 : decode (mB 123) 102 = .ok (.aload_n 0, 1) := by decide +kernel
theorem u_123_102 {G : aG} {S : Nat → Bool} {f : Nat} {st : List Value} {ls : aL} {h : aH} {k n : Nat} (hs : S 102 = false) : WP 123 G S (f + 1) 102 ls st h k n = (oA (lget ls 0) (WP 123 G S f) 103 ls st h k n) := by rw [wp_s dd_123_102 rfl hs]; rfl
theorem dd_123_103 : decode (mB 123) 103 = .ok (.getfield 22, 3) := by decide +kernel
theorem u_123_103 {G : aG} {S : Nat → Bool} {f : Nat} {st : List Value} {ls : aL} {h : aH} {k n : Nat} {a : Nat} (hs : S 103 = false) : WP 123 G S (f + 1) 103 ls (.ref a :: st) h k n = (oV (fget h a 10 6) (WP 123 G S f) 106 ls st h k n) := by rw [wp_s dd_123_103 rfl hs]; rfl
theorem dd_123_106 : decode (mB 123) 106 = .ok (.iload_n 3, 1) := by decide +kernel
theorem u_123_106 {G : aG} {S : Nat → Bool} {f : Nat} {st : List Value} {ls : aL} {h : aH} {k n : Nat} (hs : S 106 = false) : WP 123 G S (f + 1) 106 ls st h k n = (oI (lget ls 3) (WP 123 G S f) 107 ls st h k n) := by rw [wp_s dd_123_106 rfl hs]; rfl
theorem dd_123_107 : decode (mB 123) 107 = .ok (.iaload, 1) := by decide +kernel
theorem u_123_107 {G : aG} {S : Nat → Bool} {f : Nat} {st : List Value} {ls : aL} {h : aH} {k n : Nat} {i : Int32} {a : Nat} (hs : S 107 = false) : WP 123 G S (f + 1) 107 ls (.int i :: .ref a :: st) h k n = (oIld (iget h a 1) i (WP 123 G S f) 108 ls st h k n) := by rw [wp_s dd_123_107 rfl hs]; rfl
theorem dd_123_108 : decode (mB 123) 108 = .ok (.istore 4, 2) := by decide +kernel
theorem u_123_108 {G : aG} {S : Nat → Bool} {f : Nat} {st : List Value} {ls : aL} {h : aH} {k n : Nat} {x : Int32} (hs : S 108 = false) : WP 123 G S (f + 1) 108 ls (.int x :: st) h k n = (WP 123 G S f 110 (lput1 ls 4 (.int x)) st h k n) := by rw [wp_s dd_123_108 rfl hs]; rfl
theorem dd_123_110 : decode (mB 123) 110 = .ok (.aload_n 0, 1) := by decide +kernel
theorem u_123_110 {G : aG} {S : Nat → Bool} {f : Nat} {st : List Value} {ls : aL} {h : aH} {k n : Nat} (hs : S 110 = false) : WP 123 G S (f + 1) 110 ls st h k n = (oA (lget ls 0) (WP 123 G S f) 111 ls st h k n) := by rw [wp_s dd_123_110 rfl hs]; rfl
theorem dd_123_111 : decode (mB 123) 111 = .ok (.getfield 25, 3) := by decide +kernel
theorem u_123_111 {G : aG} {S : Nat → Bool} {f : Nat} {st : List Value} {ls : aL} {h : aH} {k n : Nat} {a : Nat} (hs : S 111 = false) : WP 123 G S (f + 1) 111 ls (.ref a :: st) h k n = (oV (fget h a 10 7) (WP 123 G S f) 114 ls st h k n) := by rw [wp_s dd_123_111 rfl hs]; rfl
theorem dd_123_114 : decode (mB 123) 114 = .ok (.iload_n 3, 1) := by decide +kernel
theorem u_123_114 {G : aG} {S : Nat → Bool} {f : Nat} {st : List Value} {ls : aL} {h : aH} {k n : Nat} (hs : S 114 = false) : WP 123 G S (f + 1) 114 ls st h k n = (oI (lget ls 3) (WP 123 G S f) 115 ls st h k n) := by rw [wp_s dd_123_114 rfl hs]; rfl
theorem dd_123_115 : decode (mB 123) 115 = .ok (.iaload, 1) := by decide +kernel
theorem u_123_115 {G : aG} {S : Nat → Bool} {f : Nat} {st : List Value} {ls : aL} {h : aH} {k n : Nat} {i : Int32} {a : Nat} (hs : S 115 = false) : WP 123 G S (f + 1) 115 ls (.int i :: .ref a :: st) h k n = (oIld (iget h a 1) i (WP 123 G S f) 116 ls st h k n) := by rw [wp_s dd_123_115 rfl hs]; rfl
theorem dd_123_116 : decode (mB 123) 116 = .ok (.istore 5, 2) := by decide +kernel
theorem u_123_116 {G : aG} {S : Nat → Bool} {f : Nat} {st : List Value} {ls : aL} {h : aH} {k n : Nat} {x : Int32} (hs : S 116 = false) : WP 123 G S (f + 1) 116 ls (.int x :: st) h k n = (WP 123 G S f 118 (lput1 ls 5 (.int x)) st h k n) := by rw [wp_s dd_123_116 rfl hs]; rfl
theorem dd_123_118 : decode (mB 123) 118 = .ok (.aload_n 0, 1) := by decide +kernel
theorem u_123_118 {G : aG} {S : Nat → Bool} {f : Nat} {st : List Value} {ls : aL} {h : aH} {k n : Nat} (hs : S 118 = false) : WP 123 G S (f + 1) 118 ls st h k n = (oA (lget ls 0) (WP 123 G S f) 119 ls st h k n) := by rw [wp_s dd_123_118 rfl hs]; rfl
theorem dd_123_119 : decode (mB 123) 119 = .ok (.getfield 31, 3) := by decide +kernel
theorem u_123_119 {G : aG} {S : Nat → Bool} {f : Nat} {st : List Value} {ls : aL} {h : aH} {k n : Nat} {a : Nat} (hs : S 119 = false) : WP 123 G S (f + 1) 119 ls (.ref a :: st) h k n = (oV (fget h a 10 9) (WP 123 G S f) 122 ls st h k n) := by rw [wp_s dd_123_119 rfl hs]; rfl
theorem dd_123_122 : decode (mB 123) 122 = .ok (.iload_n 3, 1) := by decide +kernel
theorem u_123_122 {G : aG} {S : Nat → Bool} {f : Nat} {st : List Value} {ls : aL} {h : aH} {k n : Nat} (hs : S 122 = false) : WP 123 G S (f + 1) 122 ls st h k n = (oI (lget ls 3) (WP 123 G S f) 123 ls st h k n) := by rw [wp_s dd_123_122 rfl hs]; rfl
theorem dd_123_123 : decode (mB 123) 123 = .ok (.iload 4, 2) := by decide +kernel
theorem u_123_123 {G : aG} {S : Nat → Bool} {f : Nat} {st : List Value} {ls : aL} {h : aH} {k n : Nat} (hs : S 123 = false) : WP 123 G S (f + 1) 123 ls st h k n = (oI (lget ls 4) (WP 123 G S f) 125 ls st h k n) := by rw [wp_s dd_123_123 rfl hs]; rfl
theorem dd_123_125 : decode (mB 123) 125 = .ok (.iconst (-1), 1) := by decide +kernel
theorem u_123_125 {G : aG} {S : Nat → Bool} {f : Nat} {st : List Value} {ls : aL} {h : aH} {k n : Nat} (hs : S 125 = false) : WP 123 G S (f + 1) 125 ls st h k n = (WP 123 G S f 126 ls (.int (-1) :: st) h k n) := by rw [wp_s dd_123_125 rfl hs]; rfl
theorem dd_123_126 : decode (mB 123) 126 = .ok (.if_icmp .ne 7, 3) := by decide +kernel
theorem u_123_126 {G : aG} {S : Nat → Bool} {f : Nat} {st : List Value} {ls : aL} {h : aH} {k n : Nat} {x y : Int32} (hs : S 126 = false) : WP 123 G S (f + 1) 126 ls (.int y :: .int x :: st) h k n = (if x = y then WP 123 G S f 129 ls st h k n else WP 123 G S f 133 ls st h k n) := by rw [wp_s dd_123_126 rfl hs]; exact br_iten (c := x = y)
theorem dd_123_129 : decode (mB 123) 129 = .ok (.iconst 0, 1) := by decide +kernel
theorem u_123_129 {G : aG} {S : Nat → Bool} {f : Nat} {st : List Value} {ls : aL} {h : aH} {k n : Nat} (hs : S 129 = false) : WP 123 G S (f + 1) 129 ls st h k n = (WP 123 G S f 130 ls (.int (nI 0) :: st) h k n) := by rw [wp_s dd_123_129 rfl hs]; rfl
theorem dd_123_130 : decode (mB 123) 130 = .ok (.goto 10, 3) := by decide +kernel
theorem u_123_130 {G : aG} {S : Nat → Bool} {f : Nat} {st : List Value} {ls : aL} {h : aH} {k n : Nat} (hs : S 130 = false) : WP 123 G S (f + 1) 130 ls st h k n = (WP 123 G S f 140 ls st h k n) := by rw [wp_s dd_123_130 rfl hs]; rfl
theorem dd_123_133 : decode (mB 123) 133 = .ok (.aload_n 0, 1) := by decide +kernel
theorem u_123_133 {G : aG} {S : Nat → Bool} {f : Nat} {st : List Value} {ls : aL} {h : aH} {k n : Nat} (hs : S 133 = false) : WP 123 G S (f + 1) 133 ls st h k n = (oA (lget ls 0) (WP 123 G S f) 134 ls st h k n) := by rw [wp_s dd_123_133 rfl hs]; rfl
theorem dd_123_134 : decode (mB 123) 134 = .ok (.getfield 31, 3) := by decide +kernel
theorem u_123_134 {G : aG} {S : Nat → Bool} {f : Nat} {st : List Value} {ls : aL} {h : aH} {k n : Nat} {a : Nat} (hs : S 134 = false) : WP 123 G S (f + 1) 134 ls (.ref a :: st) h k n = (oV (fget h a 10 9) (WP 123 G S f) 137 ls st h k n) := by rw [wp_s dd_123_134 rfl hs]; rfl
theorem dd_123_137 : decode (mB 123) 137 = .ok (.iload 4, 2) := by decide +kernel
theorem u_123_137 {G : aG} {S : Nat → Bool} {f : Nat} {st : List Value} {ls : aL} {h : aH} {k n : Nat} (hs : S 137 = false) : WP 123 G S (f + 1) 137 ls st h k n = (oI (lget ls 4) (WP 123 G S f) 139 ls st h k n) := by rw [wp_s dd_123_137 rfl hs]; rfl
theorem dd_123_139 : decode (mB 123) 139 = .ok (.iaload, 1) := by decide +kernel
theorem u_123_139 {G : aG} {S : Nat → Bool} {f : Nat} {st : List Value} {ls : aL} {h : aH} {k n : Nat} {i : Int32} {a : Nat} (hs : S 139 = false) : WP 123 G S (f + 1) 139 ls (.int i :: .ref a :: st) h k n = (oIld (iget h a 1) i (WP 123 G S f) 140 ls st h k n) := by rw [wp_s dd_123_139 rfl hs]; rfl
theorem dd_123_140 : decode (mB 123) 140 = .ok (.iload 5, 2) := by decide +kernel
theorem u_123_140 {G : aG} {S : Nat → Bool} {f : Nat} {st : List Value} {ls : aL} {h : aH} {k n : Nat} (hs : S 140 = false) : WP 123 G S (f + 1) 140 ls st h k n = (oI (lget ls 5) (WP 123 G S f) 142 ls st h k n) := by rw [wp_s dd_123_140 rfl hs]; rfl
theorem dd_123_142 : decode (mB 123) 142 = .ok (.iconst (-1), 1) := by decide +kernel
theorem u_123_142 {G : aG} {S : Nat → Bool} {f : Nat} {st : List Value} {ls : aL} {h : aH} {k n : Nat} (hs : S 142 = false) : WP 123 G S (f + 1) 142 ls st h k n = (WP 123 G S f 143 ls (.int (-1) :: st) h k n) := by rw [wp_s dd_123_142 rfl hs]; rfl
theorem dd_123_143 : decode (mB 123) 143 = .ok (.if_icmp .ne 7, 3) := by decide +kernel
theorem u_123_143 {G : aG} {S : Nat → Bool} {f : Nat} {st : List Value} {ls : aL} {h : aH} {k n : Nat} {x y : Int32} (hs : S 143 = false) : WP 123 G S (f + 1) 143 ls (.int y :: .int x :: st) h k n = (if x = y then WP 123 G S f 146 ls st h k n else WP 123 G S f 150 ls st h k n) := by rw [wp_s dd_123_143 rfl hs]; exact br_iten (c := x = y)
theorem dd_123_146 : decode (mB 123) 146 = .ok (.iconst 0, 1) := by decide +kernel
theorem u_123_146 {G : aG} {S : Nat → Bool} {f : Nat} {st : List Value} {ls : aL} {h : aH} {k n : Nat} (hs : S 146 = false) : WP 123 G S (f + 1) 146 ls st h k n = (WP 123 G S f 147 ls (.int (nI 0) :: st) h k n) := by rw [wp_s dd_123_146 rfl hs]; rfl
theorem dd_123_147 : decode (mB 123) 147 = .ok (.goto 10, 3) := by decide +kernel
theorem u_123_147 {G : aG} {S : Nat → Bool} {f : Nat} {st : List Value} {ls : aL} {h : aH} {k n : Nat} (hs : S 147 = false) : WP 123 G S (f + 1) 147 ls st h k n = (WP 123 G S f 157 ls st h k n) := by rw [wp_s dd_123_147 rfl hs]; rfl
theorem dd_123_150 : decode (mB 123) 150 = .ok (.aload_n 0, 1) := by decide +kernel
theorem u_123_150 {G : aG} {S : Nat → Bool} {f : Nat} {st : List Value} {ls : aL} {h : aH} {k n : Nat} (hs : S 150 = false) : WP 123 G S (f + 1) 150 ls st h k n = (oA (lget ls 0) (WP 123 G S f) 151 ls st h k n) := by rw [wp_s dd_123_150 rfl hs]; rfl
theorem dd_123_151 : decode (mB 123) 151 = .ok (.getfield 31, 3) := by decide +kernel
theorem u_123_151 {G : aG} {S : Nat → Bool} {f : Nat} {st : List Value} {ls : aL} {h : aH} {k n : Nat} {a : Nat} (hs : S 151 = false) : WP 123 G S (f + 1) 151 ls (.ref a :: st) h k n = (oV (fget h a 10 9) (WP 123 G S f) 154 ls st h k n) := by rw [wp_s dd_123_151 rfl hs]; rfl
theorem dd_123_154 : decode (mB 123) 154 = .ok (.iload 5, 2) := by decide +kernel
theorem u_123_154 {G : aG} {S : Nat → Bool} {f : Nat} {st : List Value} {ls : aL} {h : aH} {k n : Nat} (hs : S 154 = false) : WP 123 G S (f + 1) 154 ls st h k n = (oI (lget ls 5) (WP 123 G S f) 156 ls st h k n) := by rw [wp_s dd_123_154 rfl hs]; rfl
theorem dd_123_156 : decode (mB 123) 156 = .ok (.iaload, 1) := by decide +kernel
theorem u_123_156 {G : aG} {S : Nat → Bool} {f : Nat} {st : List Value} {ls : aL} {h : aH} {k n : Nat} {i : Int32} {a : Nat} (hs : S 156 = false) : WP 123 G S (f + 1) 156 ls (.int i :: .ref a :: st) h k n = (oIld (iget h a 1) i (WP 123 G S f) 157 ls st h k n) := by rw [wp_s dd_123_156 rfl hs]; rfl
theorem dd_123_157 : decode (mB 123) 157 = .ok (.ior, 1) := by decide +kernel
theorem u_123_157 {G : aG} {S : Nat → Bool} {f : Nat} {st : List Value} {ls : aL} {h : aH} {k n : Nat} {x y : Int32} (hs : S 157 = false) : WP 123 G S (f + 1) 157 ls (.int y :: .int x :: st) h k n = (WP 123 G S f 158 ls (.int (x ||| y) :: st) h k n) := by rw [wp_s dd_123_157 rfl hs]; rfl
theorem dd_123_158 : decode (mB 123) 158 = .ok (.iastore, 1) := by decide +kernel
theorem u_123_158 {G : aG} {S : Nat → Bool} {f : Nat} {st : List Value} {ls : aL} {h : aH} {k n : Nat} {i x : Int32} {a : Nat} (hs : S 158 = false) : WP 123 G S (f + 1) 158 ls (.int x :: .int i :: .ref a :: st) h k n = (oIst (iget h a 1) a i x (WP 123 G S f) 159 ls st h k n) := by rw [wp_s dd_123_158 rfl hs]; rfl
theorem dd_123_159 : decode (mB 123) 159 = .ok (.iload 4, 2) := by decide +kernel
theorem u_123_159 {G : aG} {S : Nat → Bool} {f : Nat} {st : List Value} {ls : aL} {h : aH} {k n : Nat} (hs : S 159 = false) : WP 123 G S (f + 1) 159 ls st h k n = (oI (lget ls 4) (WP 123 G S f) 161 ls st h k n) := by rw [wp_s dd_123_159 rfl hs]; rfl
theorem dd_123_161 : decode (mB 123) 161 = .ok (.iconst (-1), 1) := by decide +kernel
theorem u_123_161 {G : aG} {S : Nat → Bool} {f : Nat} {st : List Value} {ls : aL} {h : aH} {k n : Nat} (hs : S 161 = false) : WP 123 G S (f + 1) 161 ls st h k n = (WP 123 G S f 162 ls (.int (-1) :: st) h k n) := by rw [wp_s dd_123_161 rfl hs]; rfl
theorem dd_123_162 : decode (mB 123) 162 = .ok (.if_icmp .eq 11, 3) := by decide +kernel
theorem u_123_162 {G : aG} {S : Nat → Bool} {f : Nat} {st : List Value} {ls : aL} {h : aH} {k n : Nat} {x y : Int32} (hs : S 162 = false) : WP 123 G S (f + 1) 162 ls (.int y :: .int x :: st) h k n = (if x = y then WP 123 G S f 173 ls st h k n else WP 123 G S f 165 ls st h k n) := by rw [wp_s dd_123_162 rfl hs]; exact br_ite (c := x = y)
theorem dd_123_165 : decode (mB 123) 165 = .ok (.aload_n 0, 1) := by decide +kernel
theorem u_123_165 {G : aG} {S : Nat → Bool} {f : Nat} {st : List Value} {ls : aL} {h : aH} {k n : Nat} (hs : S 165 = false) : WP 123 G S (f + 1) 165 ls st h k n = (oA (lget ls 0) (WP 123 G S f) 166 ls st h k n) := by rw [wp_s dd_123_165 rfl hs]; rfl
theorem dd_123_166 : decode (mB 123) 166 = .ok (.getfield 28, 3) := by decide +kernel
theorem u_123_166 {G : aG} {S : Nat → Bool} {f : Nat} {st : List Value} {ls : aL} {h : aH} {k n : Nat} {a : Nat} (hs : S 166 = false) : WP 123 G S (f + 1) 166 ls (.ref a :: st) h k n = (oV (fget h a 10 8) (WP 123 G S f) 169 ls st h k n) := by rw [wp_s dd_123_166 rfl hs]; rfl
theorem dd_123_169 : decode (mB 123) 169 = .ok (.iload 4, 2) := by decide +kernel
theorem u_123_169 {G : aG} {S : Nat → Bool} {f : Nat} {st : List Value} {ls : aL} {h : aH} {k n : Nat} (hs : S 169 = false) : WP 123 G S (f + 1) 169 ls st h k n = (oI (lget ls 4) (WP 123 G S f) 171 ls st h k n) := by rw [wp_s dd_123_169 rfl hs]; rfl
theorem dd_123_171 : decode (mB 123) 171 = .ok (.iload_n 3, 1) := by decide +kernel
theorem u_123_171 {G : aG} {S : Nat → Bool} {f : Nat} {st : List Value} {ls : aL} {h : aH} {k n : Nat} (hs : S 171 = false) : WP 123 G S (f + 1) 171 ls st h k n = (oI (lget ls 3) (WP 123 G S f) 172 ls st h k n) := by rw [wp_s dd_123_171 rfl hs]; rfl
theorem dd_123_172 : decode (mB 123) 172 = .ok (.iastore, 1) := by decide +kernel
theorem u_123_172 {G : aG} {S : Nat → Bool} {f : Nat} {st : List Value} {ls : aL} {h : aH} {k n : Nat} {i x : Int32} {a : Nat} (hs : S 172 = false) : WP 123 G S (f + 1) 172 ls (.int x :: .int i :: .ref a :: st) h k n = (oIst (iget h a 1) a i x (WP 123 G S f) 173 ls st h k n) := by rw [wp_s dd_123_172 rfl hs]; rfl
theorem dd_123_173 : decode (mB 123) 173 = .ok (.iload 5, 2) := by decide +kernel
theorem u_123_173 {G : aG} {S : Nat → Bool} {f : Nat} {st : List Value} {ls : aL} {h : aH} {k n : Nat} (hs : S 173 = false) : WP 123 G S (f + 1) 173 ls st h k n = (oI (lget ls 5) (WP 123 G S f) 175 ls st h k n) := by rw [wp_s dd_123_173 rfl hs]; rfl
theorem dd_123_175 : decode (mB 123) 175 = .ok (.iconst (-1), 1) := by decide +kernel
theorem u_123_175 {G : aG} {S : Nat → Bool} {f : Nat} {st : List Value} {ls : aL} {h : aH} {k n : Nat} (hs : S 175 = false) : WP 123 G S (f + 1) 175 ls st h k n = (WP 123 G S f 176 ls (.int (-1) :: st) h k n) := by rw [wp_s dd_123_175 rfl hs]; rfl
theorem dd_123_176 : decode (mB 123) 176 = .ok (.if_icmp .eq 11, 3) := by decide +kernel
theorem u_123_176 {G : aG} {S : Nat → Bool} {f : Nat} {st : List Value} {ls : aL} {h : aH} {k n : Nat} {x y : Int32} (hs : S 176 = false) : WP 123 G S (f + 1) 176 ls (.int y :: .int x :: st) h k n = (if x = y then WP 123 G S f 187 ls st h k n else WP 123 G S f 179 ls st h k n) := by rw [wp_s dd_123_176 rfl hs]; exact br_ite (c := x = y)
theorem dd_123_179 : decode (mB 123) 179 = .ok (.aload_n 0, 1) := by decide +kernel
theorem u_123_179 {G : aG} {S : Nat → Bool} {f : Nat} {st : List Value} {ls : aL} {h : aH} {k n : Nat} (hs : S 179 = false) : WP 123 G S (f + 1) 179 ls st h k n = (oA (lget ls 0) (WP 123 G S f) 180 ls st h k n) := by rw [wp_s dd_123_179 rfl hs]; rfl
theorem dd_123_180 : decode (mB 123) 180 = .ok (.getfield 28, 3) := by decide +kernel
theorem u_123_180 {G : aG} {S : Nat → Bool} {f : Nat} {st : List Value} {ls : aL} {h : aH} {k n : Nat} {a : Nat} (hs : S 180 = false) : WP 123 G S (f + 1) 180 ls (.ref a :: st) h k n = (oV (fget h a 10 8) (WP 123 G S f) 183 ls st h k n) := by rw [wp_s dd_123_180 rfl hs]; rfl
theorem dd_123_183 : decode (mB 123) 183 = .ok (.iload 5, 2) := by decide +kernel
theorem u_123_183 {G : aG} {S : Nat → Bool} {f : Nat} {st : List Value} {ls : aL} {h : aH} {k n : Nat} (hs : S 183 = false) : WP 123 G S (f + 1) 183 ls st h k n = (oI (lget ls 5) (WP 123 G S f) 185 ls st h k n) := by rw [wp_s dd_123_183 rfl hs]; rfl
theorem dd_123_185 : decode (mB 123) 185 = .ok (.iload_n 3, 1) := by decide +kernel
theorem u_123_185 {G : aG} {S : Nat → Bool} {f : Nat} {st : List Value} {ls : aL} {h : aH} {k n : Nat} (hs : S 185 = false) : WP 123 G S (f + 1) 185 ls st h k n = (oI (lget ls 3) (WP 123 G S f) 186 ls st h k n) := by rw [wp_s dd_123_185 rfl hs]; rfl
theorem dd_123_186 : decode (mB 123) 186 = .ok (.iastore, 1) := by decide +kernel
theorem u_123_186 {G : aG} {S : Nat → Bool} {f : Nat} {st : List Value} {ls : aL} {h : aH} {k n : Nat} {i x : Int32} {a : Nat} (hs : S 186 = false) : WP 123 G S (f + 1) 186 ls (.int x :: .int i :: .ref a :: st) h k n = (oIst (iget h a 1) a i x (WP 123 G S f) 187 ls st h k n) := by rw [wp_s dd_123_186 rfl hs]; rfl
theorem dd_123_187 : decode (mB 123) 187 = .ok (.aload_n 0, 1) := by decide +kernel
theorem u_123_187 {G : aG} {S : Nat → Bool} {f : Nat} {st : List Value} {ls : aL} {h : aH} {k n : Nat} (hs : S 187 = false) : WP 123 G S (f + 1) 187 ls st h k n = (oA (lget ls 0) (WP 123 G S f) 188 ls st h k n) := by rw [wp_s dd_123_187 rfl hs]; rfl
theorem dd_123_188 : decode (mB 123) 188 = .ok (.getfield 19, 3) := by decide +kernel
theorem u_123_188 {G : aG} {S : Nat → Bool} {f : Nat} {st : List Value} {ls : aL} {h : aH} {k n : Nat} {a : Nat} (hs : S 188 = false) : WP 123 G S (f + 1) 188 ls (.ref a :: st) h k n = (oV (fget h a 10 5) (WP 123 G S f) 191 ls st h k n) := by rw [wp_s dd_123_188 rfl hs]; rfl
theorem dd_123_191 : decode (mB 123) 191 = .ok (.iload_n 3, 1) := by decide +kernel
theorem u_123_191 {G : aG} {S : Nat → Bool} {f : Nat} {st : List Value} {ls : aL} {h : aH} {k n : Nat} (hs : S 191 = false) : WP 123 G S (f + 1) 191 ls st h k n = (oI (lget ls 3) (WP 123 G S f) 192 ls st h k n) := by rw [wp_s dd_123_191 rfl hs]; rfl
theorem dd_123_192 : decode (mB 123) 192 = .ok (.iaload, 1) := by decide +kernel
theorem u_123_192 {G : aG} {S : Nat → Bool} {f : Nat} {st : List Value} {ls : aL} {h : aH} {k n : Nat} {i : Int32} {a : Nat} (hs : S 192 = false) : WP 123 G S (f + 1) 192 ls (.int i :: .ref a :: st) h k n = (oIld (iget h a 1) i (WP 123 G S f) 193 ls st h k n) := by rw [wp_s dd_123_192 rfl hs]; rfl
theorem dd_123_193 : decode (mB 123) 193 = .ok (.ifCond .le 38, 3) := by decide +kernel
theorem u_123_193 {G : aG} {S : Nat → Bool} {f : Nat} {st : List Value} {ls : aL} {h : aH} {k n : Nat} {x : Int32} (hs : S 193 = false) : WP 123 G S (f + 1) 193 ls (.int x :: st) h k n = (if x ≤ nI 0 then WP 123 G S f 231 ls st h k n else WP 123 G S f 196 ls st h k n) := by rw [wp_s dd_123_193 rfl hs]; exact br_ite (c := x ≤ nI 0)
theorem dd_123_196 : decode (mB 123) 196 = .ok (.aload_n 0, 1) := by decide +kernel
theorem u_123_196 {G : aG} {S : Nat → Bool} {f : Nat} {st : List Value} {ls : aL} {h : aH} {k n : Nat} (hs : S 196 = false) : WP 123 G S (f + 1) 196 ls st h k n = (oA (lget ls 0) (WP 123 G S f) 197 ls st h k n) := by rw [wp_s dd_123_196 rfl hs]; rfl
theorem dd_123_197 : decode (mB 123) 197 = .ok (.getfield 19, 3) := by decide +kernel
theorem u_123_197 {G : aG} {S : Nat → Bool} {f : Nat} {st : List Value} {ls : aL} {h : aH} {k n : Nat} {a : Nat} (hs : S 197 = false) : WP 123 G S (f + 1) 197 ls (.ref a :: st) h k n = (oV (fget h a 10 5) (WP 123 G S f) 200 ls st h k n) := by rw [wp_s dd_123_197 rfl hs]; rfl
theorem dd_123_200 : decode (mB 123) 200 = .ok (.iload_n 3, 1) := by decide +kernel
theorem u_123_200 {G : aG} {S : Nat → Bool} {f : Nat} {st : List Value} {ls : aL} {h : aH} {k n : Nat} (hs : S 200 = false) : WP 123 G S (f + 1) 200 ls st h k n = (oI (lget ls 3) (WP 123 G S f) 201 ls st h k n) := by rw [wp_s dd_123_200 rfl hs]; rfl
theorem dd_123_201 : decode (mB 123) 201 = .ok (.iaload, 1) := by decide +kernel
theorem u_123_201 {G : aG} {S : Nat → Bool} {f : Nat} {st : List Value} {ls : aL} {h : aH} {k n : Nat} {i : Int32} {a : Nat} (hs : S 201 = false) : WP 123 G S (f + 1) 201 ls (.int i :: .ref a :: st) h k n = (oIld (iget h a 1) i (WP 123 G S f) 202 ls st h k n) := by rw [wp_s dd_123_201 rfl hs]; rfl
theorem dd_123_202 : decode (mB 123) 202 = .ok (.bipush 9, 2) := by decide +kernel
theorem u_123_202 {G : aG} {S : Nat → Bool} {f : Nat} {st : List Value} {ls : aL} {h : aH} {k n : Nat} (hs : S 202 = false) : WP 123 G S (f + 1) 202 ls st h k n = (WP 123 G S f 204 ls (.int (nI 9) :: st) h k n) := by rw [wp_s dd_123_202 rfl hs]; rfl
theorem dd_123_204 : decode (mB 123) 204 = .ok (.if_icmp .ge 27, 3) := by decide +kernel
theorem u_123_204 {G : aG} {S : Nat → Bool} {f : Nat} {st : List Value} {ls : aL} {h : aH} {k n : Nat} {x y : Int32} (hs : S 204 = false) : WP 123 G S (f + 1) 204 ls (.int y :: .int x :: st) h k n = (if y ≤ x then WP 123 G S f 231 ls st h k n else WP 123 G S f 207 ls st h k n) := by rw [wp_s dd_123_204 rfl hs]; exact br_ite (c := y ≤ x)
theorem dd_123_207 : decode (mB 123) 207 = .ok (.aload_n 0, 1) := by decide +kernel
theorem u_123_207 {G : aG} {S : Nat → Bool} {f : Nat} {st : List Value} {ls : aL} {h : aH} {k n : Nat} (hs : S 207 = false) : WP 123 G S (f + 1) 207 ls st h k n = (oA (lget ls 0) (WP 123 G S f) 208 ls st h k n) := by rw [wp_s dd_123_207 rfl hs]; rfl
theorem dd_123_208 : decode (mB 123) 208 = .ok (.getfield 34, 3) := by decide +kernel
theorem u_123_208 {G : aG} {S : Nat → Bool} {f : Nat} {st : List Value} {ls : aL} {h : aH} {k n : Nat} {a : Nat} (hs : S 208 = false) : WP 123 G S (f + 1) 208 ls (.ref a :: st) h k n = (oV (fget h a 10 10) (WP 123 G S f) 211 ls st h k n) := by rw [wp_s dd_123_208 rfl hs]; rfl
theorem dd_123_211 : decode (mB 123) 211 = .ok (.iload_n 3, 1) := by decide +kernel
theorem u_123_211 {G : aG} {S : Nat → Bool} {f : Nat} {st : List Value} {ls : aL} {h : aH} {k n : Nat} (hs : S 211 = false) : WP 123 G S (f + 1) 211 ls st h k n = (oI (lget ls 3) (WP 123 G S f) 212 ls st h k n) := by rw [wp_s dd_123_211 rfl hs]; rfl
theorem dd_123_212 : decode (mB 123) 212 = .ok (.iconst 1, 1) := by decide +kernel
theorem u_123_212 {G : aG} {S : Nat → Bool} {f : Nat} {st : List Value} {ls : aL} {h : aH} {k n : Nat} (hs : S 212 = false) : WP 123 G S (f + 1) 212 ls st h k n = (WP 123 G S f 213 ls (.int (nI 1) :: st) h k n) := by rw [wp_s dd_123_212 rfl hs]; rfl
theorem dd_123_213 : decode (mB 123) 213 = .ok (.iload_n 2, 1) := by decide +kernel
theorem u_123_213 {G : aG} {S : Nat → Bool} {f : Nat} {st : List Value} {ls : aL} {h : aH} {k n : Nat} (hs : S 213 = false) : WP 123 G S (f + 1) 213 ls st h k n = (oI (lget ls 2) (WP 123 G S f) 214 ls st h k n) := by rw [wp_s dd_123_213 rfl hs]; rfl
theorem dd_123_214 : decode (mB 123) 214 = .ok (.ishl, 1) := by decide +kernel
theorem u_123_214 {G : aG} {S : Nat → Bool} {f : Nat} {st : List Value} {ls : aL} {h : aH} {k n : Nat} {x y : Int32} (hs : S 214 = false) : WP 123 G S (f + 1) 214 ls (.int y :: .int x :: st) h k n = (WP 123 G S f 215 ls (.int (x <<< (y &&& 31)) :: st) h k n) := by rw [wp_s dd_123_214 rfl hs]; rfl
theorem dd_123_215 : decode (mB 123) 215 = .ok (.iastore, 1) := by decide +kernel
theorem u_123_215 {G : aG} {S : Nat → Bool} {f : Nat} {st : List Value} {ls : aL} {h : aH} {k n : Nat} {i x : Int32} {a : Nat} (hs : S 215 = false) : WP 123 G S (f + 1) 215 ls (.int x :: .int i :: .ref a :: st) h k n = (oIst (iget h a 1) a i x (WP 123 G S f) 216 ls st h k n) := by rw [wp_s dd_123_215 rfl hs]; rfl
theorem dd_123_216 : decode (mB 123) 216 = .ok (.aload_n 0, 1) := by decide +kernel
theorem u_123_216 {G : aG} {S : Nat → Bool} {f : Nat} {st : List Value} {ls : aL} {h : aH} {k n : Nat} (hs : S 216 = false) : WP 123 G S (f + 1) 216 ls st h k n = (oA (lget ls 0) (WP 123 G S f) 217 ls st h k n) := by rw [wp_s dd_123_216 rfl hs]; rfl
theorem dd_123_217 : decode (mB 123) 217 = .ok (.getfield 31, 3) := by decide +kernel
theorem u_123_217 {G : aG} {S : Nat → Bool} {f : Nat} {st : List Value} {ls : aL} {h : aH} {k n : Nat} {a : Nat} (hs : S 217 = false) : WP 123 G S (f + 1) 217 ls (.ref a :: st) h k n = (oV (fget h a 10 9) (WP 123 G S f) 220 ls st h k n) := by rw [wp_s dd_123_217 rfl hs]; rfl
theorem dd_123_220 : decode (mB 123) 220 = .ok (.iload_n 3, 1) := by decide +kernel
theorem u_123_220 {G : aG} {S : Nat → Bool} {f : Nat} {st : List Value} {ls : aL} {h : aH} {k n : Nat} (hs : S 220 = false) : WP 123 G S (f + 1) 220 ls st h k n = (oI (lget ls 3) (WP 123 G S f) 221 ls st h k n) := by rw [wp_s dd_123_220 rfl hs]; rfl
theorem dd_123_221 : decode (mB 123) 221 = .ok (.aload_n 0, 1) := by decide +kernel
theorem u_123_221 {G : aG} {S : Nat → Bool} {f : Nat} {st : List Value} {ls : aL} {h : aH} {k n : Nat} (hs : S 221 = false) : WP 123 G S (f + 1) 221 ls st h k n = (oA (lget ls 0) (WP 123 G S f) 222 ls st h k n) := by rw [wp_s dd_123_221 rfl hs]; rfl
theorem dd_123_222 : decode (mB 123) 222 = .ok (.getfield 34, 3) := by decide +kernel
theorem u_123_222 {G : aG} {S : Nat → Bool} {f : Nat} {st : List Value} {ls : aL} {h : aH} {k n : Nat} {a : Nat} (hs : S 222 = false) : WP 123 G S (f + 1) 222 ls (.ref a :: st) h k n = (oV (fget h a 10 10) (WP 123 G S f) 225 ls st h k n) := by rw [wp_s dd_123_222 rfl hs]; rfl
theorem dd_123_225 : decode (mB 123) 225 = .ok (.iload_n 3, 1) := by decide +kernel
theorem u_123_225 {G : aG} {S : Nat → Bool} {f : Nat} {st : List Value} {ls : aL} {h : aH} {k n : Nat} (hs : S 225 = false) : WP 123 G S (f + 1) 225 ls st h k n = (oI (lget ls 3) (WP 123 G S f) 226 ls st h k n) := by rw [wp_s dd_123_225 rfl hs]; rfl
theorem dd_123_226 : decode (mB 123) 226 = .ok (.iaload, 1) := by decide +kernel
theorem u_123_226 {G : aG} {S : Nat → Bool} {f : Nat} {st : List Value} {ls : aL} {h : aH} {k n : Nat} {i : Int32} {a : Nat} (hs : S 226 = false) : WP 123 G S (f + 1) 226 ls (.int i :: .ref a :: st) h k n = (oIld (iget h a 1) i (WP 123 G S f) 227 ls st h k n) := by rw [wp_s dd_123_226 rfl hs]; rfl
theorem dd_123_227 : decode (mB 123) 227 = .ok (.iastore, 1) := by decide +kernel
theorem u_123_227 {G : aG} {S : Nat → Bool} {f : Nat} {st : List Value} {ls : aL} {h : aH} {k n : Nat} {i x : Int32} {a : Nat} (hs : S 227 = false) : WP 123 G S (f + 1) 227 ls (.int x :: .int i :: .ref a :: st) h k n = (oIst (iget h a 1) a i x (WP 123 G S f) 228 ls st h k n) := by rw [wp_s dd_123_227 rfl hs]; rfl
theorem dd_123_228 : decode (mB 123) 228 = .ok (.iinc 2 1, 3) := by decide +kernel
theorem u_123_228 {G : aG} {S : Nat → Bool} {f : Nat} {st : List Value} {ls : aL} {h : aH} {k n : Nat} (hs : S 228 = false) : WP 123 G S (f + 1) 228 ls st h k n = (oInc (lget ls 2) (nI 1) (WP 123 G S f) 2 231 ls st h k n) := by rw [wp_s dd_123_228 rfl hs]; rfl
theorem dd_123_231 : decode (mB 123) 231 = .ok (.aload_n 0, 1) := by decide +kernel
theorem u_123_231 {G : aG} {S : Nat → Bool} {f : Nat} {st : List Value} {ls : aL} {h : aH} {k n : Nat} (hs : S 231 = false) : WP 123 G S (f + 1) 231 ls st h k n = (oA (lget ls 0) (WP 123 G S f) 232 ls st h k n) := by rw [wp_s dd_123_231 rfl hs]; rfl
theorem dd_123_232 : decode (mB 123) 232 = .ok (.getfield 37, 3) := by decide +kernel
theorem u_123_232 {G : aG} {S : Nat → Bool} {f : Nat} {st : List Value} {ls : aL} {h : aH} {k n : Nat} {a : Nat} (hs : S 232 = false) : WP 123 G S (f + 1) 232 ls (.ref a :: st) h k n = (oV (fget h a 10 11) (WP 123 G S f) 235 ls st h k n) := by rw [wp_s dd_123_232 rfl hs]; rfl
theorem dd_123_235 : decode (mB 123) 235 = .ok (.iload_n 3, 1) := by decide +kernel
theorem u_123_235 {G : aG} {S : Nat → Bool} {f : Nat} {st : List Value} {ls : aL} {h : aH} {k n : Nat} (hs : S 235 = false) : WP 123 G S (f + 1) 235 ls st h k n = (oI (lget ls 3) (WP 123 G S f) 236 ls st h k n) := by rw [wp_s dd_123_235 rfl hs]; rfl
theorem dd_123_236 : decode (mB 123) 236 = .ok (.aload_n 0, 1) := by decide +kernel
theorem u_123_236 {G : aG} {S : Nat → Bool} {f : Nat} {st : List Value} {ls : aL} {h : aH} {k n : Nat} (hs : S 236 = false) : WP 123 G S (f + 1) 236 ls st h k n = (oA (lget ls 0) (WP 123 G S f) 237 ls st h k n) := by rw [wp_s dd_123_236 rfl hs]; rfl
theorem dd_123_237 : decode (mB 123) 237 = .ok (.iload_n 3, 1) := by decide +kernel
theorem u_123_237 {G : aG} {S : Nat → Bool} {f : Nat} {st : List Value} {ls : aL} {h : aH} {k n : Nat} (hs : S 237 = false) : WP 123 G S (f + 1) 237 ls st h k n = (oI (lget ls 3) (WP 123 G S f) 238 ls st h k n) := by rw [wp_s dd_123_237 rfl hs]; rfl
theorem dd_123_238 : decode (mB 123) 238 = .ok (.iload 4, 2) := by decide +kernel
theorem u_123_238 {G : aG} {S : Nat → Bool} {f : Nat} {st : List Value} {ls : aL} {h : aH} {k n : Nat} (hs : S 238 = false) : WP 123 G S (f + 1) 238 ls st h k n = (oI (lget ls 4) (WP 123 G S f) 240 ls st h k n) := by rw [wp_s dd_123_238 rfl hs]; rfl
theorem dd_123_240 : decode (mB 123) 240 = .ok (.iload 5, 2) := by decide +kernel
theorem u_123_240 {G : aG} {S : Nat → Bool} {f : Nat} {st : List Value} {ls : aL} {h : aH} {k n : Nat} (hs : S 240 = false) : WP 123 G S (f + 1) 240 ls st h k n = (oI (lget ls 5) (WP 123 G S f) 242 ls st h k n) := by rw [wp_s dd_123_240 rfl hs]; rfl
theorem dd_123_242 : decode (mB 123) 242 = .ok (.invokevirtual 84, 3) := by decide +kernel
theorem u_123_242 {G : aG} {S : Nat → Bool} {f : Nat} {st : List Value} {ls : aL} {h : aH} {k n : Nat} {v1 v2 v3 : Value} {b : Nat} (hs : S 242 = false) : WP 123 G S (f + 1) 242 ls (v3 :: v2 :: v1 :: .ref b :: st) h k n = (rcv (hget h b) 10 ∧ CAL G (WP 123 G S f) 124 [.ref b, v1, v2, v3] 245 ls st h k n) := by rw [wp_s dd_123_242 rfl hs]; rfl
theorem dd_123_245 : decode (mB 123) 245 = .ok (.ifCond .eq 7, 3) := by decide +kernel
theorem u_123_245 {G : aG} {S : Nat → Bool} {f : Nat} {st : List Value} {ls : aL} {h : aH} {k n : Nat} {x : Int32} (hs : S 245 = false) : WP 123 G S (f + 1) 245 ls (.int x :: st) h k n = (if x = nI 0 then WP 123 G S f 252 ls st h k n else WP 123 G S f 248 ls st h k n) := by rw [wp_s dd_123_245 rfl hs]; exact br_ite (c := x = nI 0)
theorem dd_123_248 : decode (mB 123) 248 = .ok (.iconst 1, 1) := by decide +kernel
theorem u_123_248 {G : aG} {S : Nat → Bool} {f : Nat} {st : List Value} {ls : aL} {h : aH} {k n : Nat} (hs : S 248 = false) : WP 123 G S (f + 1) 248 ls st h k n = (WP 123 G S f 249 ls (.int (nI 1) :: st) h k n) := by rw [wp_s dd_123_248 rfl hs]; rfl
theorem dd_123_249 : decode (mB 123) 249 = .ok (.goto 4, 3) := by decide +kernel
theorem u_123_249 {G : aG} {S : Nat → Bool} {f : Nat} {st : List Value} {ls : aL} {h : aH} {k n : Nat} (hs : S 249 = false) : WP 123 G S (f + 1) 249 ls st h k n = (WP 123 G S f 253 ls st h k n) := by rw [wp_s dd_123_249 rfl hs]; rfl
theorem dd_123_252 : decode (mB 123) 252 = .ok (.iconst 0, 1) := by decide +kernel
theorem u_123_252 {G : aG} {S : Nat → Bool} {f : Nat} {st : List Value} {ls : aL} {h : aH} {k n : Nat} (hs : S 252 = false) : WP 123 G S (f + 1) 252 ls st h k n = (WP 123 G S f 253 ls (.int (nI 0) :: st) h k n) := by rw [wp_s dd_123_252 rfl hs]; rfl
theorem dd_123_253 : decode (mB 123) 253 = .ok (.iastore, 1) := by decide +kernel
theorem u_123_253 {G : aG} {S : Nat → Bool} {f : Nat} {st : List Value} {ls : aL} {h : aH} {k n : Nat} {i x : Int32} {a : Nat} (hs : S 253 = false) : WP 123 G S (f + 1) 253 ls (.int x :: .int i :: .ref a :: st) h k n = (oIst (iget h a 1) a i x (WP 123 G S f) 254 ls st h k n) := by rw [wp_s dd_123_253 rfl hs]; rfl
theorem dd_123_254 : decode (mB 123) 254 = .ok (.iinc 3 1, 3) := by decide +kernel
theorem u_123_254 {G : aG} {S : Nat → Bool} {f : Nat} {st : List Value} {ls : aL} {h : aH} {k n : Nat} (hs : S 254 = false) : WP 123 G S (f + 1) 254 ls st h k n = (oInc (lget ls 3) (nI 1) (WP 123 G S f) 3 257 ls st h k n) := by rw [wp_s dd_123_254 rfl hs]; rfl
theorem dd_123_257 : decode (mB 123) 257 = .ok (.goto (-240), 3) := by decide +kernel
theorem u_123_257 {G : aG} {S : Nat → Bool} {f : Nat} {st : List Value} {ls : aL} {h : aH} {k n : Nat} (hs : S 257 = false) : WP 123 G S (f + 1) 257 ls st h k n = (WP 123 G S f 17 ls st h k n) := by rw [wp_s dd_123_257 rfl hs]; rfl
theorem dd_123_260 : decode (mB 123) 260 = .ok (.return_, 1) := by decide +kernel
theorem u_123_260 {G : aG} {S : Nat → Bool} {f : Nat} {ls : aL} {h : aH} {k n : Nat} (hs : S 260 = false) : WP 123 G S (f + 1) 260 ls [] h k n = (RET G none h k n) := by rw [wp_s dd_123_260 rfl hs]; rfl
