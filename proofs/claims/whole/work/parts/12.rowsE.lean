/-! rows of 0 Judge.init, 32 Judge.type, 33 Judge.refuse, 35 Judge.clear, 36 Judge.reads, 41 Judge.sortOf, 51 Judge.isOwner, 56 Judge.clears, 57 Judge.of, 59 Judge.ofPattern, 64 Judge.rows, 75 Judge.judge, 85 Judge.ofBook, 86 Judge.mark, 88 Judge.bitsOf, 89 Judge.begins, 90 Judge.ofRow, 92 Judge.steps, 94 Judge.now, 95 Judge.back, 97 Judge.told, 98 Judge.tally, 99 Judge.digest -/
theorem dd_0_0 : decode (mB 0) 0 = .ok (.aload_n 0, 1) := by decide +kernel
theorem u_0_0 {G : aG} {S : Nat → Bool} {f : Nat} {st : List Value} {ls : aL} {h : aH} {k n : Nat} (hs : S 0 = false) : WP 0 G S (f + 1) 0 ls st h k n = (oA (lget ls 0) (WP 0 G S f) 1 ls st h k n) := by rw [wp_s dd_0_0 rfl hs]; rfl
theorem dd_0_1 : decode (mB 0) 1 = .ok (.invokespecial 1, 3) := by decide +kernel
theorem u_0_1 {G : aG} {S : Nat → Bool} {f : Nat} {st : List Value} {ls : aL} {h : aH} {k n : Nat} {a : Nat} (hs : S 1 = false) : WP 0 G S (f + 1) 1 ls (.ref a :: st) h k n = ((st.map fun v => v.category).sum ≤ 8 ∧ 1 ≤ gD G ∧ WP 0 G S f 4 ls st h k n) := by rw [wp_s dd_0_1 rfl hs]; rfl
theorem dd_0_4 : decode (mB 0) 4 = .ok (.aload_n 0, 1) := by decide +kernel
theorem u_0_4 {G : aG} {S : Nat → Bool} {f : Nat} {st : List Value} {ls : aL} {h : aH} {k n : Nat} (hs : S 4 = false) : WP 0 G S (f + 1) 4 ls st h k n = (oA (lget ls 0) (WP 0 G S f) 5 ls st h k n) := by rw [wp_s dd_0_4 rfl hs]; rfl
theorem dd_0_5 : decode (mB 0) 5 = .ok (.new 7, 3) := by decide +kernel
theorem u_0_5 {G : aG} {S : Nat → Bool} {f : Nat} {st : List Value} {ls : aL} {h : aH} {k n : Nat} (hs : S 5 = false) : WP 0 G S (f + 1) 5 ls st h k n = (oNew G (.inr (8, dfl 8)) (clT 8).2.2 (WP 0 G S f) 8 ls st h k n) := by rw [wp_s dd_0_5 rfl hs]; rfl
theorem dd_0_8 : decode (mB 0) 8 = .ok (.dup, 1) := by decide +kernel
theorem u_0_8 {G : aG} {S : Nat → Bool} {f : Nat} {st : List Value} {ls : aL} {h : aH} {k n : Nat} {v : Value} (hs : S 8 = false) : WP 0 G S (f + 1) 8 ls (v :: st) h k n = (cond (cat1 v) (WP 0 G S f 9 ls (v :: v :: st) h k n) False) := by rw [wp_s dd_0_8 rfl hs]; rfl
theorem dd_0_9 : decode (mB 0) 9 = .ok (.invokespecial 9, 3) := by decide +kernel
theorem u_0_9 {G : aG} {S : Nat → Bool} {f : Nat} {st : List Value} {ls : aL} {h : aH} {k n : Nat} {b : Nat} (hs : S 9 = false) : WP 0 G S (f + 1) 9 ls (.ref b :: st) h k n = (CAL G (WP 0 G S f) 1 [.ref b] 12 ls st h k n) := by rw [wp_s dd_0_9 rfl hs]; rfl
theorem dd_0_12 : decode (mB 0) 12 = .ok (.putfield 10, 3) := by decide +kernel
theorem u_0_12 {G : aG} {S : Nat → Bool} {f : Nat} {st : List Value} {ls : aL} {h : aH} {k n : Nat} {a : Nat} {x : Nat} (hs : S 12 = false) : WP 0 G S (f + 1) 12 ls (.ref x :: .ref a :: st) h k n = (oH (fput h a 9 0 (.ref x)) (WP 0 G S f) 15 ls st k n) := by rw [wp_s dd_0_12 rfl hs]; rfl
theorem dd_0_15 : decode (mB 0) 15 = .ok (.aload_n 0, 1) := by decide +kernel
theorem u_0_15 {G : aG} {S : Nat → Bool} {f : Nat} {st : List Value} {ls : aL} {h : aH} {k n : Nat} (hs : S 15 = false) : WP 0 G S (f + 1) 15 ls st h k n = (oA (lget ls 0) (WP 0 G S f) 16 ls st h k n) := by rw [wp_s dd_0_15 rfl hs]; rfl
theorem dd_0_16 : decode (mB 0) 16 = .ok (.new 16, 3) := by decide +kernel
theorem u_0_16 {G : aG} {S : Nat → Bool} {f : Nat} {st : List Value} {ls : aL} {h : aH} {k n : Nat} (hs : S 16 = false) : WP 0 G S (f + 1) 16 ls st h k n = (oNew G (.inr (7, dfl 7)) (clT 7).2.2 (WP 0 G S f) 19 ls st h k n) := by rw [wp_s dd_0_16 rfl hs]; rfl
theorem dd_0_19 : decode (mB 0) 19 = .ok (.dup, 1) := by decide +kernel
theorem u_0_19 {G : aG} {S : Nat → Bool} {f : Nat} {st : List Value} {ls : aL} {h : aH} {k n : Nat} {v : Value} (hs : S 19 = false) : WP 0 G S (f + 1) 19 ls (v :: st) h k n = (cond (cat1 v) (WP 0 G S f 20 ls (v :: v :: st) h k n) False) := by rw [wp_s dd_0_19 rfl hs]; rfl
theorem dd_0_20 : decode (mB 0) 20 = .ok (.invokespecial 18, 3) := by decide +kernel
theorem u_0_20 {G : aG} {S : Nat → Bool} {f : Nat} {st : List Value} {ls : aL} {h : aH} {k n : Nat} {b : Nat} (hs : S 20 = false) : WP 0 G S (f + 1) 20 ls (.ref b :: st) h k n = (CAL G (WP 0 G S f) 2 [.ref b] 23 ls st h k n) := by rw [wp_s dd_0_20 rfl hs]; rfl
theorem dd_0_23 : decode (mB 0) 23 = .ok (.putfield 19, 3) := by decide +kernel
theorem u_0_23 {G : aG} {S : Nat → Bool} {f : Nat} {st : List Value} {ls : aL} {h : aH} {k n : Nat} {a : Nat} {x : Nat} (hs : S 23 = false) : WP 0 G S (f + 1) 23 ls (.ref x :: .ref a :: st) h k n = (oH (fput h a 9 1 (.ref x)) (WP 0 G S f) 26 ls st k n) := by rw [wp_s dd_0_23 rfl hs]; rfl
theorem dd_0_26 : decode (mB 0) 26 = .ok (.aload_n 0, 1) := by decide +kernel
theorem u_0_26 {G : aG} {S : Nat → Bool} {f : Nat} {st : List Value} {ls : aL} {h : aH} {k n : Nat} (hs : S 26 = false) : WP 0 G S (f + 1) 26 ls st h k n = (oA (lget ls 0) (WP 0 G S f) 27 ls st h k n) := by rw [wp_s dd_0_26 rfl hs]; rfl
theorem dd_0_27 : decode (mB 0) 27 = .ok (.new 23, 3) := by decide +kernel
theorem u_0_27 {G : aG} {S : Nat → Bool} {f : Nat} {st : List Value} {ls : aL} {h : aH} {k n : Nat} (hs : S 27 = false) : WP 0 G S (f + 1) 27 ls st h k n = (oNew G (.inr (4, dfl 4)) (clT 4).2.2 (WP 0 G S f) 30 ls st h k n) := by rw [wp_s dd_0_27 rfl hs]; rfl
theorem dd_0_30 : decode (mB 0) 30 = .ok (.dup, 1) := by decide +kernel
theorem u_0_30 {G : aG} {S : Nat → Bool} {f : Nat} {st : List Value} {ls : aL} {h : aH} {k n : Nat} {v : Value} (hs : S 30 = false) : WP 0 G S (f + 1) 30 ls (v :: st) h k n = (cond (cat1 v) (WP 0 G S f 31 ls (v :: v :: st) h k n) False) := by rw [wp_s dd_0_30 rfl hs]; rfl
theorem dd_0_31 : decode (mB 0) 31 = .ok (.invokespecial 25, 3) := by decide +kernel
theorem u_0_31 {G : aG} {S : Nat → Bool} {f : Nat} {st : List Value} {ls : aL} {h : aH} {k n : Nat} {b : Nat} (hs : S 31 = false) : WP 0 G S (f + 1) 31 ls (.ref b :: st) h k n = (CAL G (WP 0 G S f) 4 [.ref b] 34 ls st h k n) := by rw [wp_s dd_0_31 rfl hs]; rfl
theorem dd_0_34 : decode (mB 0) 34 = .ok (.putfield 26, 3) := by decide +kernel
theorem u_0_34 {G : aG} {S : Nat → Bool} {f : Nat} {st : List Value} {ls : aL} {h : aH} {k n : Nat} {a : Nat} {x : Nat} (hs : S 34 = false) : WP 0 G S (f + 1) 34 ls (.ref x :: .ref a :: st) h k n = (oH (fput h a 9 2 (.ref x)) (WP 0 G S f) 37 ls st k n) := by rw [wp_s dd_0_34 rfl hs]; rfl
theorem dd_0_37 : decode (mB 0) 37 = .ok (.aload_n 0, 1) := by decide +kernel
theorem u_0_37 {G : aG} {S : Nat → Bool} {f : Nat} {st : List Value} {ls : aL} {h : aH} {k n : Nat} (hs : S 37 = false) : WP 0 G S (f + 1) 37 ls st h k n = (oA (lget ls 0) (WP 0 G S f) 38 ls st h k n) := by rw [wp_s dd_0_37 rfl hs]; rfl
theorem dd_0_38 : decode (mB 0) 38 = .ok (.new 30, 3) := by decide +kernel
theorem u_0_38 {G : aG} {S : Nat → Bool} {f : Nat} {st : List Value} {ls : aL} {h : aH} {k n : Nat} (hs : S 38 = false) : WP 0 G S (f + 1) 38 ls st h k n = (oNew G (.inr (1, dfl 1)) (clT 1).2.2 (WP 0 G S f) 41 ls st h k n) := by rw [wp_s dd_0_38 rfl hs]; rfl
theorem dd_0_41 : decode (mB 0) 41 = .ok (.dup, 1) := by decide +kernel
theorem u_0_41 {G : aG} {S : Nat → Bool} {f : Nat} {st : List Value} {ls : aL} {h : aH} {k n : Nat} {v : Value} (hs : S 41 = false) : WP 0 G S (f + 1) 41 ls (v :: st) h k n = (cond (cat1 v) (WP 0 G S f 42 ls (v :: v :: st) h k n) False) := by rw [wp_s dd_0_41 rfl hs]; rfl
theorem dd_0_42 : decode (mB 0) 42 = .ok (.invokespecial 32, 3) := by decide +kernel
theorem u_0_42 {G : aG} {S : Nat → Bool} {f : Nat} {st : List Value} {ls : aL} {h : aH} {k n : Nat} {b : Nat} (hs : S 42 = false) : WP 0 G S (f + 1) 42 ls (.ref b :: st) h k n = (CAL G (WP 0 G S f) 5 [.ref b] 45 ls st h k n) := by rw [wp_s dd_0_42 rfl hs]; rfl
theorem dd_0_45 : decode (mB 0) 45 = .ok (.putfield 33, 3) := by decide +kernel
theorem u_0_45 {G : aG} {S : Nat → Bool} {f : Nat} {st : List Value} {ls : aL} {h : aH} {k n : Nat} {a : Nat} {x : Nat} (hs : S 45 = false) : WP 0 G S (f + 1) 45 ls (.ref x :: .ref a :: st) h k n = (oH (fput h a 9 3 (.ref x)) (WP 0 G S f) 48 ls st k n) := by rw [wp_s dd_0_45 rfl hs]; rfl
theorem dd_0_48 : decode (mB 0) 48 = .ok (.aload_n 0, 1) := by decide +kernel
theorem u_0_48 {G : aG} {S : Nat → Bool} {f : Nat} {st : List Value} {ls : aL} {h : aH} {k n : Nat} (hs : S 48 = false) : WP 0 G S (f + 1) 48 ls st h k n = (oA (lget ls 0) (WP 0 G S f) 49 ls st h k n) := by rw [wp_s dd_0_48 rfl hs]; rfl
theorem dd_0_49 : decode (mB 0) 49 = .ok (.new 37, 3) := by decide +kernel
theorem u_0_49 {G : aG} {S : Nat → Bool} {f : Nat} {st : List Value} {ls : aL} {h : aH} {k n : Nat} (hs : S 49 = false) : WP 0 G S (f + 1) 49 ls st h k n = (oNew G (.inr (3, dfl 3)) (clT 3).2.2 (WP 0 G S f) 52 ls st h k n) := by rw [wp_s dd_0_49 rfl hs]; rfl
theorem dd_0_52 : decode (mB 0) 52 = .ok (.dup, 1) := by decide +kernel
theorem u_0_52 {G : aG} {S : Nat → Bool} {f : Nat} {st : List Value} {ls : aL} {h : aH} {k n : Nat} {v : Value} (hs : S 52 = false) : WP 0 G S (f + 1) 52 ls (v :: st) h k n = (cond (cat1 v) (WP 0 G S f 53 ls (v :: v :: st) h k n) False) := by rw [wp_s dd_0_52 rfl hs]; rfl
theorem dd_0_53 : decode (mB 0) 53 = .ok (.invokespecial 39, 3) := by decide +kernel
theorem u_0_53 {G : aG} {S : Nat → Bool} {f : Nat} {st : List Value} {ls : aL} {h : aH} {k n : Nat} {b : Nat} (hs : S 53 = false) : WP 0 G S (f + 1) 53 ls (.ref b :: st) h k n = (CAL G (WP 0 G S f) 6 [.ref b] 56 ls st h k n) := by rw [wp_s dd_0_53 rfl hs]; rfl
theorem dd_0_56 : decode (mB 0) 56 = .ok (.putfield 40, 3) := by decide +kernel
theorem u_0_56 {G : aG} {S : Nat → Bool} {f : Nat} {st : List Value} {ls : aL} {h : aH} {k n : Nat} {a : Nat} {x : Nat} (hs : S 56 = false) : WP 0 G S (f + 1) 56 ls (.ref x :: .ref a :: st) h k n = (oH (fput h a 9 4 (.ref x)) (WP 0 G S f) 59 ls st k n) := by rw [wp_s dd_0_56 rfl hs]; rfl
theorem dd_0_59 : decode (mB 0) 59 = .ok (.aload_n 0, 1) := by decide +kernel
theorem u_0_59 {G : aG} {S : Nat → Bool} {f : Nat} {st : List Value} {ls : aL} {h : aH} {k n : Nat} (hs : S 59 = false) : WP 0 G S (f + 1) 59 ls st h k n = (oA (lget ls 0) (WP 0 G S f) 60 ls st h k n) := by rw [wp_s dd_0_59 rfl hs]; rfl
theorem dd_0_60 : decode (mB 0) 60 = .ok (.new 44, 3) := by decide +kernel
theorem u_0_60 {G : aG} {S : Nat → Bool} {f : Nat} {st : List Value} {ls : aL} {h : aH} {k n : Nat} (hs : S 60 = false) : WP 0 G S (f + 1) 60 ls st h k n = (oNew G (.inr (6, dfl 6)) (clT 6).2.2 (WP 0 G S f) 63 ls st h k n) := by rw [wp_s dd_0_60 rfl hs]; rfl
theorem dd_0_63 : decode (mB 0) 63 = .ok (.dup, 1) := by decide +kernel
theorem u_0_63 {G : aG} {S : Nat → Bool} {f : Nat} {st : List Value} {ls : aL} {h : aH} {k n : Nat} {v : Value} (hs : S 63 = false) : WP 0 G S (f + 1) 63 ls (v :: st) h k n = (cond (cat1 v) (WP 0 G S f 64 ls (v :: v :: st) h k n) False) := by rw [wp_s dd_0_63 rfl hs]; rfl
theorem dd_0_64 : decode (mB 0) 64 = .ok (.invokespecial 46, 3) := by decide +kernel
theorem u_0_64 {G : aG} {S : Nat → Bool} {f : Nat} {st : List Value} {ls : aL} {h : aH} {k n : Nat} {b : Nat} (hs : S 64 = false) : WP 0 G S (f + 1) 64 ls (.ref b :: st) h k n = (CAL G (WP 0 G S f) 30 [.ref b] 67 ls st h k n) := by rw [wp_s dd_0_64 rfl hs]; rfl
theorem dd_0_67 : decode (mB 0) 67 = .ok (.putfield 47, 3) := by decide +kernel
theorem u_0_67 {G : aG} {S : Nat → Bool} {f : Nat} {st : List Value} {ls : aL} {h : aH} {k n : Nat} {a : Nat} {x : Nat} (hs : S 67 = false) : WP 0 G S (f + 1) 67 ls (.ref x :: .ref a :: st) h k n = (oH (fput h a 9 5 (.ref x)) (WP 0 G S f) 70 ls st k n) := by rw [wp_s dd_0_67 rfl hs]; rfl
theorem dd_0_70 : decode (mB 0) 70 = .ok (.aload_n 0, 1) := by decide +kernel
theorem u_0_70 {G : aG} {S : Nat → Bool} {f : Nat} {st : List Value} {ls : aL} {h : aH} {k n : Nat} (hs : S 70 = false) : WP 0 G S (f + 1) 70 ls st h k n = (oA (lget ls 0) (WP 0 G S f) 71 ls st h k n) := by rw [wp_s dd_0_70 rfl hs]; rfl
theorem dd_0_71 : decode (mB 0) 71 = .ok (.new 51, 3) := by decide +kernel
theorem u_0_71 {G : aG} {S : Nat → Bool} {f : Nat} {st : List Value} {ls : aL} {h : aH} {k n : Nat} (hs : S 71 = false) : WP 0 G S (f + 1) 71 ls st h k n = (oNew G (.inr (0, dfl 0)) (clT 0).2.2 (WP 0 G S f) 74 ls st h k n) := by rw [wp_s dd_0_71 rfl hs]; rfl
theorem dd_0_74 : decode (mB 0) 74 = .ok (.dup, 1) := by decide +kernel
theorem u_0_74 {G : aG} {S : Nat → Bool} {f : Nat} {st : List Value} {ls : aL} {h : aH} {k n : Nat} {v : Value} (hs : S 74 = false) : WP 0 G S (f + 1) 74 ls (v :: st) h k n = (cond (cat1 v) (WP 0 G S f 75 ls (v :: v :: st) h k n) False) := by rw [wp_s dd_0_74 rfl hs]; rfl
theorem dd_0_75 : decode (mB 0) 75 = .ok (.invokespecial 53, 3) := by decide +kernel
theorem u_0_75 {G : aG} {S : Nat → Bool} {f : Nat} {st : List Value} {ls : aL} {h : aH} {k n : Nat} {b : Nat} (hs : S 75 = false) : WP 0 G S (f + 1) 75 ls (.ref b :: st) h k n = (CAL G (WP 0 G S f) 31 [.ref b] 78 ls st h k n) := by rw [wp_s dd_0_75 rfl hs]; rfl
theorem dd_0_78 : decode (mB 0) 78 = .ok (.putfield 54, 3) := by decide +kernel
theorem u_0_78 {G : aG} {S : Nat → Bool} {f : Nat} {st : List Value} {ls : aL} {h : aH} {k n : Nat} {a : Nat} {x : Nat} (hs : S 78 = false) : WP 0 G S (f + 1) 78 ls (.ref x :: .ref a :: st) h k n = (oH (fput h a 9 6 (.ref x)) (WP 0 G S f) 81 ls st k n) := by rw [wp_s dd_0_78 rfl hs]; rfl
theorem dd_0_81 : decode (mB 0) 81 = .ok (.return_, 1) := by decide +kernel
theorem u_0_81 {G : aG} {S : Nat → Bool} {f : Nat} {ls : aL} {h : aH} {k n : Nat} (hs : S 81 = false) : WP 0 G S (f + 1) 81 ls [] h k n = (RET G none h k n) := by rw [wp_s dd_0_81 rfl hs]; rfl
theorem dd_32_0 : decode (mB 32) 0 = .ok (.iload_n 1, 1) := by decide +kernel
theorem u_32_0 {G : aG} {S : Nat → Bool} {f : Nat} {st : List Value} {ls : aL} {h : aH} {k n : Nat} (hs : S 0 = false) : WP 32 G S (f + 1) 0 ls st h k n = (oI (lget ls 1) (WP 32 G S f) 1 ls st h k n) := by rw [wp_s dd_32_0 rfl hs]; rfl
theorem dd_32_1 : decode (mB 32) 1 = .ok (.ifCond .lt 9, 3) := by decide +kernel
theorem u_32_1 {G : aG} {S : Nat → Bool} {f : Nat} {st : List Value} {ls : aL} {h : aH} {k n : Nat} {x : Int32} (hs : S 1 = false) : WP 32 G S (f + 1) 1 ls (.int x :: st) h k n = (if x < nI 0 then WP 32 G S f 10 ls st h k n else WP 32 G S f 4 ls st h k n) := by rw [wp_s dd_32_1 rfl hs]; exact br_ite (c := x < nI 0)
theorem dd_32_4 : decode (mB 32) 4 = .ok (.iload_n 1, 1) := by decide +kernel
theorem u_32_4 {G : aG} {S : Nat → Bool} {f : Nat} {st : List Value} {ls : aL} {h : aH} {k n : Nat} (hs : S 4 = false) : WP 32 G S (f + 1) 4 ls st h k n = (oI (lget ls 1) (WP 32 G S f) 5 ls st h k n) := by rw [wp_s dd_32_4 rfl hs]; rfl
theorem dd_32_5 : decode (mB 32) 5 = .ok (.bipush 127, 2) := by decide +kernel
theorem u_32_5 {G : aG} {S : Nat → Bool} {f : Nat} {st : List Value} {ls : aL} {h : aH} {k n : Nat} (hs : S 5 = false) : WP 32 G S (f + 1) 5 ls st h k n = (WP 32 G S f 7 ls (.int (nI 127) :: st) h k n) := by rw [wp_s dd_32_5 rfl hs]; rfl
theorem dd_32_7 : decode (mB 32) 7 = .ok (.if_icmp .le 10, 3) := by decide +kernel
theorem u_32_7 {G : aG} {S : Nat → Bool} {f : Nat} {st : List Value} {ls : aL} {h : aH} {k n : Nat} {x y : Int32} (hs : S 7 = false) : WP 32 G S (f + 1) 7 ls (.int y :: .int x :: st) h k n = (if x ≤ y then WP 32 G S f 17 ls st h k n else WP 32 G S f 10 ls st h k n) := by rw [wp_s dd_32_7 rfl hs]; exact br_ite (c := x ≤ y)
theorem dd_32_10 : decode (mB 32) 10 = .ok (.aload_n 0, 1) := by decide +kernel
theorem u_32_10 {G : aG} {S : Nat → Bool} {f : Nat} {st : List Value} {ls : aL} {h : aH} {k n : Nat} (hs : S 10 = false) : WP 32 G S (f + 1) 10 ls st h k n = (oA (lget ls 0) (WP 32 G S f) 11 ls st h k n) := by rw [wp_s dd_32_10 rfl hs]; rfl
theorem dd_32_11 : decode (mB 32) 11 = .ok (.bipush (-2), 2) := by decide +kernel
theorem u_32_11 {G : aG} {S : Nat → Bool} {f : Nat} {st : List Value} {ls : aL} {h : aH} {k n : Nat} (hs : S 11 = false) : WP 32 G S (f + 1) 11 ls st h k n = (WP 32 G S f 13 ls (.int (-2) :: st) h k n) := by rw [wp_s dd_32_11 rfl hs]; rfl
theorem dd_32_13 : decode (mB 32) 13 = .ok (.invokevirtual 58, 3) := by decide +kernel
theorem u_32_13 {G : aG} {S : Nat → Bool} {f : Nat} {st : List Value} {ls : aL} {h : aH} {k n : Nat} {v1 : Value} {b : Nat} (hs : S 13 = false) : WP 32 G S (f + 1) 13 ls (v1 :: .ref b :: st) h k n = (rcv (hget h b) 9 ∧ CAL G (WP 32 G S f) 33 [.ref b, v1] 16 ls st h k n) := by rw [wp_s dd_32_13 rfl hs]; rfl
theorem dd_32_16 : decode (mB 32) 16 = .ok (.ireturn, 1) := by decide +kernel
theorem u_32_16 {G : aG} {S : Nat → Bool} {f : Nat} {ls : aL} {h : aH} {k n : Nat} {x : Int32} (hs : S 16 = false) : WP 32 G S (f + 1) 16 ls [.int x] h k n = (RET G (some (.int x)) h k n) := by rw [wp_s dd_32_16 rfl hs]; rfl
theorem dd_32_17 : decode (mB 32) 17 = .ok (.aload_n 0, 1) := by decide +kernel
theorem u_32_17 {G : aG} {S : Nat → Bool} {f : Nat} {st : List Value} {ls : aL} {h : aH} {k n : Nat} (hs : S 17 = false) : WP 32 G S (f + 1) 17 ls st h k n = (oA (lget ls 0) (WP 32 G S f) 18 ls st h k n) := by rw [wp_s dd_32_17 rfl hs]; rfl
theorem dd_32_18 : decode (mB 32) 18 = .ok (.getfield 10, 3) := by decide +kernel
theorem u_32_18 {G : aG} {S : Nat → Bool} {f : Nat} {st : List Value} {ls : aL} {h : aH} {k n : Nat} {a : Nat} (hs : S 18 = false) : WP 32 G S (f + 1) 18 ls (.ref a :: st) h k n = (oV (fget h a 9 0) (WP 32 G S f) 21 ls st h k n) := by rw [wp_s dd_32_18 rfl hs]; rfl
theorem dd_32_21 : decode (mB 32) 21 = .ok (.getfield 62, 3) := by decide +kernel
theorem u_32_21 {G : aG} {S : Nat → Bool} {f : Nat} {st : List Value} {ls : aL} {h : aH} {k n : Nat} {a : Nat} (hs : S 21 = false) : WP 32 G S (f + 1) 21 ls (.ref a :: st) h k n = (oV (fget h a 8 1) (WP 32 G S f) 24 ls st h k n) := by rw [wp_s dd_32_21 rfl hs]; rfl
theorem dd_32_24 : decode (mB 32) 24 = .ok (.sipush 150, 3) := by decide +kernel
theorem u_32_24 {G : aG} {S : Nat → Bool} {f : Nat} {st : List Value} {ls : aL} {h : aH} {k n : Nat} (hs : S 24 = false) : WP 32 G S (f + 1) 24 ls st h k n = (WP 32 G S f 27 ls (.int (nI 150) :: st) h k n) := by rw [wp_s dd_32_24 rfl hs]; rfl
theorem dd_32_27 : decode (mB 32) 27 = .ok (.if_icmp .lt 10, 3) := by decide +kernel
theorem u_32_27 {G : aG} {S : Nat → Bool} {f : Nat} {st : List Value} {ls : aL} {h : aH} {k n : Nat} {x y : Int32} (hs : S 27 = false) : WP 32 G S (f + 1) 27 ls (.int y :: .int x :: st) h k n = (if x < y then WP 32 G S f 37 ls st h k n else WP 32 G S f 30 ls st h k n) := by rw [wp_s dd_32_27 rfl hs]; exact br_ite (c := x < y)
theorem dd_32_30 : decode (mB 32) 30 = .ok (.aload_n 0, 1) := by decide +kernel
theorem u_32_30 {G : aG} {S : Nat → Bool} {f : Nat} {st : List Value} {ls : aL} {h : aH} {k n : Nat} (hs : S 30 = false) : WP 32 G S (f + 1) 30 ls st h k n = (oA (lget ls 0) (WP 32 G S f) 31 ls st h k n) := by rw [wp_s dd_32_30 rfl hs]; rfl
theorem dd_32_31 : decode (mB 32) 31 = .ok (.bipush (-4), 2) := by decide +kernel
theorem u_32_31 {G : aG} {S : Nat → Bool} {f : Nat} {st : List Value} {ls : aL} {h : aH} {k n : Nat} (hs : S 31 = false) : WP 32 G S (f + 1) 31 ls st h k n = (WP 32 G S f 33 ls (.int (-4) :: st) h k n) := by rw [wp_s dd_32_31 rfl hs]; rfl
theorem dd_32_33 : decode (mB 32) 33 = .ok (.invokevirtual 58, 3) := by decide +kernel
theorem u_32_33 {G : aG} {S : Nat → Bool} {f : Nat} {st : List Value} {ls : aL} {h : aH} {k n : Nat} {v1 : Value} {b : Nat} (hs : S 33 = false) : WP 32 G S (f + 1) 33 ls (v1 :: .ref b :: st) h k n = (rcv (hget h b) 9 ∧ CAL G (WP 32 G S f) 33 [.ref b, v1] 36 ls st h k n) := by rw [wp_s dd_32_33 rfl hs]; rfl
theorem dd_32_36 : decode (mB 32) 36 = .ok (.ireturn, 1) := by decide +kernel
theorem u_32_36 {G : aG} {S : Nat → Bool} {f : Nat} {ls : aL} {h : aH} {k n : Nat} {x : Int32} (hs : S 36 = false) : WP 32 G S (f + 1) 36 ls [.int x] h k n = (RET G (some (.int x)) h k n) := by rw [wp_s dd_32_36 rfl hs]; rfl
theorem dd_32_37 : decode (mB 32) 37 = .ok (.aload_n 0, 1) := by decide +kernel
theorem u_32_37 {G : aG} {S : Nat → Bool} {f : Nat} {st : List Value} {ls : aL} {h : aH} {k n : Nat} (hs : S 37 = false) : WP 32 G S (f + 1) 37 ls st h k n = (oA (lget ls 0) (WP 32 G S f) 38 ls st h k n) := by rw [wp_s dd_32_37 rfl hs]; rfl
theorem dd_32_38 : decode (mB 32) 38 = .ok (.getfield 10, 3) := by decide +kernel
theorem u_32_38 {G : aG} {S : Nat → Bool} {f : Nat} {st : List Value} {ls : aL} {h : aH} {k n : Nat} {a : Nat} (hs : S 38 = false) : WP 32 G S (f + 1) 38 ls (.ref a :: st) h k n = (oV (fget h a 9 0) (WP 32 G S f) 41 ls st h k n) := by rw [wp_s dd_32_38 rfl hs]; rfl
theorem dd_32_41 : decode (mB 32) 41 = .ok (.iload_n 1, 1) := by decide +kernel
theorem u_32_41 {G : aG} {S : Nat → Bool} {f : Nat} {st : List Value} {ls : aL} {h : aH} {k n : Nat} (hs : S 41 = false) : WP 32 G S (f + 1) 41 ls st h k n = (oI (lget ls 1) (WP 32 G S f) 42 ls st h k n) := by rw [wp_s dd_32_41 rfl hs]; rfl
theorem dd_32_42 : decode (mB 32) 42 = .ok (.invokevirtual 66, 3) := by decide +kernel
theorem u_32_42 {G : aG} {S : Nat → Bool} {f : Nat} {st : List Value} {ls : aL} {h : aH} {k n : Nat} {v1 : Value} {b : Nat} (hs : S 42 = false) : WP 32 G S (f + 1) 42 ls (v1 :: .ref b :: st) h k n = (rcv (hget h b) 8 ∧ CAL G (WP 32 G S f) 34 [.ref b, v1] 45 ls st h k n) := by rw [wp_s dd_32_42 rfl hs]; rfl
theorem dd_32_45 : decode (mB 32) 45 = .ok (.aload_n 0, 1) := by decide +kernel
theorem u_32_45 {G : aG} {S : Nat → Bool} {f : Nat} {st : List Value} {ls : aL} {h : aH} {k n : Nat} (hs : S 45 = false) : WP 32 G S (f + 1) 45 ls st h k n = (oA (lget ls 0) (WP 32 G S f) 46 ls st h k n) := by rw [wp_s dd_32_45 rfl hs]; rfl
theorem dd_32_46 : decode (mB 32) 46 = .ok (.getfield 10, 3) := by decide +kernel
theorem u_32_46 {G : aG} {S : Nat → Bool} {f : Nat} {st : List Value} {ls : aL} {h : aH} {k n : Nat} {a : Nat} (hs : S 46 = false) : WP 32 G S (f + 1) 46 ls (.ref a :: st) h k n = (oV (fget h a 9 0) (WP 32 G S f) 49 ls st h k n) := by rw [wp_s dd_32_46 rfl hs]; rfl
theorem dd_32_49 : decode (mB 32) 49 = .ok (.getfield 62, 3) := by decide +kernel
theorem u_32_49 {G : aG} {S : Nat → Bool} {f : Nat} {st : List Value} {ls : aL} {h : aH} {k n : Nat} {a : Nat} (hs : S 49 = false) : WP 32 G S (f + 1) 49 ls (.ref a :: st) h k n = (oV (fget h a 8 1) (WP 32 G S f) 52 ls st h k n) := by rw [wp_s dd_32_49 rfl hs]; rfl
theorem dd_32_52 : decode (mB 32) 52 = .ok (.ireturn, 1) := by decide +kernel
theorem u_32_52 {G : aG} {S : Nat → Bool} {f : Nat} {ls : aL} {h : aH} {k n : Nat} {x : Int32} (hs : S 52 = false) : WP 32 G S (f + 1) 52 ls [.int x] h k n = (RET G (some (.int x)) h k n) := by rw [wp_s dd_32_52 rfl hs]; rfl
theorem dd_33_0 : decode (mB 33) 0 = .ok (.iload_n 1, 1) := by decide +kernel
theorem u_33_0 {G : aG} {S : Nat → Bool} {f : Nat} {st : List Value} {ls : aL} {h : aH} {k n : Nat} (hs : S 0 = false) : WP 33 G S (f + 1) 0 ls st h k n = (oI (lget ls 1) (WP 33 G S f) 1 ls st h k n) := by rw [wp_s dd_33_0 rfl hs]; rfl
theorem dd_33_1 : decode (mB 33) 1 = .ok (.bipush (-2), 2) := by decide +kernel
theorem u_33_1 {G : aG} {S : Nat → Bool} {f : Nat} {st : List Value} {ls : aL} {h : aH} {k n : Nat} (hs : S 1 = false) : WP 33 G S (f + 1) 1 ls st h k n = (WP 33 G S f 3 ls (.int (-2) :: st) h k n) := by rw [wp_s dd_33_1 rfl hs]; rfl
theorem dd_33_3 : decode (mB 33) 3 = .ok (.if_icmp .ne 16, 3) := by decide +kernel
theorem u_33_3 {G : aG} {S : Nat → Bool} {f : Nat} {st : List Value} {ls : aL} {h : aH} {k n : Nat} {x y : Int32} (hs : S 3 = false) : WP 33 G S (f + 1) 3 ls (.int y :: .int x :: st) h k n = (if x = y then WP 33 G S f 6 ls st h k n else WP 33 G S f 19 ls st h k n) := by rw [wp_s dd_33_3 rfl hs]; exact br_iten (c := x = y)
theorem dd_33_6 : decode (mB 33) 6 = .ok (.aload_n 0, 1) := by decide +kernel
theorem u_33_6 {G : aG} {S : Nat → Bool} {f : Nat} {st : List Value} {ls : aL} {h : aH} {k n : Nat} (hs : S 6 = false) : WP 33 G S (f + 1) 6 ls st h k n = (oA (lget ls 0) (WP 33 G S f) 7 ls st h k n) := by rw [wp_s dd_33_6 rfl hs]; rfl
theorem dd_33_7 : decode (mB 33) 7 = .ok (.dup, 1) := by decide +kernel
theorem u_33_7 {G : aG} {S : Nat → Bool} {f : Nat} {st : List Value} {ls : aL} {h : aH} {k n : Nat} {v : Value} (hs : S 7 = false) : WP 33 G S (f + 1) 7 ls (v :: st) h k n = (cond (cat1 v) (WP 33 G S f 8 ls (v :: v :: st) h k n) False) := by rw [wp_s dd_33_7 rfl hs]; rfl
theorem dd_33_8 : decode (mB 33) 8 = .ok (.getfield 151, 3) := by decide +kernel
theorem u_33_8 {G : aG} {S : Nat → Bool} {f : Nat} {st : List Value} {ls : aL} {h : aH} {k n : Nat} {a : Nat} (hs : S 8 = false) : WP 33 G S (f + 1) 8 ls (.ref a :: st) h k n = (oV (fget h a 9 7) (WP 33 G S f) 11 ls st h k n) := by rw [wp_s dd_33_8 rfl hs]; rfl
theorem dd_33_11 : decode (mB 33) 11 = .ok (.iconst 1, 1) := by decide +kernel
theorem u_33_11 {G : aG} {S : Nat → Bool} {f : Nat} {st : List Value} {ls : aL} {h : aH} {k n : Nat} (hs : S 11 = false) : WP 33 G S (f + 1) 11 ls st h k n = (WP 33 G S f 12 ls (.int (nI 1) :: st) h k n) := by rw [wp_s dd_33_11 rfl hs]; rfl
theorem dd_33_12 : decode (mB 33) 12 = .ok (.iadd, 1) := by decide +kernel
theorem u_33_12 {G : aG} {S : Nat → Bool} {f : Nat} {st : List Value} {ls : aL} {h : aH} {k n : Nat} {x y : Int32} (hs : S 12 = false) : WP 33 G S (f + 1) 12 ls (.int y :: .int x :: st) h k n = (WP 33 G S f 13 ls (.int (x + y) :: st) h k n) := by rw [wp_s dd_33_12 rfl hs]; rfl
theorem dd_33_13 : decode (mB 33) 13 = .ok (.putfield 151, 3) := by decide +kernel
theorem u_33_13 {G : aG} {S : Nat → Bool} {f : Nat} {st : List Value} {ls : aL} {h : aH} {k n : Nat} {a : Nat} {x : Int32} (hs : S 13 = false) : WP 33 G S (f + 1) 13 ls (.int x :: .ref a :: st) h k n = (oH (fput h a 9 7 (.int x)) (WP 33 G S f) 16 ls st k n) := by rw [wp_s dd_33_13 rfl hs]; rfl
theorem dd_33_16 : decode (mB 33) 16 = .ok (.goto 32, 3) := by decide +kernel
theorem u_33_16 {G : aG} {S : Nat → Bool} {f : Nat} {st : List Value} {ls : aL} {h : aH} {k n : Nat} (hs : S 16 = false) : WP 33 G S (f + 1) 16 ls st h k n = (WP 33 G S f 48 ls st h k n) := by rw [wp_s dd_33_16 rfl hs]; rfl
theorem dd_33_19 : decode (mB 33) 19 = .ok (.iload_n 1, 1) := by decide +kernel
theorem u_33_19 {G : aG} {S : Nat → Bool} {f : Nat} {st : List Value} {ls : aL} {h : aH} {k n : Nat} (hs : S 19 = false) : WP 33 G S (f + 1) 19 ls st h k n = (oI (lget ls 1) (WP 33 G S f) 20 ls st h k n) := by rw [wp_s dd_33_19 rfl hs]; rfl
theorem dd_33_20 : decode (mB 33) 20 = .ok (.bipush (-3), 2) := by decide +kernel
theorem u_33_20 {G : aG} {S : Nat → Bool} {f : Nat} {st : List Value} {ls : aL} {h : aH} {k n : Nat} (hs : S 20 = false) : WP 33 G S (f + 1) 20 ls st h k n = (WP 33 G S f 22 ls (.int (-3) :: st) h k n) := by rw [wp_s dd_33_20 rfl hs]; rfl
theorem dd_33_22 : decode (mB 33) 22 = .ok (.if_icmp .ne 16, 3) := by decide +kernel
theorem u_33_22 {G : aG} {S : Nat → Bool} {f : Nat} {st : List Value} {ls : aL} {h : aH} {k n : Nat} {x y : Int32} (hs : S 22 = false) : WP 33 G S (f + 1) 22 ls (.int y :: .int x :: st) h k n = (if x = y then WP 33 G S f 25 ls st h k n else WP 33 G S f 38 ls st h k n) := by rw [wp_s dd_33_22 rfl hs]; exact br_iten (c := x = y)
theorem dd_33_25 : decode (mB 33) 25 = .ok (.aload_n 0, 1) := by decide +kernel
theorem u_33_25 {G : aG} {S : Nat → Bool} {f : Nat} {st : List Value} {ls : aL} {h : aH} {k n : Nat} (hs : S 25 = false) : WP 33 G S (f + 1) 25 ls st h k n = (oA (lget ls 0) (WP 33 G S f) 26 ls st h k n) := by rw [wp_s dd_33_25 rfl hs]; rfl
theorem dd_33_26 : decode (mB 33) 26 = .ok (.dup, 1) := by decide +kernel
theorem u_33_26 {G : aG} {S : Nat → Bool} {f : Nat} {st : List Value} {ls : aL} {h : aH} {k n : Nat} {v : Value} (hs : S 26 = false) : WP 33 G S (f + 1) 26 ls (v :: st) h k n = (cond (cat1 v) (WP 33 G S f 27 ls (v :: v :: st) h k n) False) := by rw [wp_s dd_33_26 rfl hs]; rfl
theorem dd_33_27 : decode (mB 33) 27 = .ok (.getfield 154, 3) := by decide +kernel
theorem u_33_27 {G : aG} {S : Nat → Bool} {f : Nat} {st : List Value} {ls : aL} {h : aH} {k n : Nat} {a : Nat} (hs : S 27 = false) : WP 33 G S (f + 1) 27 ls (.ref a :: st) h k n = (oV (fget h a 9 8) (WP 33 G S f) 30 ls st h k n) := by rw [wp_s dd_33_27 rfl hs]; rfl
theorem dd_33_30 : decode (mB 33) 30 = .ok (.iconst 1, 1) := by decide +kernel
theorem u_33_30 {G : aG} {S : Nat → Bool} {f : Nat} {st : List Value} {ls : aL} {h : aH} {k n : Nat} (hs : S 30 = false) : WP 33 G S (f + 1) 30 ls st h k n = (WP 33 G S f 31 ls (.int (nI 1) :: st) h k n) := by rw [wp_s dd_33_30 rfl hs]; rfl
theorem dd_33_31 : decode (mB 33) 31 = .ok (.iadd, 1) := by decide +kernel
theorem u_33_31 {G : aG} {S : Nat → Bool} {f : Nat} {st : List Value} {ls : aL} {h : aH} {k n : Nat} {x y : Int32} (hs : S 31 = false) : WP 33 G S (f + 1) 31 ls (.int y :: .int x :: st) h k n = (WP 33 G S f 32 ls (.int (x + y) :: st) h k n) := by rw [wp_s dd_33_31 rfl hs]; rfl
theorem dd_33_32 : decode (mB 33) 32 = .ok (.putfield 154, 3) := by decide +kernel
theorem u_33_32 {G : aG} {S : Nat → Bool} {f : Nat} {st : List Value} {ls : aL} {h : aH} {k n : Nat} {a : Nat} {x : Int32} (hs : S 32 = false) : WP 33 G S (f + 1) 32 ls (.int x :: .ref a :: st) h k n = (oH (fput h a 9 8 (.int x)) (WP 33 G S f) 35 ls st k n) := by rw [wp_s dd_33_32 rfl hs]; rfl
theorem dd_33_35 : decode (mB 33) 35 = .ok (.goto 13, 3) := by decide +kernel
theorem u_33_35 {G : aG} {S : Nat → Bool} {f : Nat} {st : List Value} {ls : aL} {h : aH} {k n : Nat} (hs : S 35 = false) : WP 33 G S (f + 1) 35 ls st h k n = (WP 33 G S f 48 ls st h k n) := by rw [wp_s dd_33_35 rfl hs]; rfl
theorem dd_33_38 : decode (mB 33) 38 = .ok (.aload_n 0, 1) := by decide +kernel
theorem u_33_38 {G : aG} {S : Nat → Bool} {f : Nat} {st : List Value} {ls : aL} {h : aH} {k n : Nat} (hs : S 38 = false) : WP 33 G S (f + 1) 38 ls st h k n = (oA (lget ls 0) (WP 33 G S f) 39 ls st h k n) := by rw [wp_s dd_33_38 rfl hs]; rfl
theorem dd_33_39 : decode (mB 33) 39 = .ok (.dup, 1) := by decide +kernel
theorem u_33_39 {G : aG} {S : Nat → Bool} {f : Nat} {st : List Value} {ls : aL} {h : aH} {k n : Nat} {v : Value} (hs : S 39 = false) : WP 33 G S (f + 1) 39 ls (v :: st) h k n = (cond (cat1 v) (WP 33 G S f 40 ls (v :: v :: st) h k n) False) := by rw [wp_s dd_33_39 rfl hs]; rfl
theorem dd_33_40 : decode (mB 33) 40 = .ok (.getfield 157, 3) := by decide +kernel
theorem u_33_40 {G : aG} {S : Nat → Bool} {f : Nat} {st : List Value} {ls : aL} {h : aH} {k n : Nat} {a : Nat} (hs : S 40 = false) : WP 33 G S (f + 1) 40 ls (.ref a :: st) h k n = (oV (fget h a 9 9) (WP 33 G S f) 43 ls st h k n) := by rw [wp_s dd_33_40 rfl hs]; rfl
theorem dd_33_43 : decode (mB 33) 43 = .ok (.iconst 1, 1) := by decide +kernel
theorem u_33_43 {G : aG} {S : Nat → Bool} {f : Nat} {st : List Value} {ls : aL} {h : aH} {k n : Nat} (hs : S 43 = false) : WP 33 G S (f + 1) 43 ls st h k n = (WP 33 G S f 44 ls (.int (nI 1) :: st) h k n) := by rw [wp_s dd_33_43 rfl hs]; rfl
theorem dd_33_44 : decode (mB 33) 44 = .ok (.iadd, 1) := by decide +kernel
theorem u_33_44 {G : aG} {S : Nat → Bool} {f : Nat} {st : List Value} {ls : aL} {h : aH} {k n : Nat} {x y : Int32} (hs : S 44 = false) : WP 33 G S (f + 1) 44 ls (.int y :: .int x :: st) h k n = (WP 33 G S f 45 ls (.int (x + y) :: st) h k n) := by rw [wp_s dd_33_44 rfl hs]; rfl
theorem dd_33_45 : decode (mB 33) 45 = .ok (.putfield 157, 3) := by decide +kernel
theorem u_33_45 {G : aG} {S : Nat → Bool} {f : Nat} {st : List Value} {ls : aL} {h : aH} {k n : Nat} {a : Nat} {x : Int32} (hs : S 45 = false) : WP 33 G S (f + 1) 45 ls (.int x :: .ref a :: st) h k n = (oH (fput h a 9 9 (.int x)) (WP 33 G S f) 48 ls st k n) := by rw [wp_s dd_33_45 rfl hs]; rfl
theorem dd_33_48 : decode (mB 33) 48 = .ok (.iload_n 1, 1) := by decide +kernel
theorem u_33_48 {G : aG} {S : Nat → Bool} {f : Nat} {st : List Value} {ls : aL} {h : aH} {k n : Nat} (hs : S 48 = false) : WP 33 G S (f + 1) 48 ls st h k n = (oI (lget ls 1) (WP 33 G S f) 49 ls st h k n) := by rw [wp_s dd_33_48 rfl hs]; rfl
theorem dd_33_49 : decode (mB 33) 49 = .ok (.ireturn, 1) := by decide +kernel
theorem u_33_49 {G : aG} {S : Nat → Bool} {f : Nat} {ls : aL} {h : aH} {k n : Nat} {x : Int32} (hs : S 49 = false) : WP 33 G S (f + 1) 49 ls [.int x] h k n = (RET G (some (.int x)) h k n) := by rw [wp_s dd_33_49 rfl hs]; rfl
theorem dd_35_0 : decode (mB 35) 0 = .ok (.aload_n 0, 1) := by decide +kernel
theorem u_35_0 {G : aG} {S : Nat → Bool} {f : Nat} {st : List Value} {ls : aL} {h : aH} {k n : Nat} (hs : S 0 = false) : WP 35 G S (f + 1) 0 ls st h k n = (oA (lget ls 0) (WP 35 G S f) 1 ls st h k n) := by rw [wp_s dd_35_0 rfl hs]; rfl
theorem dd_35_1 : decode (mB 35) 1 = .ok (.getfield 10, 3) := by decide +kernel
theorem u_35_1 {G : aG} {S : Nat → Bool} {f : Nat} {st : List Value} {ls : aL} {h : aH} {k n : Nat} {a : Nat} (hs : S 1 = false) : WP 35 G S (f + 1) 1 ls (.ref a :: st) h k n = (oV (fget h a 9 0) (WP 35 G S f) 4 ls st h k n) := by rw [wp_s dd_35_1 rfl hs]; rfl
theorem dd_35_4 : decode (mB 35) 4 = .ok (.getfield 62, 3) := by decide +kernel
theorem u_35_4 {G : aG} {S : Nat → Bool} {f : Nat} {st : List Value} {ls : aL} {h : aH} {k n : Nat} {a : Nat} (hs : S 4 = false) : WP 35 G S (f + 1) 4 ls (.ref a :: st) h k n = (oV (fget h a 8 1) (WP 35 G S f) 7 ls st h k n) := by rw [wp_s dd_35_4 rfl hs]; rfl
theorem dd_35_7 : decode (mB 35) 7 = .ok (.istore_n 1, 1) := by decide +kernel
theorem u_35_7 {G : aG} {S : Nat → Bool} {f : Nat} {st : List Value} {ls : aL} {h : aH} {k n : Nat} {x : Int32} (hs : S 7 = false) : WP 35 G S (f + 1) 7 ls (.int x :: st) h k n = (WP 35 G S f 8 (lput1 ls 1 (.int x)) st h k n) := by rw [wp_s dd_35_7 rfl hs]; rfl
theorem dd_35_8 : decode (mB 35) 8 = .ok (.aload_n 0, 1) := by decide +kernel
theorem u_35_8 {G : aG} {S : Nat → Bool} {f : Nat} {st : List Value} {ls : aL} {h : aH} {k n : Nat} (hs : S 8 = false) : WP 35 G S (f + 1) 8 ls st h k n = (oA (lget ls 0) (WP 35 G S f) 9 ls st h k n) := by rw [wp_s dd_35_8 rfl hs]; rfl
theorem dd_35_9 : decode (mB 35) 9 = .ok (.getfield 10, 3) := by decide +kernel
theorem u_35_9 {G : aG} {S : Nat → Bool} {f : Nat} {st : List Value} {ls : aL} {h : aH} {k n : Nat} {a : Nat} (hs : S 9 = false) : WP 35 G S (f + 1) 9 ls (.ref a :: st) h k n = (oV (fget h a 9 0) (WP 35 G S f) 12 ls st h k n) := by rw [wp_s dd_35_9 rfl hs]; rfl
theorem dd_35_12 : decode (mB 35) 12 = .ok (.iconst 0, 1) := by decide +kernel
theorem u_35_12 {G : aG} {S : Nat → Bool} {f : Nat} {st : List Value} {ls : aL} {h : aH} {k n : Nat} (hs : S 12 = false) : WP 35 G S (f + 1) 12 ls st h k n = (WP 35 G S f 13 ls (.int (nI 0) :: st) h k n) := by rw [wp_s dd_35_12 rfl hs]; rfl
theorem dd_35_13 : decode (mB 35) 13 = .ok (.putfield 62, 3) := by decide +kernel
theorem u_35_13 {G : aG} {S : Nat → Bool} {f : Nat} {st : List Value} {ls : aL} {h : aH} {k n : Nat} {a : Nat} {x : Int32} (hs : S 13 = false) : WP 35 G S (f + 1) 13 ls (.int x :: .ref a :: st) h k n = (oH (fput h a 8 1 (.int x)) (WP 35 G S f) 16 ls st k n) := by rw [wp_s dd_35_13 rfl hs]; rfl
theorem dd_35_16 : decode (mB 35) 16 = .ok (.iload_n 1, 1) := by decide +kernel
theorem u_35_16 {G : aG} {S : Nat → Bool} {f : Nat} {st : List Value} {ls : aL} {h : aH} {k n : Nat} (hs : S 16 = false) : WP 35 G S (f + 1) 16 ls st h k n = (oI (lget ls 1) (WP 35 G S f) 17 ls st h k n) := by rw [wp_s dd_35_16 rfl hs]; rfl
theorem dd_35_17 : decode (mB 35) 17 = .ok (.ireturn, 1) := by decide +kernel
theorem u_35_17 {G : aG} {S : Nat → Bool} {f : Nat} {ls : aL} {h : aH} {k n : Nat} {x : Int32} (hs : S 17 = false) : WP 35 G S (f + 1) 17 ls [.int x] h k n = (RET G (some (.int x)) h k n) := by rw [wp_s dd_35_17 rfl hs]; rfl
theorem dd_36_0 : decode (mB 36) 0 = .ok (.aload_n 0, 1) := by decide +kernel
theorem u_36_0 {G : aG} {S : Nat → Bool} {f : Nat} {st : List Value} {ls : aL} {h : aH} {k n : Nat} (hs : S 0 = false) : WP 36 G S (f + 1) 0 ls st h k n = (oA (lget ls 0) (WP 36 G S f) 1 ls st h k n) := by rw [wp_s dd_36_0 rfl hs]; rfl
theorem dd_36_1 : decode (mB 36) 1 = .ok (.getfield 33, 3) := by decide +kernel
theorem u_36_1 {G : aG} {S : Nat → Bool} {f : Nat} {st : List Value} {ls : aL} {h : aH} {k n : Nat} {a : Nat} (hs : S 1 = false) : WP 36 G S (f + 1) 1 ls (.ref a :: st) h k n = (oV (fget h a 9 3) (WP 36 G S f) 4 ls st h k n) := by rw [wp_s dd_36_1 rfl hs]; rfl
theorem dd_36_4 : decode (mB 36) 4 = .ok (.aload_n 0, 1) := by decide +kernel
theorem u_36_4 {G : aG} {S : Nat → Bool} {f : Nat} {st : List Value} {ls : aL} {h : aH} {k n : Nat} (hs : S 4 = false) : WP 36 G S (f + 1) 4 ls st h k n = (oA (lget ls 0) (WP 36 G S f) 5 ls st h k n) := by rw [wp_s dd_36_4 rfl hs]; rfl
theorem dd_36_5 : decode (mB 36) 5 = .ok (.getfield 10, 3) := by decide +kernel
theorem u_36_5 {G : aG} {S : Nat → Bool} {f : Nat} {st : List Value} {ls : aL} {h : aH} {k n : Nat} {a : Nat} (hs : S 5 = false) : WP 36 G S (f + 1) 5 ls (.ref a :: st) h k n = (oV (fget h a 9 0) (WP 36 G S f) 8 ls st h k n) := by rw [wp_s dd_36_5 rfl hs]; rfl
theorem dd_36_8 : decode (mB 36) 8 = .ok (.aload_n 0, 1) := by decide +kernel
theorem u_36_8 {G : aG} {S : Nat → Bool} {f : Nat} {st : List Value} {ls : aL} {h : aH} {k n : Nat} (hs : S 8 = false) : WP 36 G S (f + 1) 8 ls st h k n = (oA (lget ls 0) (WP 36 G S f) 9 ls st h k n) := by rw [wp_s dd_36_8 rfl hs]; rfl
theorem dd_36_9 : decode (mB 36) 9 = .ok (.getfield 19, 3) := by decide +kernel
theorem u_36_9 {G : aG} {S : Nat → Bool} {f : Nat} {st : List Value} {ls : aL} {h : aH} {k n : Nat} {a : Nat} (hs : S 9 = false) : WP 36 G S (f + 1) 9 ls (.ref a :: st) h k n = (oV (fget h a 9 1) (WP 36 G S f) 12 ls st h k n) := by rw [wp_s dd_36_9 rfl hs]; rfl
theorem dd_36_12 : decode (mB 36) 12 = .ok (.getfield 70, 3) := by decide +kernel
theorem u_36_12 {G : aG} {S : Nat → Bool} {f : Nat} {st : List Value} {ls : aL} {h : aH} {k n : Nat} {a : Nat} (hs : S 12 = false) : WP 36 G S (f + 1) 12 ls (.ref a :: st) h k n = (oV (fget h a 7 0) (WP 36 G S f) 15 ls st h k n) := by rw [wp_s dd_36_12 rfl hs]; rfl
theorem dd_36_15 : decode (mB 36) 15 = .ok (.invokevirtual 74, 3) := by decide +kernel
theorem u_36_15 {G : aG} {S : Nat → Bool} {f : Nat} {st : List Value} {ls : aL} {h : aH} {k n : Nat} {v1 v2 : Value} {b : Nat} (hs : S 15 = false) : WP 36 G S (f + 1) 15 ls (v2 :: v1 :: .ref b :: st) h k n = (rcv (hget h b) 1 ∧ CAL G (WP 36 G S f) 37 [.ref b, v1, v2] 18 ls st h k n) := by rw [wp_s dd_36_15 rfl hs]; rfl
theorem dd_36_18 : decode (mB 36) 18 = .ok (.istore_n 1, 1) := by decide +kernel
theorem u_36_18 {G : aG} {S : Nat → Bool} {f : Nat} {st : List Value} {ls : aL} {h : aH} {k n : Nat} {x : Int32} (hs : S 18 = false) : WP 36 G S (f + 1) 18 ls (.int x :: st) h k n = (WP 36 G S f 19 (lput1 ls 1 (.int x)) st h k n) := by rw [wp_s dd_36_18 rfl hs]; rfl
theorem dd_36_19 : decode (mB 36) 19 = .ok (.iload_n 1, 1) := by decide +kernel
theorem u_36_19 {G : aG} {S : Nat → Bool} {f : Nat} {st : List Value} {ls : aL} {h : aH} {k n : Nat} (hs : S 19 = false) : WP 36 G S (f + 1) 19 ls st h k n = (oI (lget ls 1) (WP 36 G S f) 20 ls st h k n) := by rw [wp_s dd_36_19 rfl hs]; rfl
theorem dd_36_20 : decode (mB 36) 20 = .ok (.bipush (-10), 2) := by decide +kernel
theorem u_36_20 {G : aG} {S : Nat → Bool} {f : Nat} {st : List Value} {ls : aL} {h : aH} {k n : Nat} (hs : S 20 = false) : WP 36 G S (f + 1) 20 ls st h k n = (WP 36 G S f 22 ls (.int (-10) :: st) h k n) := by rw [wp_s dd_36_20 rfl hs]; rfl
theorem dd_36_22 : decode (mB 36) 22 = .ok (.if_icmp .gt 5, 3) := by decide +kernel
theorem u_36_22 {G : aG} {S : Nat → Bool} {f : Nat} {st : List Value} {ls : aL} {h : aH} {k n : Nat} {x y : Int32} (hs : S 22 = false) : WP 36 G S (f + 1) 22 ls (.int y :: .int x :: st) h k n = (if y < x then WP 36 G S f 27 ls st h k n else WP 36 G S f 25 ls st h k n) := by rw [wp_s dd_36_22 rfl hs]; exact br_ite (c := y < x)
theorem dd_36_25 : decode (mB 36) 25 = .ok (.iload_n 1, 1) := by decide +kernel
theorem u_36_25 {G : aG} {S : Nat → Bool} {f : Nat} {st : List Value} {ls : aL} {h : aH} {k n : Nat} (hs : S 25 = false) : WP 36 G S (f + 1) 25 ls st h k n = (oI (lget ls 1) (WP 36 G S f) 26 ls st h k n) := by rw [wp_s dd_36_25 rfl hs]; rfl
theorem dd_36_26 : decode (mB 36) 26 = .ok (.ireturn, 1) := by decide +kernel
theorem u_36_26 {G : aG} {S : Nat → Bool} {f : Nat} {ls : aL} {h : aH} {k n : Nat} {x : Int32} (hs : S 26 = false) : WP 36 G S (f + 1) 26 ls [.int x] h k n = (RET G (some (.int x)) h k n) := by rw [wp_s dd_36_26 rfl hs]; rfl
theorem dd_36_27 : decode (mB 36) 27 = .ok (.aload_n 0, 1) := by decide +kernel
theorem u_36_27 {G : aG} {S : Nat → Bool} {f : Nat} {st : List Value} {ls : aL} {h : aH} {k n : Nat} (hs : S 27 = false) : WP 36 G S (f + 1) 27 ls st h k n = (oA (lget ls 0) (WP 36 G S f) 28 ls st h k n) := by rw [wp_s dd_36_27 rfl hs]; rfl
theorem dd_36_28 : decode (mB 36) 28 = .ok (.getfield 26, 3) := by decide +kernel
theorem u_36_28 {G : aG} {S : Nat → Bool} {f : Nat} {st : List Value} {ls : aL} {h : aH} {k n : Nat} {a : Nat} (hs : S 28 = false) : WP 36 G S (f + 1) 28 ls (.ref a :: st) h k n = (oV (fget h a 9 2) (WP 36 G S f) 31 ls st h k n) := by rw [wp_s dd_36_28 rfl hs]; rfl
theorem dd_36_31 : decode (mB 36) 31 = .ok (.aload_n 0, 1) := by decide +kernel
theorem u_36_31 {G : aG} {S : Nat → Bool} {f : Nat} {st : List Value} {ls : aL} {h : aH} {k n : Nat} (hs : S 31 = false) : WP 36 G S (f + 1) 31 ls st h k n = (oA (lget ls 0) (WP 36 G S f) 32 ls st h k n) := by rw [wp_s dd_36_31 rfl hs]; rfl
theorem dd_36_32 : decode (mB 36) 32 = .ok (.getfield 19, 3) := by decide +kernel
theorem u_36_32 {G : aG} {S : Nat → Bool} {f : Nat} {st : List Value} {ls : aL} {h : aH} {k n : Nat} {a : Nat} (hs : S 32 = false) : WP 36 G S (f + 1) 32 ls (.ref a :: st) h k n = (oV (fget h a 9 1) (WP 36 G S f) 35 ls st h k n) := by rw [wp_s dd_36_32 rfl hs]; rfl
theorem dd_36_35 : decode (mB 36) 35 = .ok (.invokevirtual 78, 3) := by decide +kernel
theorem u_36_35 {G : aG} {S : Nat → Bool} {f : Nat} {st : List Value} {ls : aL} {h : aH} {k n : Nat} {v1 : Value} {b : Nat} (hs : S 35 = false) : WP 36 G S (f + 1) 35 ls (v1 :: .ref b :: st) h k n = (rcv (hget h b) 4 ∧ CAL G (WP 36 G S f) 52 [.ref b, v1] 38 ls st h k n) := by rw [wp_s dd_36_35 rfl hs]; rfl
theorem dd_36_38 : decode (mB 36) 38 = .ok (.aload_n 0, 1) := by decide +kernel
theorem u_36_38 {G : aG} {S : Nat → Bool} {f : Nat} {st : List Value} {ls : aL} {h : aH} {k n : Nat} (hs : S 38 = false) : WP 36 G S (f + 1) 38 ls st h k n = (oA (lget ls 0) (WP 36 G S f) 39 ls st h k n) := by rw [wp_s dd_36_38 rfl hs]; rfl
theorem dd_36_39 : decode (mB 36) 39 = .ok (.getfield 33, 3) := by decide +kernel
theorem u_36_39 {G : aG} {S : Nat → Bool} {f : Nat} {st : List Value} {ls : aL} {h : aH} {k n : Nat} {a : Nat} (hs : S 39 = false) : WP 36 G S (f + 1) 39 ls (.ref a :: st) h k n = (oV (fget h a 9 3) (WP 36 G S f) 42 ls st h k n) := by rw [wp_s dd_36_39 rfl hs]; rfl
theorem dd_36_42 : decode (mB 36) 42 = .ok (.getfield 82, 3) := by decide +kernel
theorem u_36_42 {G : aG} {S : Nat → Bool} {f : Nat} {st : List Value} {ls : aL} {h : aH} {k n : Nat} {a : Nat} (hs : S 42 = false) : WP 36 G S (f + 1) 42 ls (.ref a :: st) h k n = (oV (fget h a 1 0) (WP 36 G S f) 45 ls st h k n) := by rw [wp_s dd_36_42 rfl hs]; rfl
theorem dd_36_45 : decode (mB 36) 45 = .ok (.iconst 0, 1) := by decide +kernel
theorem u_36_45 {G : aG} {S : Nat → Bool} {f : Nat} {st : List Value} {ls : aL} {h : aH} {k n : Nat} (hs : S 45 = false) : WP 36 G S (f + 1) 45 ls st h k n = (WP 36 G S f 46 ls (.int (nI 0) :: st) h k n) := by rw [wp_s dd_36_45 rfl hs]; rfl
theorem dd_36_46 : decode (mB 36) 46 = .ok (.aload_n 0, 1) := by decide +kernel
theorem u_36_46 {G : aG} {S : Nat → Bool} {f : Nat} {st : List Value} {ls : aL} {h : aH} {k n : Nat} (hs : S 46 = false) : WP 36 G S (f + 1) 46 ls st h k n = (oA (lget ls 0) (WP 36 G S f) 47 ls st h k n) := by rw [wp_s dd_36_46 rfl hs]; rfl
theorem dd_36_47 : decode (mB 36) 47 = .ok (.getfield 19, 3) := by decide +kernel
theorem u_36_47 {G : aG} {S : Nat → Bool} {f : Nat} {st : List Value} {ls : aL} {h : aH} {k n : Nat} {a : Nat} (hs : S 47 = false) : WP 36 G S (f + 1) 47 ls (.ref a :: st) h k n = (oV (fget h a 9 1) (WP 36 G S f) 50 ls st h k n) := by rw [wp_s dd_36_47 rfl hs]; rfl
theorem dd_36_50 : decode (mB 36) 50 = .ok (.getfield 70, 3) := by decide +kernel
theorem u_36_50 {G : aG} {S : Nat → Bool} {f : Nat} {st : List Value} {ls : aL} {h : aH} {k n : Nat} {a : Nat} (hs : S 50 = false) : WP 36 G S (f + 1) 50 ls (.ref a :: st) h k n = (oV (fget h a 7 0) (WP 36 G S f) 53 ls st h k n) := by rw [wp_s dd_36_50 rfl hs]; rfl
theorem dd_36_53 : decode (mB 36) 53 = .ok (.iconst 0, 1) := by decide +kernel
theorem u_36_53 {G : aG} {S : Nat → Bool} {f : Nat} {st : List Value} {ls : aL} {h : aH} {k n : Nat} (hs : S 53 = false) : WP 36 G S (f + 1) 53 ls st h k n = (WP 36 G S f 54 ls (.int (nI 0) :: st) h k n) := by rw [wp_s dd_36_53 rfl hs]; rfl
theorem dd_36_54 : decode (mB 36) 54 = .ok (.bipush 9, 2) := by decide +kernel
theorem u_36_54 {G : aG} {S : Nat → Bool} {f : Nat} {st : List Value} {ls : aL} {h : aH} {k n : Nat} (hs : S 54 = false) : WP 36 G S (f + 1) 54 ls st h k n = (WP 36 G S f 56 ls (.int (nI 9) :: st) h k n) := by rw [wp_s dd_36_54 rfl hs]; rfl
theorem dd_36_56 : decode (mB 36) 56 = .ok (.invokestatic 83, 3) := by decide +kernel
theorem u_36_56 {G : aG} {S : Nat → Bool} {f : Nat} {st : List Value} {ls : aL} {h : aH} {k n : Nat} {x sp dp : Int32} {a0 a1 : Nat} (hs : S 56 = false) : WP 36 G S (f + 1) 56 ls (.int x :: .int dp :: .ref a1 :: .int sp :: .ref a0 :: st) h k n = ((st.map fun v => v.category).sum ≤ 8 ∧ 1 ≤ gD G ∧ oCp (iget h a0 1) a0 a1 sp dp x (WP 36 G S f) 59 ls st h k n) := by rw [wp_s dd_36_56 rfl hs]; rfl
theorem dd_36_59 : decode (mB 36) 59 = .ok (.aload_n 0, 1) := by decide +kernel
theorem u_36_59 {G : aG} {S : Nat → Bool} {f : Nat} {st : List Value} {ls : aL} {h : aH} {k n : Nat} (hs : S 59 = false) : WP 36 G S (f + 1) 59 ls st h k n = (oA (lget ls 0) (WP 36 G S f) 60 ls st h k n) := by rw [wp_s dd_36_59 rfl hs]; rfl
theorem dd_36_60 : decode (mB 36) 60 = .ok (.getfield 19, 3) := by decide +kernel
theorem u_36_60 {G : aG} {S : Nat → Bool} {f : Nat} {st : List Value} {ls : aL} {h : aH} {k n : Nat} {a : Nat} (hs : S 60 = false) : WP 36 G S (f + 1) 60 ls (.ref a :: st) h k n = (oV (fget h a 9 1) (WP 36 G S f) 63 ls st h k n) := by rw [wp_s dd_36_60 rfl hs]; rfl
theorem dd_36_63 : decode (mB 36) 63 = .ok (.bipush 8, 2) := by decide +kernel
theorem u_36_63 {G : aG} {S : Nat → Bool} {f : Nat} {st : List Value} {ls : aL} {h : aH} {k n : Nat} (hs : S 63 = false) : WP 36 G S (f + 1) 63 ls st h k n = (WP 36 G S f 65 ls (.int (nI 8) :: st) h k n) := by rw [wp_s dd_36_63 rfl hs]; rfl
theorem dd_36_65 : decode (mB 36) 65 = .ok (.invokevirtual 89, 3) := by decide +kernel
theorem u_36_65 {G : aG} {S : Nat → Bool} {f : Nat} {st : List Value} {ls : aL} {h : aH} {k n : Nat} {v1 : Value} {b : Nat} (hs : S 65 = false) : WP 36 G S (f + 1) 65 ls (v1 :: .ref b :: st) h k n = (rcv (hget h b) 7 ∧ CAL G (WP 36 G S f) 54 [.ref b, v1] 68 ls st h k n) := by rw [wp_s dd_36_65 rfl hs]; rfl
theorem dd_36_68 : decode (mB 36) 68 = .ok (.aload_n 0, 1) := by decide +kernel
theorem u_36_68 {G : aG} {S : Nat → Bool} {f : Nat} {st : List Value} {ls : aL} {h : aH} {k n : Nat} (hs : S 68 = false) : WP 36 G S (f + 1) 68 ls st h k n = (oA (lget ls 0) (WP 36 G S f) 69 ls st h k n) := by rw [wp_s dd_36_68 rfl hs]; rfl
theorem dd_36_69 : decode (mB 36) 69 = .ok (.getfield 40, 3) := by decide +kernel
theorem u_36_69 {G : aG} {S : Nat → Bool} {f : Nat} {st : List Value} {ls : aL} {h : aH} {k n : Nat} {a : Nat} (hs : S 69 = false) : WP 36 G S (f + 1) 69 ls (.ref a :: st) h k n = (oV (fget h a 9 4) (WP 36 G S f) 72 ls st h k n) := by rw [wp_s dd_36_69 rfl hs]; rfl
theorem dd_36_72 : decode (mB 36) 72 = .ok (.aload_n 0, 1) := by decide +kernel
theorem u_36_72 {G : aG} {S : Nat → Bool} {f : Nat} {st : List Value} {ls : aL} {h : aH} {k n : Nat} (hs : S 72 = false) : WP 36 G S (f + 1) 72 ls st h k n = (oA (lget ls 0) (WP 36 G S f) 73 ls st h k n) := by rw [wp_s dd_36_72 rfl hs]; rfl
theorem dd_36_73 : decode (mB 36) 73 = .ok (.getfield 19, 3) := by decide +kernel
theorem u_36_73 {G : aG} {S : Nat → Bool} {f : Nat} {st : List Value} {ls : aL} {h : aH} {k n : Nat} {a : Nat} (hs : S 73 = false) : WP 36 G S (f + 1) 73 ls (.ref a :: st) h k n = (oV (fget h a 9 1) (WP 36 G S f) 76 ls st h k n) := by rw [wp_s dd_36_73 rfl hs]; rfl
theorem dd_36_76 : decode (mB 36) 76 = .ok (.getfield 70, 3) := by decide +kernel
theorem u_36_76 {G : aG} {S : Nat → Bool} {f : Nat} {st : List Value} {ls : aL} {h : aH} {k n : Nat} {a : Nat} (hs : S 76 = false) : WP 36 G S (f + 1) 76 ls (.ref a :: st) h k n = (oV (fget h a 7 0) (WP 36 G S f) 79 ls st h k n) := by rw [wp_s dd_36_76 rfl hs]; rfl
theorem dd_36_79 : decode (mB 36) 79 = .ok (.invokevirtual 92, 3) := by decide +kernel
theorem u_36_79 {G : aG} {S : Nat → Bool} {f : Nat} {st : List Value} {ls : aL} {h : aH} {k n : Nat} {v1 : Value} {b : Nat} (hs : S 79 = false) : WP 36 G S (f + 1) 79 ls (v1 :: .ref b :: st) h k n = (rcv (hget h b) 3 ∧ CAL G (WP 36 G S f) 55 [.ref b, v1] 82 ls st h k n) := by rw [wp_s dd_36_79 rfl hs]; rfl
theorem dd_36_82 : decode (mB 36) 82 = .ok (.iload_n 1, 1) := by decide +kernel
theorem u_36_82 {G : aG} {S : Nat → Bool} {f : Nat} {st : List Value} {ls : aL} {h : aH} {k n : Nat} (hs : S 82 = false) : WP 36 G S (f + 1) 82 ls st h k n = (oI (lget ls 1) (WP 36 G S f) 83 ls st h k n) := by rw [wp_s dd_36_82 rfl hs]; rfl
theorem dd_36_83 : decode (mB 36) 83 = .ok (.ireturn, 1) := by decide +kernel
theorem u_36_83 {G : aG} {S : Nat → Bool} {f : Nat} {ls : aL} {h : aH} {k n : Nat} {x : Int32} (hs : S 83 = false) : WP 36 G S (f + 1) 83 ls [.int x] h k n = (RET G (some (.int x)) h k n) := by rw [wp_s dd_36_83 rfl hs]; rfl
theorem dd_41_0 : decode (mB 41) 0 = .ok (.iload_n 0, 1) := by decide +kernel
theorem u_41_0 {G : aG} {S : Nat → Bool} {f : Nat} {st : List Value} {ls : aL} {h : aH} {k n : Nat} (hs : S 0 = false) : WP 41 G S (f + 1) 0 ls st h k n = (oI (lget ls 0) (WP 41 G S f) 1 ls st h k n) := by rw [wp_s dd_41_0 rfl hs]; rfl
theorem dd_41_1 : decode (mB 41) 1 = .ok (.bipush 97, 2) := by decide +kernel
theorem u_41_1 {G : aG} {S : Nat → Bool} {f : Nat} {st : List Value} {ls : aL} {h : aH} {k n : Nat} (hs : S 1 = false) : WP 41 G S (f + 1) 1 ls st h k n = (WP 41 G S f 3 ls (.int (nI 97) :: st) h k n) := by rw [wp_s dd_41_1 rfl hs]; rfl
theorem dd_41_3 : decode (mB 41) 3 = .ok (.if_icmp .lt 16, 3) := by decide +kernel
theorem u_41_3 {G : aG} {S : Nat → Bool} {f : Nat} {st : List Value} {ls : aL} {h : aH} {k n : Nat} {x y : Int32} (hs : S 3 = false) : WP 41 G S (f + 1) 3 ls (.int y :: .int x :: st) h k n = (if x < y then WP 41 G S f 19 ls st h k n else WP 41 G S f 6 ls st h k n) := by rw [wp_s dd_41_3 rfl hs]; exact br_ite (c := x < y)
theorem dd_41_6 : decode (mB 41) 6 = .ok (.iload_n 0, 1) := by decide +kernel
theorem u_41_6 {G : aG} {S : Nat → Bool} {f : Nat} {st : List Value} {ls : aL} {h : aH} {k n : Nat} (hs : S 6 = false) : WP 41 G S (f + 1) 6 ls st h k n = (oI (lget ls 0) (WP 41 G S f) 7 ls st h k n) := by rw [wp_s dd_41_6 rfl hs]; rfl
theorem dd_41_7 : decode (mB 41) 7 = .ok (.bipush 104, 2) := by decide +kernel
theorem u_41_7 {G : aG} {S : Nat → Bool} {f : Nat} {st : List Value} {ls : aL} {h : aH} {k n : Nat} (hs : S 7 = false) : WP 41 G S (f + 1) 7 ls st h k n = (WP 41 G S f 9 ls (.int (nI 104) :: st) h k n) := by rw [wp_s dd_41_7 rfl hs]; rfl
theorem dd_41_9 : decode (mB 41) 9 = .ok (.if_icmp .gt 10, 3) := by decide +kernel
theorem u_41_9 {G : aG} {S : Nat → Bool} {f : Nat} {st : List Value} {ls : aL} {h : aH} {k n : Nat} {x y : Int32} (hs : S 9 = false) : WP 41 G S (f + 1) 9 ls (.int y :: .int x :: st) h k n = (if y < x then WP 41 G S f 19 ls st h k n else WP 41 G S f 12 ls st h k n) := by rw [wp_s dd_41_9 rfl hs]; exact br_ite (c := y < x)
theorem dd_41_12 : decode (mB 41) 12 = .ok (.iload_n 0, 1) := by decide +kernel
theorem u_41_12 {G : aG} {S : Nat → Bool} {f : Nat} {st : List Value} {ls : aL} {h : aH} {k n : Nat} (hs : S 12 = false) : WP 41 G S (f + 1) 12 ls st h k n = (oI (lget ls 0) (WP 41 G S f) 13 ls st h k n) := by rw [wp_s dd_41_12 rfl hs]; rfl
theorem dd_41_13 : decode (mB 41) 13 = .ok (.bipush 97, 2) := by decide +kernel
theorem u_41_13 {G : aG} {S : Nat → Bool} {f : Nat} {st : List Value} {ls : aL} {h : aH} {k n : Nat} (hs : S 13 = false) : WP 41 G S (f + 1) 13 ls st h k n = (WP 41 G S f 15 ls (.int (nI 97) :: st) h k n) := by rw [wp_s dd_41_13 rfl hs]; rfl
theorem dd_41_15 : decode (mB 41) 15 = .ok (.isub, 1) := by decide +kernel
theorem u_41_15 {G : aG} {S : Nat → Bool} {f : Nat} {st : List Value} {ls : aL} {h : aH} {k n : Nat} {x y : Int32} (hs : S 15 = false) : WP 41 G S (f + 1) 15 ls (.int y :: .int x :: st) h k n = (WP 41 G S f 16 ls (.int (x - y) :: st) h k n) := by rw [wp_s dd_41_15 rfl hs]; rfl
theorem dd_41_16 : decode (mB 41) 16 = .ok (.goto 4, 3) := by decide +kernel
theorem u_41_16 {G : aG} {S : Nat → Bool} {f : Nat} {st : List Value} {ls : aL} {h : aH} {k n : Nat} (hs : S 16 = false) : WP 41 G S (f + 1) 16 ls st h k n = (WP 41 G S f 20 ls st h k n) := by rw [wp_s dd_41_16 rfl hs]; rfl
theorem dd_41_19 : decode (mB 41) 19 = .ok (.iconst (-1), 1) := by decide +kernel
theorem u_41_19 {G : aG} {S : Nat → Bool} {f : Nat} {st : List Value} {ls : aL} {h : aH} {k n : Nat} (hs : S 19 = false) : WP 41 G S (f + 1) 19 ls st h k n = (WP 41 G S f 20 ls (.int (-1) :: st) h k n) := by rw [wp_s dd_41_19 rfl hs]; rfl
theorem dd_41_20 : decode (mB 41) 20 = .ok (.ireturn, 1) := by decide +kernel
theorem u_41_20 {G : aG} {S : Nat → Bool} {f : Nat} {ls : aL} {h : aH} {k n : Nat} {x : Int32} (hs : S 20 = false) : WP 41 G S (f + 1) 20 ls [.int x] h k n = (RET G (some (.int x)) h k n) := by rw [wp_s dd_41_20 rfl hs]; rfl
theorem dd_51_0 : decode (mB 51) 0 = .ok (.iload_n 0, 1) := by decide +kernel
theorem u_51_0 {G : aG} {S : Nat → Bool} {f : Nat} {st : List Value} {ls : aL} {h : aH} {k n : Nat} (hs : S 0 = false) : WP 51 G S (f + 1) 0 ls st h k n = (oI (lget ls 0) (WP 51 G S f) 1 ls st h k n) := by rw [wp_s dd_51_0 rfl hs]; rfl
theorem dd_51_1 : decode (mB 51) 1 = .ok (.ifCond .lt 13, 3) := by decide +kernel
theorem u_51_1 {G : aG} {S : Nat → Bool} {f : Nat} {st : List Value} {ls : aL} {h : aH} {k n : Nat} {x : Int32} (hs : S 1 = false) : WP 51 G S (f + 1) 1 ls (.int x :: st) h k n = (if x < nI 0 then WP 51 G S f 14 ls st h k n else WP 51 G S f 4 ls st h k n) := by rw [wp_s dd_51_1 rfl hs]; exact br_ite (c := x < nI 0)
theorem dd_51_4 : decode (mB 51) 4 = .ok (.iload_n 0, 1) := by decide +kernel
theorem u_51_4 {G : aG} {S : Nat → Bool} {f : Nat} {st : List Value} {ls : aL} {h : aH} {k n : Nat} (hs : S 4 = false) : WP 51 G S (f + 1) 4 ls st h k n = (oI (lget ls 0) (WP 51 G S f) 5 ls st h k n) := by rw [wp_s dd_51_4 rfl hs]; rfl
theorem dd_51_5 : decode (mB 51) 5 = .ok (.bipush 9, 2) := by decide +kernel
theorem u_51_5 {G : aG} {S : Nat → Bool} {f : Nat} {st : List Value} {ls : aL} {h : aH} {k n : Nat} (hs : S 5 = false) : WP 51 G S (f + 1) 5 ls st h k n = (WP 51 G S f 7 ls (.int (nI 9) :: st) h k n) := by rw [wp_s dd_51_5 rfl hs]; rfl
theorem dd_51_7 : decode (mB 51) 7 = .ok (.if_icmp .ge 7, 3) := by decide +kernel
theorem u_51_7 {G : aG} {S : Nat → Bool} {f : Nat} {st : List Value} {ls : aL} {h : aH} {k n : Nat} {x y : Int32} (hs : S 7 = false) : WP 51 G S (f + 1) 7 ls (.int y :: .int x :: st) h k n = (if y ≤ x then WP 51 G S f 14 ls st h k n else WP 51 G S f 10 ls st h k n) := by rw [wp_s dd_51_7 rfl hs]; exact br_ite (c := y ≤ x)
theorem dd_51_10 : decode (mB 51) 10 = .ok (.iconst 1, 1) := by decide +kernel
theorem u_51_10 {G : aG} {S : Nat → Bool} {f : Nat} {st : List Value} {ls : aL} {h : aH} {k n : Nat} (hs : S 10 = false) : WP 51 G S (f + 1) 10 ls st h k n = (WP 51 G S f 11 ls (.int (nI 1) :: st) h k n) := by rw [wp_s dd_51_10 rfl hs]; rfl
theorem dd_51_11 : decode (mB 51) 11 = .ok (.goto 4, 3) := by decide +kernel
theorem u_51_11 {G : aG} {S : Nat → Bool} {f : Nat} {st : List Value} {ls : aL} {h : aH} {k n : Nat} (hs : S 11 = false) : WP 51 G S (f + 1) 11 ls st h k n = (WP 51 G S f 15 ls st h k n) := by rw [wp_s dd_51_11 rfl hs]; rfl
theorem dd_51_14 : decode (mB 51) 14 = .ok (.iconst 0, 1) := by decide +kernel
theorem u_51_14 {G : aG} {S : Nat → Bool} {f : Nat} {st : List Value} {ls : aL} {h : aH} {k n : Nat} (hs : S 14 = false) : WP 51 G S (f + 1) 14 ls st h k n = (WP 51 G S f 15 ls (.int (nI 0) :: st) h k n) := by rw [wp_s dd_51_14 rfl hs]; rfl
theorem dd_51_15 : decode (mB 51) 15 = .ok (.ireturn, 1) := by decide +kernel
theorem u_51_15 {G : aG} {S : Nat → Bool} {f : Nat} {ls : aL} {h : aH} {k n : Nat} {x : Int32} (hs : S 15 = false) : WP 51 G S (f + 1) 15 ls [.int x] h k n = (cond (x == nI 0 || x == nI 1) (RET G (some (.int x)) h k n) False) := by rw [wp_s dd_51_15 rfl hs]; rfl
theorem dd_56_0 : decode (mB 56) 0 = .ok (.iload_n 1, 1) := by decide +kernel
theorem u_56_0 {G : aG} {S : Nat → Bool} {f : Nat} {st : List Value} {ls : aL} {h : aH} {k n : Nat} (hs : S 0 = false) : WP 56 G S (f + 1) 0 ls st h k n = (oI (lget ls 1) (WP 56 G S f) 1 ls st h k n) := by rw [wp_s dd_56_0 rfl hs]; rfl
theorem dd_56_1 : decode (mB 56) 1 = .ok (.invokestatic 96, 3) := by decide +kernel
theorem u_56_1 {G : aG} {S : Nat → Bool} {f : Nat} {st : List Value} {ls : aL} {h : aH} {k n : Nat} {v1 : Value} (hs : S 1 = false) : WP 56 G S (f + 1) 1 ls (v1 :: st) h k n = (CAL G (WP 56 G S f) 51 [v1] 4 ls st h k n) := by rw [wp_s dd_56_1 rfl hs]; rfl
theorem dd_56_4 : decode (mB 56) 4 = .ok (.ifCond .ne 10, 3) := by decide +kernel
theorem u_56_4 {G : aG} {S : Nat → Bool} {f : Nat} {st : List Value} {ls : aL} {h : aH} {k n : Nat} {x : Int32} (hs : S 4 = false) : WP 56 G S (f + 1) 4 ls (.int x :: st) h k n = (if x = nI 0 then WP 56 G S f 7 ls st h k n else WP 56 G S f 14 ls st h k n) := by rw [wp_s dd_56_4 rfl hs]; exact br_iten (c := x = nI 0)
theorem dd_56_7 : decode (mB 56) 7 = .ok (.aload_n 0, 1) := by decide +kernel
theorem u_56_7 {G : aG} {S : Nat → Bool} {f : Nat} {st : List Value} {ls : aL} {h : aH} {k n : Nat} (hs : S 7 = false) : WP 56 G S (f + 1) 7 ls st h k n = (oA (lget ls 0) (WP 56 G S f) 8 ls st h k n) := by rw [wp_s dd_56_7 rfl hs]; rfl
theorem dd_56_8 : decode (mB 56) 8 = .ok (.bipush (-2), 2) := by decide +kernel
theorem u_56_8 {G : aG} {S : Nat → Bool} {f : Nat} {st : List Value} {ls : aL} {h : aH} {k n : Nat} (hs : S 8 = false) : WP 56 G S (f + 1) 8 ls st h k n = (WP 56 G S f 10 ls (.int (-2) :: st) h k n) := by rw [wp_s dd_56_8 rfl hs]; rfl
theorem dd_56_10 : decode (mB 56) 10 = .ok (.invokevirtual 58, 3) := by decide +kernel
theorem u_56_10 {G : aG} {S : Nat → Bool} {f : Nat} {st : List Value} {ls : aL} {h : aH} {k n : Nat} {v1 : Value} {b : Nat} (hs : S 10 = false) : WP 56 G S (f + 1) 10 ls (v1 :: .ref b :: st) h k n = (rcv (hget h b) 9 ∧ CAL G (WP 56 G S f) 33 [.ref b, v1] 13 ls st h k n) := by rw [wp_s dd_56_10 rfl hs]; rfl
theorem dd_56_13 : decode (mB 56) 13 = .ok (.ireturn, 1) := by decide +kernel
theorem u_56_13 {G : aG} {S : Nat → Bool} {f : Nat} {ls : aL} {h : aH} {k n : Nat} {x : Int32} (hs : S 13 = false) : WP 56 G S (f + 1) 13 ls [.int x] h k n = (RET G (some (.int x)) h k n) := by rw [wp_s dd_56_13 rfl hs]; rfl
theorem dd_56_14 : decode (mB 56) 14 = .ok (.aload_n 0, 1) := by decide +kernel
theorem u_56_14 {G : aG} {S : Nat → Bool} {f : Nat} {st : List Value} {ls : aL} {h : aH} {k n : Nat} (hs : S 14 = false) : WP 56 G S (f + 1) 14 ls st h k n = (oA (lget ls 0) (WP 56 G S f) 15 ls st h k n) := by rw [wp_s dd_56_14 rfl hs]; rfl
theorem dd_56_15 : decode (mB 56) 15 = .ok (.getfield 26, 3) := by decide +kernel
theorem u_56_15 {G : aG} {S : Nat → Bool} {f : Nat} {st : List Value} {ls : aL} {h : aH} {k n : Nat} {a : Nat} (hs : S 15 = false) : WP 56 G S (f + 1) 15 ls (.ref a :: st) h k n = (oV (fget h a 9 2) (WP 56 G S f) 18 ls st h k n) := by rw [wp_s dd_56_15 rfl hs]; rfl
theorem dd_56_18 : decode (mB 56) 18 = .ok (.aload_n 0, 1) := by decide +kernel
theorem u_56_18 {G : aG} {S : Nat → Bool} {f : Nat} {st : List Value} {ls : aL} {h : aH} {k n : Nat} (hs : S 18 = false) : WP 56 G S (f + 1) 18 ls st h k n = (oA (lget ls 0) (WP 56 G S f) 19 ls st h k n) := by rw [wp_s dd_56_18 rfl hs]; rfl
theorem dd_56_19 : decode (mB 56) 19 = .ok (.getfield 19, 3) := by decide +kernel
theorem u_56_19 {G : aG} {S : Nat → Bool} {f : Nat} {st : List Value} {ls : aL} {h : aH} {k n : Nat} {a : Nat} (hs : S 19 = false) : WP 56 G S (f + 1) 19 ls (.ref a :: st) h k n = (oV (fget h a 9 1) (WP 56 G S f) 22 ls st h k n) := by rw [wp_s dd_56_19 rfl hs]; rfl
theorem dd_56_22 : decode (mB 56) 22 = .ok (.invokevirtual 78, 3) := by decide +kernel
theorem u_56_22 {G : aG} {S : Nat → Bool} {f : Nat} {st : List Value} {ls : aL} {h : aH} {k n : Nat} {v1 : Value} {b : Nat} (hs : S 22 = false) : WP 56 G S (f + 1) 22 ls (v1 :: .ref b :: st) h k n = (rcv (hget h b) 4 ∧ CAL G (WP 56 G S f) 52 [.ref b, v1] 25 ls st h k n) := by rw [wp_s dd_56_22 rfl hs]; rfl
theorem dd_56_25 : decode (mB 56) 25 = .ok (.aload_n 0, 1) := by decide +kernel
theorem u_56_25 {G : aG} {S : Nat → Bool} {f : Nat} {st : List Value} {ls : aL} {h : aH} {k n : Nat} (hs : S 25 = false) : WP 56 G S (f + 1) 25 ls st h k n = (oA (lget ls 0) (WP 56 G S f) 26 ls st h k n) := by rw [wp_s dd_56_25 rfl hs]; rfl
theorem dd_56_26 : decode (mB 56) 26 = .ok (.getfield 19, 3) := by decide +kernel
theorem u_56_26 {G : aG} {S : Nat → Bool} {f : Nat} {st : List Value} {ls : aL} {h : aH} {k n : Nat} {a : Nat} (hs : S 26 = false) : WP 56 G S (f + 1) 26 ls (.ref a :: st) h k n = (oV (fget h a 9 1) (WP 56 G S f) 29 ls st h k n) := by rw [wp_s dd_56_26 rfl hs]; rfl
theorem dd_56_29 : decode (mB 56) 29 = .ok (.getfield 70, 3) := by decide +kernel
theorem u_56_29 {G : aG} {S : Nat → Bool} {f : Nat} {st : List Value} {ls : aL} {h : aH} {k n : Nat} {a : Nat} (hs : S 29 = false) : WP 56 G S (f + 1) 29 ls (.ref a :: st) h k n = (oV (fget h a 7 0) (WP 56 G S f) 32 ls st h k n) := by rw [wp_s dd_56_29 rfl hs]; rfl
theorem dd_56_32 : decode (mB 56) 32 = .ok (.iload_n 1, 1) := by decide +kernel
theorem u_56_32 {G : aG} {S : Nat → Bool} {f : Nat} {st : List Value} {ls : aL} {h : aH} {k n : Nat} (hs : S 32 = false) : WP 56 G S (f + 1) 32 ls st h k n = (oI (lget ls 1) (WP 56 G S f) 33 ls st h k n) := by rw [wp_s dd_56_32 rfl hs]; rfl
theorem dd_56_33 : decode (mB 56) 33 = .ok (.ldc2_w 100, 3) := by decide +kernel
theorem u_56_33 {G : aG} {S : Nat → Bool} {f : Nat} {st : List Value} {ls : aL} {h : aH} {k n : Nat} (hs : S 33 = false) : WP 56 G S (f + 1) 33 ls st h k n = (WP 56 G S f 36 ls (.long (lN 9) :: st) h k n) := by rw [wp_s dd_56_33 rfl hs]; rfl
theorem dd_56_36 : decode (mB 56) 36 = .ok (.lastore, 1) := by decide +kernel
theorem u_56_36 {G : aG} {S : Nat → Bool} {f : Nat} {st : List Value} {ls : aL} {h : aH} {k n : Nat} {i : Int32} {x : Int64} {a : Nat} (hs : S 36 = false) : WP 56 G S (f + 1) 36 ls (.long x :: .int i :: .ref a :: st) h k n = (oJst (jget h a) a i x (WP 56 G S f) 37 ls st h k n) := by rw [wp_s dd_56_36 rfl hs]; rfl
theorem dd_56_37 : decode (mB 56) 37 = .ok (.aload_n 0, 1) := by decide +kernel
theorem u_56_37 {G : aG} {S : Nat → Bool} {f : Nat} {st : List Value} {ls : aL} {h : aH} {k n : Nat} (hs : S 37 = false) : WP 56 G S (f + 1) 37 ls st h k n = (oA (lget ls 0) (WP 56 G S f) 38 ls st h k n) := by rw [wp_s dd_56_37 rfl hs]; rfl
theorem dd_56_38 : decode (mB 56) 38 = .ok (.getfield 19, 3) := by decide +kernel
theorem u_56_38 {G : aG} {S : Nat → Bool} {f : Nat} {st : List Value} {ls : aL} {h : aH} {k n : Nat} {a : Nat} (hs : S 38 = false) : WP 56 G S (f + 1) 38 ls (.ref a :: st) h k n = (oV (fget h a 9 1) (WP 56 G S f) 41 ls st h k n) := by rw [wp_s dd_56_38 rfl hs]; rfl
theorem dd_56_41 : decode (mB 56) 41 = .ok (.bipush 8, 2) := by decide +kernel
theorem u_56_41 {G : aG} {S : Nat → Bool} {f : Nat} {st : List Value} {ls : aL} {h : aH} {k n : Nat} (hs : S 41 = false) : WP 56 G S (f + 1) 41 ls st h k n = (WP 56 G S f 43 ls (.int (nI 8) :: st) h k n) := by rw [wp_s dd_56_41 rfl hs]; rfl
theorem dd_56_43 : decode (mB 56) 43 = .ok (.invokevirtual 89, 3) := by decide +kernel
theorem u_56_43 {G : aG} {S : Nat → Bool} {f : Nat} {st : List Value} {ls : aL} {h : aH} {k n : Nat} {v1 : Value} {b : Nat} (hs : S 43 = false) : WP 56 G S (f + 1) 43 ls (v1 :: .ref b :: st) h k n = (rcv (hget h b) 7 ∧ CAL G (WP 56 G S f) 54 [.ref b, v1] 46 ls st h k n) := by rw [wp_s dd_56_43 rfl hs]; rfl
theorem dd_56_46 : decode (mB 56) 46 = .ok (.aload_n 0, 1) := by decide +kernel
theorem u_56_46 {G : aG} {S : Nat → Bool} {f : Nat} {st : List Value} {ls : aL} {h : aH} {k n : Nat} (hs : S 46 = false) : WP 56 G S (f + 1) 46 ls st h k n = (oA (lget ls 0) (WP 56 G S f) 47 ls st h k n) := by rw [wp_s dd_56_46 rfl hs]; rfl
theorem dd_56_47 : decode (mB 56) 47 = .ok (.getfield 40, 3) := by decide +kernel
theorem u_56_47 {G : aG} {S : Nat → Bool} {f : Nat} {st : List Value} {ls : aL} {h : aH} {k n : Nat} {a : Nat} (hs : S 47 = false) : WP 56 G S (f + 1) 47 ls (.ref a :: st) h k n = (oV (fget h a 9 4) (WP 56 G S f) 50 ls st h k n) := by rw [wp_s dd_56_47 rfl hs]; rfl
theorem dd_56_50 : decode (mB 56) 50 = .ok (.aload_n 0, 1) := by decide +kernel
theorem u_56_50 {G : aG} {S : Nat → Bool} {f : Nat} {st : List Value} {ls : aL} {h : aH} {k n : Nat} (hs : S 50 = false) : WP 56 G S (f + 1) 50 ls st h k n = (oA (lget ls 0) (WP 56 G S f) 51 ls st h k n) := by rw [wp_s dd_56_50 rfl hs]; rfl
theorem dd_56_51 : decode (mB 56) 51 = .ok (.getfield 19, 3) := by decide +kernel
theorem u_56_51 {G : aG} {S : Nat → Bool} {f : Nat} {st : List Value} {ls : aL} {h : aH} {k n : Nat} {a : Nat} (hs : S 51 = false) : WP 56 G S (f + 1) 51 ls (.ref a :: st) h k n = (oV (fget h a 9 1) (WP 56 G S f) 54 ls st h k n) := by rw [wp_s dd_56_51 rfl hs]; rfl
theorem dd_56_54 : decode (mB 56) 54 = .ok (.getfield 70, 3) := by decide +kernel
theorem u_56_54 {G : aG} {S : Nat → Bool} {f : Nat} {st : List Value} {ls : aL} {h : aH} {k n : Nat} {a : Nat} (hs : S 54 = false) : WP 56 G S (f + 1) 54 ls (.ref a :: st) h k n = (oV (fget h a 7 0) (WP 56 G S f) 57 ls st h k n) := by rw [wp_s dd_56_54 rfl hs]; rfl
theorem dd_56_57 : decode (mB 56) 57 = .ok (.invokevirtual 92, 3) := by decide +kernel
theorem u_56_57 {G : aG} {S : Nat → Bool} {f : Nat} {st : List Value} {ls : aL} {h : aH} {k n : Nat} {v1 : Value} {b : Nat} (hs : S 57 = false) : WP 56 G S (f + 1) 57 ls (v1 :: .ref b :: st) h k n = (rcv (hget h b) 3 ∧ CAL G (WP 56 G S f) 55 [.ref b, v1] 60 ls st h k n) := by rw [wp_s dd_56_57 rfl hs]; rfl
theorem dd_56_60 : decode (mB 56) 60 = .ok (.iconst 1, 1) := by decide +kernel
theorem u_56_60 {G : aG} {S : Nat → Bool} {f : Nat} {st : List Value} {ls : aL} {h : aH} {k n : Nat} (hs : S 60 = false) : WP 56 G S (f + 1) 60 ls st h k n = (WP 56 G S f 61 ls (.int (nI 1) :: st) h k n) := by rw [wp_s dd_56_60 rfl hs]; rfl
theorem dd_56_61 : decode (mB 56) 61 = .ok (.ireturn, 1) := by decide +kernel
theorem u_56_61 {G : aG} {S : Nat → Bool} {f : Nat} {ls : aL} {h : aH} {k n : Nat} {x : Int32} (hs : S 61 = false) : WP 56 G S (f + 1) 61 ls [.int x] h k n = (RET G (some (.int x)) h k n) := by rw [wp_s dd_56_61 rfl hs]; rfl
theorem dd_57_0 : decode (mB 57) 0 = .ok (.iload_n 1, 1) := by decide +kernel
theorem u_57_0 {G : aG} {S : Nat → Bool} {f : Nat} {st : List Value} {ls : aL} {h : aH} {k n : Nat} (hs : S 0 = false) : WP 57 G S (f + 1) 0 ls st h k n = (oI (lget ls 1) (WP 57 G S f) 1 ls st h k n) := by rw [wp_s dd_57_0 rfl hs]; rfl
theorem dd_57_1 : decode (mB 57) 1 = .ok (.invokestatic 96, 3) := by decide +kernel
theorem u_57_1 {G : aG} {S : Nat → Bool} {f : Nat} {st : List Value} {ls : aL} {h : aH} {k n : Nat} {v1 : Value} (hs : S 1 = false) : WP 57 G S (f + 1) 1 ls (v1 :: st) h k n = (CAL G (WP 57 G S f) 51 [v1] 4 ls st h k n) := by rw [wp_s dd_57_1 rfl hs]; rfl
theorem dd_57_4 : decode (mB 57) 4 = .ok (.ifCond .eq 12, 3) := by decide +kernel
theorem u_57_4 {G : aG} {S : Nat → Bool} {f : Nat} {st : List Value} {ls : aL} {h : aH} {k n : Nat} {x : Int32} (hs : S 4 = false) : WP 57 G S (f + 1) 4 ls (.int x :: st) h k n = (if x = nI 0 then WP 57 G S f 16 ls st h k n else WP 57 G S f 7 ls st h k n) := by rw [wp_s dd_57_4 rfl hs]; exact br_ite (c := x = nI 0)
theorem dd_57_7 : decode (mB 57) 7 = .ok (.iload_n 2, 1) := by decide +kernel
theorem u_57_7 {G : aG} {S : Nat → Bool} {f : Nat} {st : List Value} {ls : aL} {h : aH} {k n : Nat} (hs : S 7 = false) : WP 57 G S (f + 1) 7 ls st h k n = (oI (lget ls 2) (WP 57 G S f) 8 ls st h k n) := by rw [wp_s dd_57_7 rfl hs]; rfl
theorem dd_57_8 : decode (mB 57) 8 = .ok (.ifCond .lt 8, 3) := by decide +kernel
theorem u_57_8 {G : aG} {S : Nat → Bool} {f : Nat} {st : List Value} {ls : aL} {h : aH} {k n : Nat} {x : Int32} (hs : S 8 = false) : WP 57 G S (f + 1) 8 ls (.int x :: st) h k n = (if x < nI 0 then WP 57 G S f 16 ls st h k n else WP 57 G S f 11 ls st h k n) := by rw [wp_s dd_57_8 rfl hs]; exact br_ite (c := x < nI 0)
theorem dd_57_11 : decode (mB 57) 11 = .ok (.iload_n 2, 1) := by decide +kernel
theorem u_57_11 {G : aG} {S : Nat → Bool} {f : Nat} {st : List Value} {ls : aL} {h : aH} {k n : Nat} (hs : S 11 = false) : WP 57 G S (f + 1) 11 ls st h k n = (oI (lget ls 2) (WP 57 G S f) 12 ls st h k n) := by rw [wp_s dd_57_11 rfl hs]; rfl
theorem dd_57_12 : decode (mB 57) 12 = .ok (.iconst 3, 1) := by decide +kernel
theorem u_57_12 {G : aG} {S : Nat → Bool} {f : Nat} {st : List Value} {ls : aL} {h : aH} {k n : Nat} (hs : S 12 = false) : WP 57 G S (f + 1) 12 ls st h k n = (WP 57 G S f 13 ls (.int (nI 3) :: st) h k n) := by rw [wp_s dd_57_12 rfl hs]; rfl
theorem dd_57_13 : decode (mB 57) 13 = .ok (.if_icmp .le 10, 3) := by decide +kernel
theorem u_57_13 {G : aG} {S : Nat → Bool} {f : Nat} {st : List Value} {ls : aL} {h : aH} {k n : Nat} {x y : Int32} (hs : S 13 = false) : WP 57 G S (f + 1) 13 ls (.int y :: .int x :: st) h k n = (if x ≤ y then WP 57 G S f 23 ls st h k n else WP 57 G S f 16 ls st h k n) := by rw [wp_s dd_57_13 rfl hs]; exact br_ite (c := x ≤ y)
theorem dd_57_16 : decode (mB 57) 16 = .ok (.aload_n 0, 1) := by decide +kernel
theorem u_57_16 {G : aG} {S : Nat → Bool} {f : Nat} {st : List Value} {ls : aL} {h : aH} {k n : Nat} (hs : S 16 = false) : WP 57 G S (f + 1) 16 ls st h k n = (oA (lget ls 0) (WP 57 G S f) 17 ls st h k n) := by rw [wp_s dd_57_16 rfl hs]; rfl
theorem dd_57_17 : decode (mB 57) 17 = .ok (.bipush (-2), 2) := by decide +kernel
theorem u_57_17 {G : aG} {S : Nat → Bool} {f : Nat} {st : List Value} {ls : aL} {h : aH} {k n : Nat} (hs : S 17 = false) : WP 57 G S (f + 1) 17 ls st h k n = (WP 57 G S f 19 ls (.int (-2) :: st) h k n) := by rw [wp_s dd_57_17 rfl hs]; rfl
theorem dd_57_19 : decode (mB 57) 19 = .ok (.invokevirtual 58, 3) := by decide +kernel
theorem u_57_19 {G : aG} {S : Nat → Bool} {f : Nat} {st : List Value} {ls : aL} {h : aH} {k n : Nat} {v1 : Value} {b : Nat} (hs : S 19 = false) : WP 57 G S (f + 1) 19 ls (v1 :: .ref b :: st) h k n = (rcv (hget h b) 9 ∧ CAL G (WP 57 G S f) 33 [.ref b, v1] 22 ls st h k n) := by rw [wp_s dd_57_19 rfl hs]; rfl
theorem dd_57_22 : decode (mB 57) 22 = .ok (.ireturn, 1) := by decide +kernel
theorem u_57_22 {G : aG} {S : Nat → Bool} {f : Nat} {ls : aL} {h : aH} {k n : Nat} {x : Int32} (hs : S 22 = false) : WP 57 G S (f + 1) 22 ls [.int x] h k n = (RET G (some (.int x)) h k n) := by rw [wp_s dd_57_22 rfl hs]; rfl
theorem dd_57_23 : decode (mB 57) 23 = .ok (.aload_n 0, 1) := by decide +kernel
theorem u_57_23 {G : aG} {S : Nat → Bool} {f : Nat} {st : List Value} {ls : aL} {h : aH} {k n : Nat} (hs : S 23 = false) : WP 57 G S (f + 1) 23 ls st h k n = (oA (lget ls 0) (WP 57 G S f) 24 ls st h k n) := by rw [wp_s dd_57_23 rfl hs]; rfl
theorem dd_57_24 : decode (mB 57) 24 = .ok (.getfield 40, 3) := by decide +kernel
theorem u_57_24 {G : aG} {S : Nat → Bool} {f : Nat} {st : List Value} {ls : aL} {h : aH} {k n : Nat} {a : Nat} (hs : S 24 = false) : WP 57 G S (f + 1) 24 ls (.ref a :: st) h k n = (oV (fget h a 9 4) (WP 57 G S f) 27 ls st h k n) := by rw [wp_s dd_57_24 rfl hs]; rfl
theorem dd_57_27 : decode (mB 57) 27 = .ok (.iload_n 1, 1) := by decide +kernel
theorem u_57_27 {G : aG} {S : Nat → Bool} {f : Nat} {st : List Value} {ls : aL} {h : aH} {k n : Nat} (hs : S 27 = false) : WP 57 G S (f + 1) 27 ls st h k n = (oI (lget ls 1) (WP 57 G S f) 28 ls st h k n) := by rw [wp_s dd_57_27 rfl hs]; rfl
theorem dd_57_28 : decode (mB 57) 28 = .ok (.invokevirtual 102, 3) := by decide +kernel
theorem u_57_28 {G : aG} {S : Nat → Bool} {f : Nat} {st : List Value} {ls : aL} {h : aH} {k n : Nat} {v1 : Value} {b : Nat} (hs : S 28 = false) : WP 57 G S (f + 1) 28 ls (v1 :: .ref b :: st) h k n = (rcv (hget h b) 3 ∧ CAL G (WP 57 G S f) 58 [.ref b, v1] 31 ls st h k n) := by rw [wp_s dd_57_28 rfl hs]; rfl
theorem dd_57_31 : decode (mB 57) 31 = .ok (.iload_n 2, 1) := by decide +kernel
theorem u_57_31 {G : aG} {S : Nat → Bool} {f : Nat} {st : List Value} {ls : aL} {h : aH} {k n : Nat} (hs : S 31 = false) : WP 57 G S (f + 1) 31 ls st h k n = (oI (lget ls 2) (WP 57 G S f) 32 ls st h k n) := by rw [wp_s dd_57_31 rfl hs]; rfl
theorem dd_57_32 : decode (mB 57) 32 = .ok (.invokestatic 106, 3) := by decide +kernel
theorem u_57_32 {G : aG} {S : Nat → Bool} {f : Nat} {st : List Value} {ls : aL} {h : aH} {k n : Nat} {v1 v2 : Value} (hs : S 32 = false) : WP 57 G S (f + 1) 32 ls (v2 :: v1 :: st) h k n = (CAL G (WP 57 G S f) 59 [v1, v2] 35 ls st h k n) := by rw [wp_s dd_57_32 rfl hs]; rfl
theorem dd_57_35 : decode (mB 57) 35 = .ok (.ireturn, 1) := by decide +kernel
theorem u_57_35 {G : aG} {S : Nat → Bool} {f : Nat} {ls : aL} {h : aH} {k n : Nat} {x : Int32} (hs : S 35 = false) : WP 57 G S (f + 1) 35 ls [.int x] h k n = (RET G (some (.int x)) h k n) := by rw [wp_s dd_57_35 rfl hs]; rfl
theorem dd_59_0 : decode (mB 59) 0 = .ok (.iload_n 1, 1) := by decide +kernel
theorem u_59_0 {G : aG} {S : Nat → Bool} {f : Nat} {st : List Value} {ls : aL} {h : aH} {k n : Nat} (hs : S 0 = false) : WP 59 G S (f + 1) 0 ls st h k n = (oI (lget ls 1) (WP 59 G S f) 1 ls st h k n) := by rw [wp_s dd_59_0 rfl hs]; rfl
theorem dd_59_1 : decode (mB 59) 1 = .ok (.tableswitch 55 0 2 #[27, 41, 47], 27) := by decide +kernel
theorem u_59_1 {G : aG} {S : Nat → Bool} {f : Nat} {st : List Value} {ls : aL} {h : aH} {k n : Nat} {x : Int32} (hs : S 1 = false) : WP 59 G S (f + 1) 1 ls (.int x :: st) h k n = (if x = nI 0 then WP 59 G S f 28 ls st h k n else (if x = nI 1 then WP 59 G S f 42 ls st h k n else (if x = nI 2 then WP 59 G S f 48 ls st h k n else (WP 59 G S f 56 ls st h k n)))) := by rw [wp_s dd_59_1 rfl hs]; show WP 59 G S f (tgtT 1 0 2 [27, 41, 47] 55 x) ls st h k n = _; refine (ts_ite (K := fun q => WP 59 G S f q ls st h k n) (nI 0) rfl (by decide)).trans (if_cg ?_); refine (ts_ite (K := fun q => WP 59 G S f q ls st h k n) (nI 1) rfl (by decide)).trans (if_cg ?_); refine (ts_ite (K := fun q => WP 59 G S f q ls st h k n) (nI 2) rfl (by decide)).trans (if_cg ?_); exact ts_nil (K := fun q => WP 59 G S f q ls st h k n) (by decide)
theorem dd_59_28 : decode (mB 59) 28 = .ok (.aload_n 0, 1) := by decide +kernel
theorem u_59_28 {G : aG} {S : Nat → Bool} {f : Nat} {st : List Value} {ls : aL} {h : aH} {k n : Nat} (hs : S 28 = false) : WP 59 G S (f + 1) 28 ls st h k n = (oA (lget ls 0) (WP 59 G S f) 29 ls st h k n) := by rw [wp_s dd_59_28 rfl hs]; rfl
theorem dd_59_29 : decode (mB 59) 29 = .ok (.iconst 0, 1) := by decide +kernel
theorem u_59_29 {G : aG} {S : Nat → Bool} {f : Nat} {st : List Value} {ls : aL} {h : aH} {k n : Nat} (hs : S 29 = false) : WP 59 G S (f + 1) 29 ls st h k n = (WP 59 G S f 30 ls (.int (nI 0) :: st) h k n) := by rw [wp_s dd_59_29 rfl hs]; rfl
theorem dd_59_30 : decode (mB 59) 30 = .ok (.invokevirtual 183, 3) := by decide +kernel
theorem u_59_30 {G : aG} {S : Nat → Bool} {f : Nat} {st : List Value} {ls : aL} {h : aH} {k n : Nat} {v1 : Value} {b : Nat} (hs : S 30 = false) : WP 59 G S (f + 1) 30 ls (v1 :: .ref b :: st) h k n = (rcv (hget h b) 2 ∧ CAL G (WP 59 G S f) 60 [.ref b, v1] 33 ls st h k n) := by rw [wp_s dd_59_30 rfl hs]; rfl
theorem dd_59_33 : decode (mB 59) 33 = .ok (.ifCond .eq 7, 3) := by decide +kernel
theorem u_59_33 {G : aG} {S : Nat → Bool} {f : Nat} {st : List Value} {ls : aL} {h : aH} {k n : Nat} {x : Int32} (hs : S 33 = false) : WP 59 G S (f + 1) 33 ls (.int x :: st) h k n = (if x = nI 0 then WP 59 G S f 40 ls st h k n else WP 59 G S f 36 ls st h k n) := by rw [wp_s dd_59_33 rfl hs]; exact br_ite (c := x = nI 0)
theorem dd_59_36 : decode (mB 59) 36 = .ok (.iconst 1, 1) := by decide +kernel
theorem u_59_36 {G : aG} {S : Nat → Bool} {f : Nat} {st : List Value} {ls : aL} {h : aH} {k n : Nat} (hs : S 36 = false) : WP 59 G S (f + 1) 36 ls st h k n = (WP 59 G S f 37 ls (.int (nI 1) :: st) h k n) := by rw [wp_s dd_59_36 rfl hs]; rfl
theorem dd_59_37 : decode (mB 59) 37 = .ok (.goto 4, 3) := by decide +kernel
theorem u_59_37 {G : aG} {S : Nat → Bool} {f : Nat} {st : List Value} {ls : aL} {h : aH} {k n : Nat} (hs : S 37 = false) : WP 59 G S (f + 1) 37 ls st h k n = (WP 59 G S f 41 ls st h k n) := by rw [wp_s dd_59_37 rfl hs]; rfl
theorem dd_59_40 : decode (mB 59) 40 = .ok (.iconst 0, 1) := by decide +kernel
theorem u_59_40 {G : aG} {S : Nat → Bool} {f : Nat} {st : List Value} {ls : aL} {h : aH} {k n : Nat} (hs : S 40 = false) : WP 59 G S (f + 1) 40 ls st h k n = (WP 59 G S f 41 ls (.int (nI 0) :: st) h k n) := by rw [wp_s dd_59_40 rfl hs]; rfl
theorem dd_59_41 : decode (mB 59) 41 = .ok (.ireturn, 1) := by decide +kernel
theorem u_59_41 {G : aG} {S : Nat → Bool} {f : Nat} {ls : aL} {h : aH} {k n : Nat} {x : Int32} (hs : S 41 = false) : WP 59 G S (f + 1) 41 ls [.int x] h k n = (RET G (some (.int x)) h k n) := by rw [wp_s dd_59_41 rfl hs]; rfl
theorem dd_59_42 : decode (mB 59) 42 = .ok (.aload_n 0, 1) := by decide +kernel
theorem u_59_42 {G : aG} {S : Nat → Bool} {f : Nat} {st : List Value} {ls : aL} {h : aH} {k n : Nat} (hs : S 42 = false) : WP 59 G S (f + 1) 42 ls st h k n = (oA (lget ls 0) (WP 59 G S f) 43 ls st h k n) := by rw [wp_s dd_59_42 rfl hs]; rfl
theorem dd_59_43 : decode (mB 59) 43 = .ok (.iconst 0, 1) := by decide +kernel
theorem u_59_43 {G : aG} {S : Nat → Bool} {f : Nat} {st : List Value} {ls : aL} {h : aH} {k n : Nat} (hs : S 43 = false) : WP 59 G S (f + 1) 43 ls st h k n = (WP 59 G S f 44 ls (.int (nI 0) :: st) h k n) := by rw [wp_s dd_59_43 rfl hs]; rfl
theorem dd_59_44 : decode (mB 59) 44 = .ok (.invokevirtual 188, 3) := by decide +kernel
theorem u_59_44 {G : aG} {S : Nat → Bool} {f : Nat} {st : List Value} {ls : aL} {h : aH} {k n : Nat} {v1 : Value} {b : Nat} (hs : S 44 = false) : WP 59 G S (f + 1) 44 ls (v1 :: .ref b :: st) h k n = (rcv (hget h b) 2 ∧ CAL G (WP 59 G S f) 62 [.ref b, v1] 47 ls st h k n) := by rw [wp_s dd_59_44 rfl hs]; rfl
theorem dd_59_47 : decode (mB 59) 47 = .ok (.ireturn, 1) := by decide +kernel
theorem u_59_47 {G : aG} {S : Nat → Bool} {f : Nat} {ls : aL} {h : aH} {k n : Nat} {x : Int32} (hs : S 47 = false) : WP 59 G S (f + 1) 47 ls [.int x] h k n = (RET G (some (.int x)) h k n) := by rw [wp_s dd_59_47 rfl hs]; rfl
theorem dd_59_48 : decode (mB 59) 48 = .ok (.aload_n 0, 1) := by decide +kernel
theorem u_59_48 {G : aG} {S : Nat → Bool} {f : Nat} {st : List Value} {ls : aL} {h : aH} {k n : Nat} (hs : S 48 = false) : WP 59 G S (f + 1) 48 ls st h k n = (oA (lget ls 0) (WP 59 G S f) 49 ls st h k n) := by rw [wp_s dd_59_48 rfl hs]; rfl
theorem dd_59_49 : decode (mB 59) 49 = .ok (.getfield 190, 3) := by decide +kernel
theorem u_59_49 {G : aG} {S : Nat → Bool} {f : Nat} {st : List Value} {ls : aL} {h : aH} {k n : Nat} {a : Nat} (hs : S 49 = false) : WP 59 G S (f + 1) 49 ls (.ref a :: st) h k n = (oV (fget h a 2 0) (WP 59 G S f) 52 ls st h k n) := by rw [wp_s dd_59_49 rfl hs]; rfl
theorem dd_59_52 : decode (mB 59) 52 = .ok (.getfield 194, 3) := by decide +kernel
theorem u_59_52 {G : aG} {S : Nat → Bool} {f : Nat} {st : List Value} {ls : aL} {h : aH} {k n : Nat} {a : Nat} (hs : S 52 = false) : WP 59 G S (f + 1) 52 ls (.ref a :: st) h k n = (oV (fget h a 5 7) (WP 59 G S f) 55 ls st h k n) := by rw [wp_s dd_59_52 rfl hs]; rfl
theorem dd_59_55 : decode (mB 59) 55 = .ok (.ireturn, 1) := by decide +kernel
theorem u_59_55 {G : aG} {S : Nat → Bool} {f : Nat} {ls : aL} {h : aH} {k n : Nat} {x : Int32} (hs : S 55 = false) : WP 59 G S (f + 1) 55 ls [.int x] h k n = (RET G (some (.int x)) h k n) := by rw [wp_s dd_59_55 rfl hs]; rfl
theorem dd_59_56 : decode (mB 59) 56 = .ok (.aload_n 0, 1) := by decide +kernel
theorem u_59_56 {G : aG} {S : Nat → Bool} {f : Nat} {st : List Value} {ls : aL} {h : aH} {k n : Nat} (hs : S 56 = false) : WP 59 G S (f + 1) 56 ls st h k n = (oA (lget ls 0) (WP 59 G S f) 57 ls st h k n) := by rw [wp_s dd_59_56 rfl hs]; rfl
theorem dd_59_57 : decode (mB 59) 57 = .ok (.getfield 190, 3) := by decide +kernel
theorem u_59_57 {G : aG} {S : Nat → Bool} {f : Nat} {st : List Value} {ls : aL} {h : aH} {k n : Nat} {a : Nat} (hs : S 57 = false) : WP 59 G S (f + 1) 57 ls (.ref a :: st) h k n = (oV (fget h a 2 0) (WP 59 G S f) 60 ls st h k n) := by rw [wp_s dd_59_57 rfl hs]; rfl
theorem dd_59_60 : decode (mB 59) 60 = .ok (.invokevirtual 199, 3) := by decide +kernel
theorem u_59_60 {G : aG} {S : Nat → Bool} {f : Nat} {st : List Value} {ls : aL} {h : aH} {k n : Nat} {b : Nat} (hs : S 60 = false) : WP 59 G S (f + 1) 60 ls (.ref b :: st) h k n = (rcv (hget h b) 5 ∧ CAL G (WP 59 G S f) 63 [.ref b] 63 ls st h k n) := by rw [wp_s dd_59_60 rfl hs]; rfl
theorem dd_59_63 : decode (mB 59) 63 = .ok (.ireturn, 1) := by decide +kernel
theorem u_59_63 {G : aG} {S : Nat → Bool} {f : Nat} {ls : aL} {h : aH} {k n : Nat} {x : Int32} (hs : S 63 = false) : WP 59 G S (f + 1) 63 ls [.int x] h k n = (RET G (some (.int x)) h k n) := by rw [wp_s dd_59_63 rfl hs]; rfl
theorem dd_64_0 : decode (mB 64) 0 = .ok (.iload_n 1, 1) := by decide +kernel
theorem u_64_0 {G : aG} {S : Nat → Bool} {f : Nat} {st : List Value} {ls : aL} {h : aH} {k n : Nat} (hs : S 0 = false) : WP 64 G S (f + 1) 0 ls st h k n = (oI (lget ls 1) (WP 64 G S f) 1 ls st h k n) := by rw [wp_s dd_64_0 rfl hs]; rfl
theorem dd_64_1 : decode (mB 64) 1 = .ok (.invokestatic 96, 3) := by decide +kernel
theorem u_64_1 {G : aG} {S : Nat → Bool} {f : Nat} {st : List Value} {ls : aL} {h : aH} {k n : Nat} {v1 : Value} (hs : S 1 = false) : WP 64 G S (f + 1) 1 ls (v1 :: st) h k n = (CAL G (WP 64 G S f) 51 [v1] 4 ls st h k n) := by rw [wp_s dd_64_1 rfl hs]; rfl
theorem dd_64_4 : decode (mB 64) 4 = .ok (.ifCond .eq 13, 3) := by decide +kernel
theorem u_64_4 {G : aG} {S : Nat → Bool} {f : Nat} {st : List Value} {ls : aL} {h : aH} {k n : Nat} {x : Int32} (hs : S 4 = false) : WP 64 G S (f + 1) 4 ls (.int x :: st) h k n = (if x = nI 0 then WP 64 G S f 17 ls st h k n else WP 64 G S f 7 ls st h k n) := by rw [wp_s dd_64_4 rfl hs]; exact br_ite (c := x = nI 0)
theorem dd_64_7 : decode (mB 64) 7 = .ok (.iload_n 2, 1) := by decide +kernel
theorem u_64_7 {G : aG} {S : Nat → Bool} {f : Nat} {st : List Value} {ls : aL} {h : aH} {k n : Nat} (hs : S 7 = false) : WP 64 G S (f + 1) 7 ls st h k n = (oI (lget ls 2) (WP 64 G S f) 8 ls st h k n) := by rw [wp_s dd_64_7 rfl hs]; rfl
theorem dd_64_8 : decode (mB 64) 8 = .ok (.ifCond .lt 9, 3) := by decide +kernel
theorem u_64_8 {G : aG} {S : Nat → Bool} {f : Nat} {st : List Value} {ls : aL} {h : aH} {k n : Nat} {x : Int32} (hs : S 8 = false) : WP 64 G S (f + 1) 8 ls (.int x :: st) h k n = (if x < nI 0 then WP 64 G S f 17 ls st h k n else WP 64 G S f 11 ls st h k n) := by rw [wp_s dd_64_8 rfl hs]; exact br_ite (c := x < nI 0)
theorem dd_64_11 : decode (mB 64) 11 = .ok (.iload_n 2, 1) := by decide +kernel
theorem u_64_11 {G : aG} {S : Nat → Bool} {f : Nat} {st : List Value} {ls : aL} {h : aH} {k n : Nat} (hs : S 11 = false) : WP 64 G S (f + 1) 11 ls st h k n = (oI (lget ls 2) (WP 64 G S f) 12 ls st h k n) := by rw [wp_s dd_64_11 rfl hs]; rfl
theorem dd_64_12 : decode (mB 64) 12 = .ok (.bipush 6, 2) := by decide +kernel
theorem u_64_12 {G : aG} {S : Nat → Bool} {f : Nat} {st : List Value} {ls : aL} {h : aH} {k n : Nat} (hs : S 12 = false) : WP 64 G S (f + 1) 12 ls st h k n = (WP 64 G S f 14 ls (.int (nI 6) :: st) h k n) := by rw [wp_s dd_64_12 rfl hs]; rfl
theorem dd_64_14 : decode (mB 64) 14 = .ok (.if_icmp .le 10, 3) := by decide +kernel
theorem u_64_14 {G : aG} {S : Nat → Bool} {f : Nat} {st : List Value} {ls : aL} {h : aH} {k n : Nat} {x y : Int32} (hs : S 14 = false) : WP 64 G S (f + 1) 14 ls (.int y :: .int x :: st) h k n = (if x ≤ y then WP 64 G S f 24 ls st h k n else WP 64 G S f 17 ls st h k n) := by rw [wp_s dd_64_14 rfl hs]; exact br_ite (c := x ≤ y)
theorem dd_64_17 : decode (mB 64) 17 = .ok (.aload_n 0, 1) := by decide +kernel
theorem u_64_17 {G : aG} {S : Nat → Bool} {f : Nat} {st : List Value} {ls : aL} {h : aH} {k n : Nat} (hs : S 17 = false) : WP 64 G S (f + 1) 17 ls st h k n = (oA (lget ls 0) (WP 64 G S f) 18 ls st h k n) := by rw [wp_s dd_64_17 rfl hs]; rfl
theorem dd_64_18 : decode (mB 64) 18 = .ok (.bipush (-2), 2) := by decide +kernel
theorem u_64_18 {G : aG} {S : Nat → Bool} {f : Nat} {st : List Value} {ls : aL} {h : aH} {k n : Nat} (hs : S 18 = false) : WP 64 G S (f + 1) 18 ls st h k n = (WP 64 G S f 20 ls (.int (-2) :: st) h k n) := by rw [wp_s dd_64_18 rfl hs]; rfl
theorem dd_64_20 : decode (mB 64) 20 = .ok (.invokevirtual 58, 3) := by decide +kernel
theorem u_64_20 {G : aG} {S : Nat → Bool} {f : Nat} {st : List Value} {ls : aL} {h : aH} {k n : Nat} {v1 : Value} {b : Nat} (hs : S 20 = false) : WP 64 G S (f + 1) 20 ls (v1 :: .ref b :: st) h k n = (rcv (hget h b) 9 ∧ CAL G (WP 64 G S f) 33 [.ref b, v1] 23 ls st h k n) := by rw [wp_s dd_64_20 rfl hs]; rfl
theorem dd_64_23 : decode (mB 64) 23 = .ok (.ireturn, 1) := by decide +kernel
theorem u_64_23 {G : aG} {S : Nat → Bool} {f : Nat} {ls : aL} {h : aH} {k n : Nat} {x : Int32} (hs : S 23 = false) : WP 64 G S (f + 1) 23 ls [.int x] h k n = (RET G (some (.int x)) h k n) := by rw [wp_s dd_64_23 rfl hs]; rfl
theorem dd_64_24 : decode (mB 64) 24 = .ok (.aload_n 0, 1) := by decide +kernel
theorem u_64_24 {G : aG} {S : Nat → Bool} {f : Nat} {st : List Value} {ls : aL} {h : aH} {k n : Nat} (hs : S 24 = false) : WP 64 G S (f + 1) 24 ls st h k n = (oA (lget ls 0) (WP 64 G S f) 25 ls st h k n) := by rw [wp_s dd_64_24 rfl hs]; rfl
theorem dd_64_25 : decode (mB 64) 25 = .ok (.getfield 47, 3) := by decide +kernel
theorem u_64_25 {G : aG} {S : Nat → Bool} {f : Nat} {st : List Value} {ls : aL} {h : aH} {k n : Nat} {a : Nat} (hs : S 25 = false) : WP 64 G S (f + 1) 25 ls (.ref a :: st) h k n = (oV (fget h a 9 5) (WP 64 G S f) 28 ls st h k n) := by rw [wp_s dd_64_25 rfl hs]; rfl
theorem dd_64_28 : decode (mB 64) 28 = .ok (.aload_n 0, 1) := by decide +kernel
theorem u_64_28 {G : aG} {S : Nat → Bool} {f : Nat} {st : List Value} {ls : aL} {h : aH} {k n : Nat} (hs : S 28 = false) : WP 64 G S (f + 1) 28 ls st h k n = (oA (lget ls 0) (WP 64 G S f) 29 ls st h k n) := by rw [wp_s dd_64_28 rfl hs]; rfl
theorem dd_64_29 : decode (mB 64) 29 = .ok (.getfield 40, 3) := by decide +kernel
theorem u_64_29 {G : aG} {S : Nat → Bool} {f : Nat} {st : List Value} {ls : aL} {h : aH} {k n : Nat} {a : Nat} (hs : S 29 = false) : WP 64 G S (f + 1) 29 ls (.ref a :: st) h k n = (oV (fget h a 9 4) (WP 64 G S f) 32 ls st h k n) := by rw [wp_s dd_64_29 rfl hs]; rfl
theorem dd_64_32 : decode (mB 64) 32 = .ok (.iload_n 1, 1) := by decide +kernel
theorem u_64_32 {G : aG} {S : Nat → Bool} {f : Nat} {st : List Value} {ls : aL} {h : aH} {k n : Nat} (hs : S 32 = false) : WP 64 G S (f + 1) 32 ls st h k n = (oI (lget ls 1) (WP 64 G S f) 33 ls st h k n) := by rw [wp_s dd_64_32 rfl hs]; rfl
theorem dd_64_33 : decode (mB 64) 33 = .ok (.invokevirtual 102, 3) := by decide +kernel
theorem u_64_33 {G : aG} {S : Nat → Bool} {f : Nat} {st : List Value} {ls : aL} {h : aH} {k n : Nat} {v1 : Value} {b : Nat} (hs : S 33 = false) : WP 64 G S (f + 1) 33 ls (v1 :: .ref b :: st) h k n = (rcv (hget h b) 3 ∧ CAL G (WP 64 G S f) 58 [.ref b, v1] 36 ls st h k n) := by rw [wp_s dd_64_33 rfl hs]; rfl
theorem dd_64_36 : decode (mB 64) 36 = .ok (.iload_n 2, 1) := by decide +kernel
theorem u_64_36 {G : aG} {S : Nat → Bool} {f : Nat} {st : List Value} {ls : aL} {h : aH} {k n : Nat} (hs : S 36 = false) : WP 64 G S (f + 1) 36 ls st h k n = (oI (lget ls 2) (WP 64 G S f) 37 ls st h k n) := by rw [wp_s dd_64_36 rfl hs]; rfl
theorem dd_64_37 : decode (mB 64) 37 = .ok (.invokevirtual 110, 3) := by decide +kernel
theorem u_64_37 {G : aG} {S : Nat → Bool} {f : Nat} {st : List Value} {ls : aL} {h : aH} {k n : Nat} {v1 v2 : Value} {b : Nat} (hs : S 37 = false) : WP 64 G S (f + 1) 37 ls (v2 :: v1 :: .ref b :: st) h k n = (rcv (hget h b) 6 ∧ CAL G (WP 64 G S f) 65 [.ref b, v1, v2] 40 ls st h k n) := by rw [wp_s dd_64_37 rfl hs]; rfl
theorem dd_64_40 : decode (mB 64) 40 = .ok (.ireturn, 1) := by decide +kernel
theorem u_64_40 {G : aG} {S : Nat → Bool} {f : Nat} {ls : aL} {h : aH} {k n : Nat} {x : Int32} (hs : S 40 = false) : WP 64 G S (f + 1) 40 ls [.int x] h k n = (RET G (some (.int x)) h k n) := by rw [wp_s dd_64_40 rfl hs]; rfl
theorem dd_75_0 : decode (mB 75) 0 = .ok (.iload_n 1, 1) := by decide +kernel
theorem u_75_0 {G : aG} {S : Nat → Bool} {f : Nat} {st : List Value} {ls : aL} {h : aH} {k n : Nat} (hs : S 0 = false) : WP 75 G S (f + 1) 0 ls st h k n = (oI (lget ls 1) (WP 75 G S f) 1 ls st h k n) := by rw [wp_s dd_75_0 rfl hs]; rfl
theorem dd_75_1 : decode (mB 75) 1 = .ok (.ifCond .lt 8, 3) := by decide +kernel
theorem u_75_1 {G : aG} {S : Nat → Bool} {f : Nat} {st : List Value} {ls : aL} {h : aH} {k n : Nat} {x : Int32} (hs : S 1 = false) : WP 75 G S (f + 1) 1 ls (.int x :: st) h k n = (if x < nI 0 then WP 75 G S f 9 ls st h k n else WP 75 G S f 4 ls st h k n) := by rw [wp_s dd_75_1 rfl hs]; exact br_ite (c := x < nI 0)
theorem dd_75_4 : decode (mB 75) 4 = .ok (.iload_n 1, 1) := by decide +kernel
theorem u_75_4 {G : aG} {S : Nat → Bool} {f : Nat} {st : List Value} {ls : aL} {h : aH} {k n : Nat} (hs : S 4 = false) : WP 75 G S (f + 1) 4 ls st h k n = (oI (lget ls 1) (WP 75 G S f) 5 ls st h k n) := by rw [wp_s dd_75_4 rfl hs]; rfl
theorem dd_75_5 : decode (mB 75) 5 = .ok (.iconst 5, 1) := by decide +kernel
theorem u_75_5 {G : aG} {S : Nat → Bool} {f : Nat} {st : List Value} {ls : aL} {h : aH} {k n : Nat} (hs : S 5 = false) : WP 75 G S (f + 1) 5 ls st h k n = (WP 75 G S f 6 ls (.int (nI 5) :: st) h k n) := by rw [wp_s dd_75_5 rfl hs]; rfl
theorem dd_75_6 : decode (mB 75) 6 = .ok (.if_icmp .le 10, 3) := by decide +kernel
theorem u_75_6 {G : aG} {S : Nat → Bool} {f : Nat} {st : List Value} {ls : aL} {h : aH} {k n : Nat} {x y : Int32} (hs : S 6 = false) : WP 75 G S (f + 1) 6 ls (.int y :: .int x :: st) h k n = (if x ≤ y then WP 75 G S f 16 ls st h k n else WP 75 G S f 9 ls st h k n) := by rw [wp_s dd_75_6 rfl hs]; exact br_ite (c := x ≤ y)
theorem dd_75_9 : decode (mB 75) 9 = .ok (.aload_n 0, 1) := by decide +kernel
theorem u_75_9 {G : aG} {S : Nat → Bool} {f : Nat} {st : List Value} {ls : aL} {h : aH} {k n : Nat} (hs : S 9 = false) : WP 75 G S (f + 1) 9 ls st h k n = (oA (lget ls 0) (WP 75 G S f) 10 ls st h k n) := by rw [wp_s dd_75_9 rfl hs]; rfl
theorem dd_75_10 : decode (mB 75) 10 = .ok (.bipush (-2), 2) := by decide +kernel
theorem u_75_10 {G : aG} {S : Nat → Bool} {f : Nat} {st : List Value} {ls : aL} {h : aH} {k n : Nat} (hs : S 10 = false) : WP 75 G S (f + 1) 10 ls st h k n = (WP 75 G S f 12 ls (.int (-2) :: st) h k n) := by rw [wp_s dd_75_10 rfl hs]; rfl
theorem dd_75_12 : decode (mB 75) 12 = .ok (.invokevirtual 58, 3) := by decide +kernel
theorem u_75_12 {G : aG} {S : Nat → Bool} {f : Nat} {st : List Value} {ls : aL} {h : aH} {k n : Nat} {v1 : Value} {b : Nat} (hs : S 12 = false) : WP 75 G S (f + 1) 12 ls (v1 :: .ref b :: st) h k n = (rcv (hget h b) 9 ∧ CAL G (WP 75 G S f) 33 [.ref b, v1] 15 ls st h k n) := by rw [wp_s dd_75_12 rfl hs]; rfl
theorem dd_75_15 : decode (mB 75) 15 = .ok (.ireturn, 1) := by decide +kernel
theorem u_75_15 {G : aG} {S : Nat → Bool} {f : Nat} {ls : aL} {h : aH} {k n : Nat} {x : Int32} (hs : S 15 = false) : WP 75 G S (f + 1) 15 ls [.int x] h k n = (RET G (some (.int x)) h k n) := by rw [wp_s dd_75_15 rfl hs]; rfl
theorem dd_75_16 : decode (mB 75) 16 = .ok (.aload_n 0, 1) := by decide +kernel
theorem u_75_16 {G : aG} {S : Nat → Bool} {f : Nat} {st : List Value} {ls : aL} {h : aH} {k n : Nat} (hs : S 16 = false) : WP 75 G S (f + 1) 16 ls st h k n = (oA (lget ls 0) (WP 75 G S f) 17 ls st h k n) := by rw [wp_s dd_75_16 rfl hs]; rfl
theorem dd_75_17 : decode (mB 75) 17 = .ok (.getfield 54, 3) := by decide +kernel
theorem u_75_17 {G : aG} {S : Nat → Bool} {f : Nat} {st : List Value} {ls : aL} {h : aH} {k n : Nat} {a : Nat} (hs : S 17 = false) : WP 75 G S (f + 1) 17 ls (.ref a :: st) h k n = (oV (fget h a 9 6) (WP 75 G S f) 20 ls st h k n) := by rw [wp_s dd_75_17 rfl hs]; rfl
theorem dd_75_20 : decode (mB 75) 20 = .ok (.aload_n 0, 1) := by decide +kernel
theorem u_75_20 {G : aG} {S : Nat → Bool} {f : Nat} {st : List Value} {ls : aL} {h : aH} {k n : Nat} (hs : S 20 = false) : WP 75 G S (f + 1) 20 ls st h k n = (oA (lget ls 0) (WP 75 G S f) 21 ls st h k n) := by rw [wp_s dd_75_20 rfl hs]; rfl
theorem dd_75_21 : decode (mB 75) 21 = .ok (.getfield 10, 3) := by decide +kernel
theorem u_75_21 {G : aG} {S : Nat → Bool} {f : Nat} {st : List Value} {ls : aL} {h : aH} {k n : Nat} {a : Nat} (hs : S 21 = false) : WP 75 G S (f + 1) 21 ls (.ref a :: st) h k n = (oV (fget h a 9 0) (WP 75 G S f) 24 ls st h k n) := by rw [wp_s dd_75_21 rfl hs]; rfl
theorem dd_75_24 : decode (mB 75) 24 = .ok (.aload_n 0, 1) := by decide +kernel
theorem u_75_24 {G : aG} {S : Nat → Bool} {f : Nat} {st : List Value} {ls : aL} {h : aH} {k n : Nat} (hs : S 24 = false) : WP 75 G S (f + 1) 24 ls st h k n = (oA (lget ls 0) (WP 75 G S f) 25 ls st h k n) := by rw [wp_s dd_75_24 rfl hs]; rfl
theorem dd_75_25 : decode (mB 75) 25 = .ok (.getfield 40, 3) := by decide +kernel
theorem u_75_25 {G : aG} {S : Nat → Bool} {f : Nat} {st : List Value} {ls : aL} {h : aH} {k n : Nat} {a : Nat} (hs : S 25 = false) : WP 75 G S (f + 1) 25 ls (.ref a :: st) h k n = (oV (fget h a 9 4) (WP 75 G S f) 28 ls st h k n) := by rw [wp_s dd_75_25 rfl hs]; rfl
theorem dd_75_28 : decode (mB 75) 28 = .ok (.invokevirtual 113, 3) := by decide +kernel
theorem u_75_28 {G : aG} {S : Nat → Bool} {f : Nat} {st : List Value} {ls : aL} {h : aH} {k n : Nat} {v1 v2 : Value} {b : Nat} (hs : S 28 = false) : WP 75 G S (f + 1) 28 ls (v2 :: v1 :: .ref b :: st) h k n = (rcv (hget h b) 0 ∧ CAL G (WP 75 G S f) 76 [.ref b, v1, v2] 31 ls st h k n) := by rw [wp_s dd_75_28 rfl hs]; rfl
theorem dd_75_31 : decode (mB 75) 31 = .ok (.istore_n 2, 1) := by decide +kernel
theorem u_75_31 {G : aG} {S : Nat → Bool} {f : Nat} {st : List Value} {ls : aL} {h : aH} {k n : Nat} {x : Int32} (hs : S 31 = false) : WP 75 G S (f + 1) 31 ls (.int x :: st) h k n = (WP 75 G S f 32 (lput1 ls 2 (.int x)) st h k n) := by rw [wp_s dd_75_31 rfl hs]; rfl
theorem dd_75_32 : decode (mB 75) 32 = .ok (.iload_n 2, 1) := by decide +kernel
theorem u_75_32 {G : aG} {S : Nat → Bool} {f : Nat} {st : List Value} {ls : aL} {h : aH} {k n : Nat} (hs : S 32 = false) : WP 75 G S (f + 1) 32 ls st h k n = (oI (lget ls 2) (WP 75 G S f) 33 ls st h k n) := by rw [wp_s dd_75_32 rfl hs]; rfl
theorem dd_75_33 : decode (mB 75) 33 = .ok (.iconst (-1), 1) := by decide +kernel
theorem u_75_33 {G : aG} {S : Nat → Bool} {f : Nat} {st : List Value} {ls : aL} {h : aH} {k n : Nat} (hs : S 33 = false) : WP 75 G S (f + 1) 33 ls st h k n = (WP 75 G S f 34 ls (.int (-1) :: st) h k n) := by rw [wp_s dd_75_33 rfl hs]; rfl
theorem dd_75_34 : decode (mB 75) 34 = .ok (.if_icmp .ne 11, 3) := by decide +kernel
theorem u_75_34 {G : aG} {S : Nat → Bool} {f : Nat} {st : List Value} {ls : aL} {h : aH} {k n : Nat} {x y : Int32} (hs : S 34 = false) : WP 75 G S (f + 1) 34 ls (.int y :: .int x :: st) h k n = (if x = y then WP 75 G S f 37 ls st h k n else WP 75 G S f 45 ls st h k n) := by rw [wp_s dd_75_34 rfl hs]; exact br_iten (c := x = y)
theorem dd_75_37 : decode (mB 75) 37 = .ok (.aload_n 0, 1) := by decide +kernel
theorem u_75_37 {G : aG} {S : Nat → Bool} {f : Nat} {st : List Value} {ls : aL} {h : aH} {k n : Nat} (hs : S 37 = false) : WP 75 G S (f + 1) 37 ls st h k n = (oA (lget ls 0) (WP 75 G S f) 38 ls st h k n) := by rw [wp_s dd_75_37 rfl hs]; rfl
theorem dd_75_38 : decode (mB 75) 38 = .ok (.iload_n 1, 1) := by decide +kernel
theorem u_75_38 {G : aG} {S : Nat → Bool} {f : Nat} {st : List Value} {ls : aL} {h : aH} {k n : Nat} (hs : S 38 = false) : WP 75 G S (f + 1) 38 ls st h k n = (oI (lget ls 1) (WP 75 G S f) 39 ls st h k n) := by rw [wp_s dd_75_38 rfl hs]; rfl
theorem dd_75_39 : decode (mB 75) 39 = .ok (.invokevirtual 117, 3) := by decide +kernel
theorem u_75_39 {G : aG} {S : Nat → Bool} {f : Nat} {st : List Value} {ls : aL} {h : aH} {k n : Nat} {v1 : Value} {b : Nat} (hs : S 39 = false) : WP 75 G S (f + 1) 39 ls (v1 :: .ref b :: st) h k n = (rcv (hget h b) 9 ∧ CAL G (WP 75 G S f) 85 [.ref b, v1] 42 ls st h k n) := by rw [wp_s dd_75_39 rfl hs]; rfl
theorem dd_75_42 : decode (mB 75) 42 = .ok (.goto 7, 3) := by decide +kernel
theorem u_75_42 {G : aG} {S : Nat → Bool} {f : Nat} {st : List Value} {ls : aL} {h : aH} {k n : Nat} (hs : S 42 = false) : WP 75 G S (f + 1) 42 ls st h k n = (WP 75 G S f 49 ls st h k n) := by rw [wp_s dd_75_42 rfl hs]; rfl
theorem dd_75_45 : decode (mB 75) 45 = .ok (.bipush (-10), 2) := by decide +kernel
theorem u_75_45 {G : aG} {S : Nat → Bool} {f : Nat} {st : List Value} {ls : aL} {h : aH} {k n : Nat} (hs : S 45 = false) : WP 75 G S (f + 1) 45 ls st h k n = (WP 75 G S f 47 ls (.int (-10) :: st) h k n) := by rw [wp_s dd_75_45 rfl hs]; rfl
theorem dd_75_47 : decode (mB 75) 47 = .ok (.iload_n 2, 1) := by decide +kernel
theorem u_75_47 {G : aG} {S : Nat → Bool} {f : Nat} {st : List Value} {ls : aL} {h : aH} {k n : Nat} (hs : S 47 = false) : WP 75 G S (f + 1) 47 ls st h k n = (oI (lget ls 2) (WP 75 G S f) 48 ls st h k n) := by rw [wp_s dd_75_47 rfl hs]; rfl
theorem dd_75_48 : decode (mB 75) 48 = .ok (.isub, 1) := by decide +kernel
theorem u_75_48 {G : aG} {S : Nat → Bool} {f : Nat} {st : List Value} {ls : aL} {h : aH} {k n : Nat} {x y : Int32} (hs : S 48 = false) : WP 75 G S (f + 1) 48 ls (.int y :: .int x :: st) h k n = (WP 75 G S f 49 ls (.int (x - y) :: st) h k n) := by rw [wp_s dd_75_48 rfl hs]; rfl
theorem dd_75_49 : decode (mB 75) 49 = .ok (.ireturn, 1) := by decide +kernel
theorem u_75_49 {G : aG} {S : Nat → Bool} {f : Nat} {ls : aL} {h : aH} {k n : Nat} {x : Int32} (hs : S 49 = false) : WP 75 G S (f + 1) 49 ls [.int x] h k n = (RET G (some (.int x)) h k n) := by rw [wp_s dd_75_49 rfl hs]; rfl
theorem dd_85_0 : decode (mB 85) 0 = .ok (.iload_n 1, 1) := by decide +kernel
theorem u_85_0 {G : aG} {S : Nat → Bool} {f : Nat} {st : List Value} {ls : aL} {h : aH} {k n : Nat} (hs : S 0 = false) : WP 85 G S (f + 1) 0 ls st h k n = (oI (lget ls 1) (WP 85 G S f) 1 ls st h k n) := by rw [wp_s dd_85_0 rfl hs]; rfl
theorem dd_85_1 : decode (mB 85) 1 = .ok (.tableswitch 92 0 4 #[35, 52, 60, 68, 84], 35) := by decide +kernel
theorem u_85_1 {G : aG} {S : Nat → Bool} {f : Nat} {st : List Value} {ls : aL} {h : aH} {k n : Nat} {x : Int32} (hs : S 1 = false) : WP 85 G S (f + 1) 1 ls (.int x :: st) h k n = (if x = nI 0 then WP 85 G S f 36 ls st h k n else (if x = nI 1 then WP 85 G S f 53 ls st h k n else (if x = nI 2 then WP 85 G S f 61 ls st h k n else (if x = nI 3 then WP 85 G S f 69 ls st h k n else (if x = nI 4 then WP 85 G S f 85 ls st h k n else (WP 85 G S f 93 ls st h k n)))))) := by rw [wp_s dd_85_1 rfl hs]; show WP 85 G S f (tgtT 1 0 4 [35, 52, 60, 68, 84] 92 x) ls st h k n = _; refine (ts_ite (K := fun q => WP 85 G S f q ls st h k n) (nI 0) rfl (by decide)).trans (if_cg ?_); refine (ts_ite (K := fun q => WP 85 G S f q ls st h k n) (nI 1) rfl (by decide)).trans (if_cg ?_); refine (ts_ite (K := fun q => WP 85 G S f q ls st h k n) (nI 2) rfl (by decide)).trans (if_cg ?_); refine (ts_ite (K := fun q => WP 85 G S f q ls st h k n) (nI 3) rfl (by decide)).trans (if_cg ?_); refine (ts_ite (K := fun q => WP 85 G S f q ls st h k n) (nI 4) rfl (by decide)).trans (if_cg ?_); exact ts_nil (K := fun q => WP 85 G S f q ls st h k n) (by decide)
theorem dd_85_36 : decode (mB 85) 36 = .ok (.aload_n 0, 1) := by decide +kernel
theorem u_85_36 {G : aG} {S : Nat → Bool} {f : Nat} {st : List Value} {ls : aL} {h : aH} {k n : Nat} (hs : S 36 = false) : WP 85 G S (f + 1) 36 ls st h k n = (oA (lget ls 0) (WP 85 G S f) 37 ls st h k n) := by rw [wp_s dd_85_36 rfl hs]; rfl
theorem dd_85_37 : decode (mB 85) 37 = .ok (.getfield 54, 3) := by decide +kernel
theorem u_85_37 {G : aG} {S : Nat → Bool} {f : Nat} {st : List Value} {ls : aL} {h : aH} {k n : Nat} {a : Nat} (hs : S 37 = false) : WP 85 G S (f + 1) 37 ls (.ref a :: st) h k n = (oV (fget h a 9 6) (WP 85 G S f) 40 ls st h k n) := by rw [wp_s dd_85_37 rfl hs]; rfl
theorem dd_85_40 : decode (mB 85) 40 = .ok (.getfield 160, 3) := by decide +kernel
theorem u_85_40 {G : aG} {S : Nat → Bool} {f : Nat} {st : List Value} {ls : aL} {h : aH} {k n : Nat} {a : Nat} (hs : S 40 = false) : WP 85 G S (f + 1) 40 ls (.ref a :: st) h k n = (oV (fget h a 0 4) (WP 85 G S f) 43 ls st h k n) := by rw [wp_s dd_85_40 rfl hs]; rfl
theorem dd_85_43 : decode (mB 85) 43 = .ok (.iconst (-1), 1) := by decide +kernel
theorem u_85_43 {G : aG} {S : Nat → Bool} {f : Nat} {st : List Value} {ls : aL} {h : aH} {k n : Nat} (hs : S 43 = false) : WP 85 G S (f + 1) 43 ls st h k n = (WP 85 G S f 44 ls (.int (-1) :: st) h k n) := by rw [wp_s dd_85_43 rfl hs]; rfl
theorem dd_85_44 : decode (mB 85) 44 = .ok (.if_icmp .ne 7, 3) := by decide +kernel
theorem u_85_44 {G : aG} {S : Nat → Bool} {f : Nat} {st : List Value} {ls : aL} {h : aH} {k n : Nat} {x y : Int32} (hs : S 44 = false) : WP 85 G S (f + 1) 44 ls (.int y :: .int x :: st) h k n = (if x = y then WP 85 G S f 47 ls st h k n else WP 85 G S f 51 ls st h k n) := by rw [wp_s dd_85_44 rfl hs]; exact br_iten (c := x = y)
theorem dd_85_47 : decode (mB 85) 47 = .ok (.iconst 1, 1) := by decide +kernel
theorem u_85_47 {G : aG} {S : Nat → Bool} {f : Nat} {st : List Value} {ls : aL} {h : aH} {k n : Nat} (hs : S 47 = false) : WP 85 G S (f + 1) 47 ls st h k n = (WP 85 G S f 48 ls (.int (nI 1) :: st) h k n) := by rw [wp_s dd_85_47 rfl hs]; rfl
theorem dd_85_48 : decode (mB 85) 48 = .ok (.goto 4, 3) := by decide +kernel
theorem u_85_48 {G : aG} {S : Nat → Bool} {f : Nat} {st : List Value} {ls : aL} {h : aH} {k n : Nat} (hs : S 48 = false) : WP 85 G S (f + 1) 48 ls st h k n = (WP 85 G S f 52 ls st h k n) := by rw [wp_s dd_85_48 rfl hs]; rfl
theorem dd_85_51 : decode (mB 85) 51 = .ok (.iconst 0, 1) := by decide +kernel
theorem u_85_51 {G : aG} {S : Nat → Bool} {f : Nat} {st : List Value} {ls : aL} {h : aH} {k n : Nat} (hs : S 51 = false) : WP 85 G S (f + 1) 51 ls st h k n = (WP 85 G S f 52 ls (.int (nI 0) :: st) h k n) := by rw [wp_s dd_85_51 rfl hs]; rfl
theorem dd_85_52 : decode (mB 85) 52 = .ok (.ireturn, 1) := by decide +kernel
theorem u_85_52 {G : aG} {S : Nat → Bool} {f : Nat} {ls : aL} {h : aH} {k n : Nat} {x : Int32} (hs : S 52 = false) : WP 85 G S (f + 1) 52 ls [.int x] h k n = (RET G (some (.int x)) h k n) := by rw [wp_s dd_85_52 rfl hs]; rfl
theorem dd_85_53 : decode (mB 85) 53 = .ok (.aload_n 0, 1) := by decide +kernel
theorem u_85_53 {G : aG} {S : Nat → Bool} {f : Nat} {st : List Value} {ls : aL} {h : aH} {k n : Nat} (hs : S 53 = false) : WP 85 G S (f + 1) 53 ls st h k n = (oA (lget ls 0) (WP 85 G S f) 54 ls st h k n) := by rw [wp_s dd_85_53 rfl hs]; rfl
theorem dd_85_54 : decode (mB 85) 54 = .ok (.getfield 54, 3) := by decide +kernel
theorem u_85_54 {G : aG} {S : Nat → Bool} {f : Nat} {st : List Value} {ls : aL} {h : aH} {k n : Nat} {a : Nat} (hs : S 54 = false) : WP 85 G S (f + 1) 54 ls (.ref a :: st) h k n = (oV (fget h a 9 6) (WP 85 G S f) 57 ls st h k n) := by rw [wp_s dd_85_54 rfl hs]; rfl
theorem dd_85_57 : decode (mB 85) 57 = .ok (.getfield 160, 3) := by decide +kernel
theorem u_85_57 {G : aG} {S : Nat → Bool} {f : Nat} {st : List Value} {ls : aL} {h : aH} {k n : Nat} {a : Nat} (hs : S 57 = false) : WP 85 G S (f + 1) 57 ls (.ref a :: st) h k n = (oV (fget h a 0 4) (WP 85 G S f) 60 ls st h k n) := by rw [wp_s dd_85_57 rfl hs]; rfl
theorem dd_85_60 : decode (mB 85) 60 = .ok (.ireturn, 1) := by decide +kernel
theorem u_85_60 {G : aG} {S : Nat → Bool} {f : Nat} {ls : aL} {h : aH} {k n : Nat} {x : Int32} (hs : S 60 = false) : WP 85 G S (f + 1) 60 ls [.int x] h k n = (RET G (some (.int x)) h k n) := by rw [wp_s dd_85_60 rfl hs]; rfl
theorem dd_85_61 : decode (mB 85) 61 = .ok (.aload_n 0, 1) := by decide +kernel
theorem u_85_61 {G : aG} {S : Nat → Bool} {f : Nat} {st : List Value} {ls : aL} {h : aH} {k n : Nat} (hs : S 61 = false) : WP 85 G S (f + 1) 61 ls st h k n = (oA (lget ls 0) (WP 85 G S f) 62 ls st h k n) := by rw [wp_s dd_85_61 rfl hs]; rfl
theorem dd_85_62 : decode (mB 85) 62 = .ok (.getfield 54, 3) := by decide +kernel
theorem u_85_62 {G : aG} {S : Nat → Bool} {f : Nat} {st : List Value} {ls : aL} {h : aH} {k n : Nat} {a : Nat} (hs : S 62 = false) : WP 85 G S (f + 1) 62 ls (.ref a :: st) h k n = (oV (fget h a 9 6) (WP 85 G S f) 65 ls st h k n) := by rw [wp_s dd_85_62 rfl hs]; rfl
theorem dd_85_65 : decode (mB 85) 65 = .ok (.getfield 163, 3) := by decide +kernel
theorem u_85_65 {G : aG} {S : Nat → Bool} {f : Nat} {st : List Value} {ls : aL} {h : aH} {k n : Nat} {a : Nat} (hs : S 65 = false) : WP 85 G S (f + 1) 65 ls (.ref a :: st) h k n = (oV (fget h a 0 5) (WP 85 G S f) 68 ls st h k n) := by rw [wp_s dd_85_65 rfl hs]; rfl
theorem dd_85_68 : decode (mB 85) 68 = .ok (.ireturn, 1) := by decide +kernel
theorem u_85_68 {G : aG} {S : Nat → Bool} {f : Nat} {ls : aL} {h : aH} {k n : Nat} {x : Int32} (hs : S 68 = false) : WP 85 G S (f + 1) 68 ls [.int x] h k n = (RET G (some (.int x)) h k n) := by rw [wp_s dd_85_68 rfl hs]; rfl
theorem dd_85_69 : decode (mB 85) 69 = .ok (.aload_n 0, 1) := by decide +kernel
theorem u_85_69 {G : aG} {S : Nat → Bool} {f : Nat} {st : List Value} {ls : aL} {h : aH} {k n : Nat} (hs : S 69 = false) : WP 85 G S (f + 1) 69 ls st h k n = (oA (lget ls 0) (WP 85 G S f) 70 ls st h k n) := by rw [wp_s dd_85_69 rfl hs]; rfl
theorem dd_85_70 : decode (mB 85) 70 = .ok (.getfield 54, 3) := by decide +kernel
theorem u_85_70 {G : aG} {S : Nat → Bool} {f : Nat} {st : List Value} {ls : aL} {h : aH} {k n : Nat} {a : Nat} (hs : S 70 = false) : WP 85 G S (f + 1) 70 ls (.ref a :: st) h k n = (oV (fget h a 9 6) (WP 85 G S f) 73 ls st h k n) := by rw [wp_s dd_85_70 rfl hs]; rfl
theorem dd_85_73 : decode (mB 85) 73 = .ok (.getfield 166, 3) := by decide +kernel
theorem u_85_73 {G : aG} {S : Nat → Bool} {f : Nat} {st : List Value} {ls : aL} {h : aH} {k n : Nat} {a : Nat} (hs : S 73 = false) : WP 85 G S (f + 1) 73 ls (.ref a :: st) h k n = (oV (fget h a 0 6) (WP 85 G S f) 76 ls st h k n) := by rw [wp_s dd_85_73 rfl hs]; rfl
theorem dd_85_76 : decode (mB 85) 76 = .ok (.ifCond .eq 7, 3) := by decide +kernel
theorem u_85_76 {G : aG} {S : Nat → Bool} {f : Nat} {st : List Value} {ls : aL} {h : aH} {k n : Nat} {x : Int32} (hs : S 76 = false) : WP 85 G S (f + 1) 76 ls (.int x :: st) h k n = (if x = nI 0 then WP 85 G S f 83 ls st h k n else WP 85 G S f 79 ls st h k n) := by rw [wp_s dd_85_76 rfl hs]; exact br_ite (c := x = nI 0)
theorem dd_85_79 : decode (mB 85) 79 = .ok (.iconst 1, 1) := by decide +kernel
theorem u_85_79 {G : aG} {S : Nat → Bool} {f : Nat} {st : List Value} {ls : aL} {h : aH} {k n : Nat} (hs : S 79 = false) : WP 85 G S (f + 1) 79 ls st h k n = (WP 85 G S f 80 ls (.int (nI 1) :: st) h k n) := by rw [wp_s dd_85_79 rfl hs]; rfl
theorem dd_85_80 : decode (mB 85) 80 = .ok (.goto 4, 3) := by decide +kernel
theorem u_85_80 {G : aG} {S : Nat → Bool} {f : Nat} {st : List Value} {ls : aL} {h : aH} {k n : Nat} (hs : S 80 = false) : WP 85 G S (f + 1) 80 ls st h k n = (WP 85 G S f 84 ls st h k n) := by rw [wp_s dd_85_80 rfl hs]; rfl
theorem dd_85_83 : decode (mB 85) 83 = .ok (.iconst 0, 1) := by decide +kernel
theorem u_85_83 {G : aG} {S : Nat → Bool} {f : Nat} {st : List Value} {ls : aL} {h : aH} {k n : Nat} (hs : S 83 = false) : WP 85 G S (f + 1) 83 ls st h k n = (WP 85 G S f 84 ls (.int (nI 0) :: st) h k n) := by rw [wp_s dd_85_83 rfl hs]; rfl
theorem dd_85_84 : decode (mB 85) 84 = .ok (.ireturn, 1) := by decide +kernel
theorem u_85_84 {G : aG} {S : Nat → Bool} {f : Nat} {ls : aL} {h : aH} {k n : Nat} {x : Int32} (hs : S 84 = false) : WP 85 G S (f + 1) 84 ls [.int x] h k n = (RET G (some (.int x)) h k n) := by rw [wp_s dd_85_84 rfl hs]; rfl
theorem dd_85_85 : decode (mB 85) 85 = .ok (.aload_n 0, 1) := by decide +kernel
theorem u_85_85 {G : aG} {S : Nat → Bool} {f : Nat} {st : List Value} {ls : aL} {h : aH} {k n : Nat} (hs : S 85 = false) : WP 85 G S (f + 1) 85 ls st h k n = (oA (lget ls 0) (WP 85 G S f) 86 ls st h k n) := by rw [wp_s dd_85_85 rfl hs]; rfl
theorem dd_85_86 : decode (mB 85) 86 = .ok (.getfield 54, 3) := by decide +kernel
theorem u_85_86 {G : aG} {S : Nat → Bool} {f : Nat} {st : List Value} {ls : aL} {h : aH} {k n : Nat} {a : Nat} (hs : S 86 = false) : WP 85 G S (f + 1) 86 ls (.ref a :: st) h k n = (oV (fget h a 9 6) (WP 85 G S f) 89 ls st h k n) := by rw [wp_s dd_85_86 rfl hs]; rfl
theorem dd_85_89 : decode (mB 85) 89 = .ok (.getfield 170, 3) := by decide +kernel
theorem u_85_89 {G : aG} {S : Nat → Bool} {f : Nat} {st : List Value} {ls : aL} {h : aH} {k n : Nat} {a : Nat} (hs : S 89 = false) : WP 85 G S (f + 1) 89 ls (.ref a :: st) h k n = (oV (fget h a 0 7) (WP 85 G S f) 92 ls st h k n) := by rw [wp_s dd_85_89 rfl hs]; rfl
theorem dd_85_92 : decode (mB 85) 92 = .ok (.ireturn, 1) := by decide +kernel
theorem u_85_92 {G : aG} {S : Nat → Bool} {f : Nat} {ls : aL} {h : aH} {k n : Nat} {x : Int32} (hs : S 92 = false) : WP 85 G S (f + 1) 92 ls [.int x] h k n = (RET G (some (.int x)) h k n) := by rw [wp_s dd_85_92 rfl hs]; rfl
theorem dd_85_93 : decode (mB 85) 93 = .ok (.aload_n 0, 1) := by decide +kernel
theorem u_85_93 {G : aG} {S : Nat → Bool} {f : Nat} {st : List Value} {ls : aL} {h : aH} {k n : Nat} (hs : S 93 = false) : WP 85 G S (f + 1) 93 ls st h k n = (oA (lget ls 0) (WP 85 G S f) 94 ls st h k n) := by rw [wp_s dd_85_93 rfl hs]; rfl
theorem dd_85_94 : decode (mB 85) 94 = .ok (.getfield 54, 3) := by decide +kernel
theorem u_85_94 {G : aG} {S : Nat → Bool} {f : Nat} {st : List Value} {ls : aL} {h : aH} {k n : Nat} {a : Nat} (hs : S 94 = false) : WP 85 G S (f + 1) 94 ls (.ref a :: st) h k n = (oV (fget h a 9 6) (WP 85 G S f) 97 ls st h k n) := by rw [wp_s dd_85_94 rfl hs]; rfl
theorem dd_85_97 : decode (mB 85) 97 = .ok (.getfield 173, 3) := by decide +kernel
theorem u_85_97 {G : aG} {S : Nat → Bool} {f : Nat} {st : List Value} {ls : aL} {h : aH} {k n : Nat} {a : Nat} (hs : S 97 = false) : WP 85 G S (f + 1) 97 ls (.ref a :: st) h k n = (oV (fget h a 0 9) (WP 85 G S f) 100 ls st h k n) := by rw [wp_s dd_85_97 rfl hs]; rfl
theorem dd_85_100 : decode (mB 85) 100 = .ok (.ireturn, 1) := by decide +kernel
theorem u_85_100 {G : aG} {S : Nat → Bool} {f : Nat} {ls : aL} {h : aH} {k n : Nat} {x : Int32} (hs : S 100 = false) : WP 85 G S (f + 1) 100 ls [.int x] h k n = (RET G (some (.int x)) h k n) := by rw [wp_s dd_85_100 rfl hs]; rfl
theorem dd_86_0 : decode (mB 86) 0 = .ok (.aload_n 0, 1) := by decide +kernel
theorem u_86_0 {G : aG} {S : Nat → Bool} {f : Nat} {st : List Value} {ls : aL} {h : aH} {k n : Nat} (hs : S 0 = false) : WP 86 G S (f + 1) 0 ls st h k n = (oA (lget ls 0) (WP 86 G S f) 1 ls st h k n) := by rw [wp_s dd_86_0 rfl hs]; rfl
theorem dd_86_1 : decode (mB 86) 1 = .ok (.getfield 54, 3) := by decide +kernel
theorem u_86_1 {G : aG} {S : Nat → Bool} {f : Nat} {st : List Value} {ls : aL} {h : aH} {k n : Nat} {a : Nat} (hs : S 1 = false) : WP 86 G S (f + 1) 1 ls (.ref a :: st) h k n = (oV (fget h a 9 6) (WP 86 G S f) 4 ls st h k n) := by rw [wp_s dd_86_1 rfl hs]; rfl
theorem dd_86_4 : decode (mB 86) 4 = .ok (.aload_n 0, 1) := by decide +kernel
theorem u_86_4 {G : aG} {S : Nat → Bool} {f : Nat} {st : List Value} {ls : aL} {h : aH} {k n : Nat} (hs : S 4 = false) : WP 86 G S (f + 1) 4 ls st h k n = (oA (lget ls 0) (WP 86 G S f) 5 ls st h k n) := by rw [wp_s dd_86_4 rfl hs]; rfl
theorem dd_86_5 : decode (mB 86) 5 = .ok (.getfield 10, 3) := by decide +kernel
theorem u_86_5 {G : aG} {S : Nat → Bool} {f : Nat} {st : List Value} {ls : aL} {h : aH} {k n : Nat} {a : Nat} (hs : S 5 = false) : WP 86 G S (f + 1) 5 ls (.ref a :: st) h k n = (oV (fget h a 9 0) (WP 86 G S f) 8 ls st h k n) := by rw [wp_s dd_86_5 rfl hs]; rfl
theorem dd_86_8 : decode (mB 86) 8 = .ok (.aload_n 0, 1) := by decide +kernel
theorem u_86_8 {G : aG} {S : Nat → Bool} {f : Nat} {st : List Value} {ls : aL} {h : aH} {k n : Nat} (hs : S 8 = false) : WP 86 G S (f + 1) 8 ls st h k n = (oA (lget ls 0) (WP 86 G S f) 9 ls st h k n) := by rw [wp_s dd_86_8 rfl hs]; rfl
theorem dd_86_9 : decode (mB 86) 9 = .ok (.getfield 40, 3) := by decide +kernel
theorem u_86_9 {G : aG} {S : Nat → Bool} {f : Nat} {st : List Value} {ls : aL} {h : aH} {k n : Nat} {a : Nat} (hs : S 9 = false) : WP 86 G S (f + 1) 9 ls (.ref a :: st) h k n = (oV (fget h a 9 4) (WP 86 G S f) 12 ls st h k n) := by rw [wp_s dd_86_9 rfl hs]; rfl
theorem dd_86_12 : decode (mB 86) 12 = .ok (.invokevirtual 113, 3) := by decide +kernel
theorem u_86_12 {G : aG} {S : Nat → Bool} {f : Nat} {st : List Value} {ls : aL} {h : aH} {k n : Nat} {v1 v2 : Value} {b : Nat} (hs : S 12 = false) : WP 86 G S (f + 1) 12 ls (v2 :: v1 :: .ref b :: st) h k n = (rcv (hget h b) 0 ∧ CAL G (WP 86 G S f) 76 [.ref b, v1, v2] 15 ls st h k n) := by rw [wp_s dd_86_12 rfl hs]; rfl
theorem dd_86_15 : decode (mB 86) 15 = .ok (.istore_n 1, 1) := by decide +kernel
theorem u_86_15 {G : aG} {S : Nat → Bool} {f : Nat} {st : List Value} {ls : aL} {h : aH} {k n : Nat} {x : Int32} (hs : S 15 = false) : WP 86 G S (f + 1) 15 ls (.int x :: st) h k n = (WP 86 G S f 16 (lput1 ls 1 (.int x)) st h k n) := by rw [wp_s dd_86_15 rfl hs]; rfl
theorem dd_86_16 : decode (mB 86) 16 = .ok (.iload_n 1, 1) := by decide +kernel
theorem u_86_16 {G : aG} {S : Nat → Bool} {f : Nat} {st : List Value} {ls : aL} {h : aH} {k n : Nat} (hs : S 16 = false) : WP 86 G S (f + 1) 16 ls st h k n = (oI (lget ls 1) (WP 86 G S f) 17 ls st h k n) := by rw [wp_s dd_86_16 rfl hs]; rfl
theorem dd_86_17 : decode (mB 86) 17 = .ok (.iconst (-1), 1) := by decide +kernel
theorem u_86_17 {G : aG} {S : Nat → Bool} {f : Nat} {st : List Value} {ls : aL} {h : aH} {k n : Nat} (hs : S 17 = false) : WP 86 G S (f + 1) 17 ls st h k n = (WP 86 G S f 18 ls (.int (-1) :: st) h k n) := by rw [wp_s dd_86_17 rfl hs]; rfl
theorem dd_86_18 : decode (mB 86) 18 = .ok (.if_icmp .ne 16, 3) := by decide +kernel
theorem u_86_18 {G : aG} {S : Nat → Bool} {f : Nat} {st : List Value} {ls : aL} {h : aH} {k n : Nat} {x y : Int32} (hs : S 18 = false) : WP 86 G S (f + 1) 18 ls (.int y :: .int x :: st) h k n = (if x = y then WP 86 G S f 21 ls st h k n else WP 86 G S f 34 ls st h k n) := by rw [wp_s dd_86_18 rfl hs]; exact br_iten (c := x = y)
theorem dd_86_21 : decode (mB 86) 21 = .ok (.aload_n 0, 1) := by decide +kernel
theorem u_86_21 {G : aG} {S : Nat → Bool} {f : Nat} {st : List Value} {ls : aL} {h : aH} {k n : Nat} (hs : S 21 = false) : WP 86 G S (f + 1) 21 ls st h k n = (oA (lget ls 0) (WP 86 G S f) 22 ls st h k n) := by rw [wp_s dd_86_21 rfl hs]; rfl
theorem dd_86_22 : decode (mB 86) 22 = .ok (.getfield 54, 3) := by decide +kernel
theorem u_86_22 {G : aG} {S : Nat → Bool} {f : Nat} {st : List Value} {ls : aL} {h : aH} {k n : Nat} {a : Nat} (hs : S 22 = false) : WP 86 G S (f + 1) 22 ls (.ref a :: st) h k n = (oV (fget h a 9 6) (WP 86 G S f) 25 ls st h k n) := by rw [wp_s dd_86_22 rfl hs]; rfl
theorem dd_86_25 : decode (mB 86) 25 = .ok (.invokevirtual 120, 3) := by decide +kernel
theorem u_86_25 {G : aG} {S : Nat → Bool} {f : Nat} {st : List Value} {ls : aL} {h : aH} {k n : Nat} {b : Nat} (hs : S 25 = false) : WP 86 G S (f + 1) 25 ls (.ref b :: st) h k n = (rcv (hget h b) 0 ∧ CAL G (WP 86 G S f) 87 [.ref b] 28 ls st h k n) := by rw [wp_s dd_86_25 rfl hs]; rfl
theorem dd_86_28 : decode (mB 86) 28 = .ok (.invokestatic 124, 3) := by decide +kernel
theorem u_86_28 {G : aG} {S : Nat → Bool} {f : Nat} {st : List Value} {ls : aL} {h : aH} {k n : Nat} {v1 : Value} (hs : S 28 = false) : WP 86 G S (f + 1) 28 ls (v1 :: st) h k n = (CAL G (WP 86 G S f) 88 [v1] 31 ls st h k n) := by rw [wp_s dd_86_28 rfl hs]; rfl
theorem dd_86_31 : decode (mB 86) 31 = .ok (.goto 7, 3) := by decide +kernel
theorem u_86_31 {G : aG} {S : Nat → Bool} {f : Nat} {st : List Value} {ls : aL} {h : aH} {k n : Nat} (hs : S 31 = false) : WP 86 G S (f + 1) 31 ls st h k n = (WP 86 G S f 38 ls st h k n) := by rw [wp_s dd_86_31 rfl hs]; rfl
theorem dd_86_34 : decode (mB 86) 34 = .ok (.bipush (-10), 2) := by decide +kernel
theorem u_86_34 {G : aG} {S : Nat → Bool} {f : Nat} {st : List Value} {ls : aL} {h : aH} {k n : Nat} (hs : S 34 = false) : WP 86 G S (f + 1) 34 ls st h k n = (WP 86 G S f 36 ls (.int (-10) :: st) h k n) := by rw [wp_s dd_86_34 rfl hs]; rfl
theorem dd_86_36 : decode (mB 86) 36 = .ok (.iload_n 1, 1) := by decide +kernel
theorem u_86_36 {G : aG} {S : Nat → Bool} {f : Nat} {st : List Value} {ls : aL} {h : aH} {k n : Nat} (hs : S 36 = false) : WP 86 G S (f + 1) 36 ls st h k n = (oI (lget ls 1) (WP 86 G S f) 37 ls st h k n) := by rw [wp_s dd_86_36 rfl hs]; rfl
theorem dd_86_37 : decode (mB 86) 37 = .ok (.isub, 1) := by decide +kernel
theorem u_86_37 {G : aG} {S : Nat → Bool} {f : Nat} {st : List Value} {ls : aL} {h : aH} {k n : Nat} {x y : Int32} (hs : S 37 = false) : WP 86 G S (f + 1) 37 ls (.int y :: .int x :: st) h k n = (WP 86 G S f 38 ls (.int (x - y) :: st) h k n) := by rw [wp_s dd_86_37 rfl hs]; rfl
theorem dd_86_38 : decode (mB 86) 38 = .ok (.ireturn, 1) := by decide +kernel
theorem u_86_38 {G : aG} {S : Nat → Bool} {f : Nat} {ls : aL} {h : aH} {k n : Nat} {x : Int32} (hs : S 38 = false) : WP 86 G S (f + 1) 38 ls [.int x] h k n = (RET G (some (.int x)) h k n) := by rw [wp_s dd_86_38 rfl hs]; rfl
theorem dd_88_0 : decode (mB 88) 0 = .ok (.fload_n 0, 1) := by decide +kernel
theorem u_88_0 {G : aG} {S : Nat → Bool} {f : Nat} {st : List Value} {ls : aL} {h : aH} {k n : Nat} (hs : S 0 = false) : WP 88 G S (f + 1) 0 ls st h k n = (oF (lget ls 0) (WP 88 G S f) 1 ls st h k n) := by rw [wp_s dd_88_0 rfl hs]; rfl
theorem dd_88_1 : decode (mB 88) 1 = .ok (.fconst 0, 1) := by decide +kernel
theorem u_88_1 {G : aG} {S : Nat → Bool} {f : Nat} {st : List Value} {ls : aL} {h : aH} {k n : Nat} (hs : S 1 = false) : WP 88 G S (f + 1) 1 ls st h k n = (WP 88 G S f 2 ls (.float FP.fconst0 :: st) h k n) := by rw [wp_s dd_88_1 rfl hs]; rfl
theorem dd_88_2 : decode (mB 88) 2 = .ok (.fcmp .g, 1) := by decide +kernel
theorem u_88_2 {G : aG} {S : Nat → Bool} {f : Nat} {st : List Value} {ls : aL} {h : aH} {k n : Nat} {x y : UInt32} (hs : S 2 = false) : WP 88 G S (f + 1) 2 ls (.float y :: .float x :: st) h k n = (WP 88 G S f 3 ls (.int (Op.cmpValue (FP.fcmp x y) .g) :: st) h k n) := by rw [wp_s dd_88_2 rfl hs]; rfl
theorem dd_88_3 : decode (mB 88) 3 = .ok (.ifCond .le 9, 3) := by decide +kernel
theorem u_88_3 {G : aG} {S : Nat → Bool} {f : Nat} {st : List Value} {ls : aL} {h : aH} {k n : Nat} {x : Int32} (hs : S 3 = false) : WP 88 G S (f + 1) 3 ls (.int x :: st) h k n = (if x ≤ nI 0 then WP 88 G S f 12 ls st h k n else WP 88 G S f 6 ls st h k n) := by rw [wp_s dd_88_3 rfl hs]; exact br_ite (c := x ≤ nI 0)
theorem dd_88_6 : decode (mB 88) 6 = .ok (.fload_n 0, 1) := by decide +kernel
theorem u_88_6 {G : aG} {S : Nat → Bool} {f : Nat} {st : List Value} {ls : aL} {h : aH} {k n : Nat} (hs : S 6 = false) : WP 88 G S (f + 1) 6 ls st h k n = (oF (lget ls 0) (WP 88 G S f) 7 ls st h k n) := by rw [wp_s dd_88_6 rfl hs]; rfl
theorem dd_88_7 : decode (mB 88) 7 = .ok (.fconst 1, 1) := by decide +kernel
theorem u_88_7 {G : aG} {S : Nat → Bool} {f : Nat} {st : List Value} {ls : aL} {h : aH} {k n : Nat} (hs : S 7 = false) : WP 88 G S (f + 1) 7 ls st h k n = (WP 88 G S f 8 ls (.float FP.fconst1 :: st) h k n) := by rw [wp_s dd_88_7 rfl hs]; rfl
theorem dd_88_8 : decode (mB 88) 8 = .ok (.fcmp .l, 1) := by decide +kernel
theorem u_88_8 {G : aG} {S : Nat → Bool} {f : Nat} {st : List Value} {ls : aL} {h : aH} {k n : Nat} {x y : UInt32} (hs : S 8 = false) : WP 88 G S (f + 1) 8 ls (.float y :: .float x :: st) h k n = (WP 88 G S f 9 ls (.int (Op.cmpValue (FP.fcmp x y) .l) :: st) h k n) := by rw [wp_s dd_88_8 rfl hs]; rfl
theorem dd_88_9 : decode (mB 88) 9 = .ok (.ifCond .le 5, 3) := by decide +kernel
theorem u_88_9 {G : aG} {S : Nat → Bool} {f : Nat} {st : List Value} {ls : aL} {h : aH} {k n : Nat} {x : Int32} (hs : S 9 = false) : WP 88 G S (f + 1) 9 ls (.int x :: st) h k n = (if x ≤ nI 0 then WP 88 G S f 14 ls st h k n else WP 88 G S f 12 ls st h k n) := by rw [wp_s dd_88_9 rfl hs]; exact br_ite (c := x ≤ nI 0)
theorem dd_88_12 : decode (mB 88) 12 = .ok (.iconst 0, 1) := by decide +kernel
theorem u_88_12 {G : aG} {S : Nat → Bool} {f : Nat} {st : List Value} {ls : aL} {h : aH} {k n : Nat} (hs : S 12 = false) : WP 88 G S (f + 1) 12 ls st h k n = (WP 88 G S f 13 ls (.int (nI 0) :: st) h k n) := by rw [wp_s dd_88_12 rfl hs]; rfl
theorem dd_88_13 : decode (mB 88) 13 = .ok (.ireturn, 1) := by decide +kernel
theorem u_88_13 {G : aG} {S : Nat → Bool} {f : Nat} {ls : aL} {h : aH} {k n : Nat} {x : Int32} (hs : S 13 = false) : WP 88 G S (f + 1) 13 ls [.int x] h k n = (RET G (some (.int x)) h k n) := by rw [wp_s dd_88_13 rfl hs]; rfl
theorem dd_88_14 : decode (mB 88) 14 = .ok (.fload_n 0, 1) := by decide +kernel
theorem u_88_14 {G : aG} {S : Nat → Bool} {f : Nat} {st : List Value} {ls : aL} {h : aH} {k n : Nat} (hs : S 14 = false) : WP 88 G S (f + 1) 14 ls st h k n = (oF (lget ls 0) (WP 88 G S f) 15 ls st h k n) := by rw [wp_s dd_88_14 rfl hs]; rfl
theorem dd_88_15 : decode (mB 88) 15 = .ok (.fstore_n 1, 1) := by decide +kernel
theorem u_88_15 {G : aG} {S : Nat → Bool} {f : Nat} {st : List Value} {ls : aL} {h : aH} {k n : Nat} {x : UInt32} (hs : S 15 = false) : WP 88 G S (f + 1) 15 ls (.float x :: st) h k n = (WP 88 G S f 16 (lput1 ls 1 (.float x)) st h k n) := by rw [wp_s dd_88_15 rfl hs]; rfl
theorem dd_88_16 : decode (mB 88) 16 = .ok (.bipush 127, 2) := by decide +kernel
theorem u_88_16 {G : aG} {S : Nat → Bool} {f : Nat} {st : List Value} {ls : aL} {h : aH} {k n : Nat} (hs : S 16 = false) : WP 88 G S (f + 1) 16 ls st h k n = (WP 88 G S f 18 ls (.int (nI 127) :: st) h k n) := by rw [wp_s dd_88_16 rfl hs]; rfl
theorem dd_88_18 : decode (mB 88) 18 = .ok (.istore_n 2, 1) := by decide +kernel
theorem u_88_18 {G : aG} {S : Nat → Bool} {f : Nat} {st : List Value} {ls : aL} {h : aH} {k n : Nat} {x : Int32} (hs : S 18 = false) : WP 88 G S (f + 1) 18 ls (.int x :: st) h k n = (WP 88 G S f 19 (lput1 ls 2 (.int x)) st h k n) := by rw [wp_s dd_88_18 rfl hs]; rfl
theorem dd_88_19 : decode (mB 88) 19 = .ok (.fload_n 1, 1) := by decide +kernel
theorem u_88_19 {G : aG} {S : Nat → Bool} {f : Nat} {st : List Value} {ls : aL} {h : aH} {k n : Nat} (hs : S 19 = false) : WP 88 G S (f + 1) 19 ls st h k n = (oF (lget ls 1) (WP 88 G S f) 20 ls st h k n) := by rw [wp_s dd_88_19 rfl hs]; rfl
theorem v_88_19 {G : aG} {S : Nat → Bool} {f : Nat} {st : List Value} {ls : aL} {h : aH} {k n : Nat} : WQ 88 G S f 19 ls st h k n = (oF (lget ls 1) (WP 88 G S f) 20 ls st h k n) := by rw [wq_s dd_88_19 rfl]; rfl
theorem dd_88_20 : decode (mB 88) 20 = .ok (.fconst 1, 1) := by decide +kernel
theorem u_88_20 {G : aG} {S : Nat → Bool} {f : Nat} {st : List Value} {ls : aL} {h : aH} {k n : Nat} (hs : S 20 = false) : WP 88 G S (f + 1) 20 ls st h k n = (WP 88 G S f 21 ls (.float FP.fconst1 :: st) h k n) := by rw [wp_s dd_88_20 rfl hs]; rfl
theorem dd_88_21 : decode (mB 88) 21 = .ok (.fcmp .g, 1) := by decide +kernel
theorem u_88_21 {G : aG} {S : Nat → Bool} {f : Nat} {st : List Value} {ls : aL} {h : aH} {k n : Nat} {x y : UInt32} (hs : S 21 = false) : WP 88 G S (f + 1) 21 ls (.float y :: .float x :: st) h k n = (WP 88 G S f 22 ls (.int (Op.cmpValue (FP.fcmp x y) .g) :: st) h k n) := by rw [wp_s dd_88_21 rfl hs]; rfl
theorem dd_88_22 : decode (mB 88) 22 = .ok (.ifCond .ge 18, 3) := by decide +kernel
theorem u_88_22 {G : aG} {S : Nat → Bool} {f : Nat} {st : List Value} {ls : aL} {h : aH} {k n : Nat} {x : Int32} (hs : S 22 = false) : WP 88 G S (f + 1) 22 ls (.int x :: st) h k n = (if nI 0 ≤ x then WP 88 G S f 40 ls st h k n else WP 88 G S f 25 ls st h k n) := by rw [wp_s dd_88_22 rfl hs]; exact br_ite (c := nI 0 ≤ x)
theorem dd_88_25 : decode (mB 88) 25 = .ok (.iload_n 2, 1) := by decide +kernel
theorem u_88_25 {G : aG} {S : Nat → Bool} {f : Nat} {st : List Value} {ls : aL} {h : aH} {k n : Nat} (hs : S 25 = false) : WP 88 G S (f + 1) 25 ls st h k n = (oI (lget ls 2) (WP 88 G S f) 26 ls st h k n) := by rw [wp_s dd_88_25 rfl hs]; rfl
theorem dd_88_26 : decode (mB 88) 26 = .ok (.iconst 1, 1) := by decide +kernel
theorem u_88_26 {G : aG} {S : Nat → Bool} {f : Nat} {st : List Value} {ls : aL} {h : aH} {k n : Nat} (hs : S 26 = false) : WP 88 G S (f + 1) 26 ls st h k n = (WP 88 G S f 27 ls (.int (nI 1) :: st) h k n) := by rw [wp_s dd_88_26 rfl hs]; rfl
theorem dd_88_27 : decode (mB 88) 27 = .ok (.if_icmp .le 13, 3) := by decide +kernel
theorem u_88_27 {G : aG} {S : Nat → Bool} {f : Nat} {st : List Value} {ls : aL} {h : aH} {k n : Nat} {x y : Int32} (hs : S 27 = false) : WP 88 G S (f + 1) 27 ls (.int y :: .int x :: st) h k n = (if x ≤ y then WP 88 G S f 40 ls st h k n else WP 88 G S f 30 ls st h k n) := by rw [wp_s dd_88_27 rfl hs]; exact br_ite (c := x ≤ y)
theorem dd_88_30 : decode (mB 88) 30 = .ok (.fload_n 1, 1) := by decide +kernel
theorem u_88_30 {G : aG} {S : Nat → Bool} {f : Nat} {st : List Value} {ls : aL} {h : aH} {k n : Nat} (hs : S 30 = false) : WP 88 G S (f + 1) 30 ls st h k n = (oF (lget ls 1) (WP 88 G S f) 31 ls st h k n) := by rw [wp_s dd_88_30 rfl hs]; rfl
theorem dd_88_31 : decode (mB 88) 31 = .ok (.fconst 2, 1) := by decide +kernel
theorem u_88_31 {G : aG} {S : Nat → Bool} {f : Nat} {st : List Value} {ls : aL} {h : aH} {k n : Nat} (hs : S 31 = false) : WP 88 G S (f + 1) 31 ls st h k n = (WP 88 G S f 32 ls (.float FP.fconst2 :: st) h k n) := by rw [wp_s dd_88_31 rfl hs]; rfl
theorem dd_88_32 : decode (mB 88) 32 = .ok (.fmul, 1) := by decide +kernel
theorem u_88_32 {G : aG} {S : Nat → Bool} {f : Nat} {st : List Value} {ls : aL} {h : aH} {k n : Nat} {x y : UInt32} (hs : S 32 = false) : WP 88 G S (f + 1) 32 ls (.float y :: .float x :: st) h k n = (vf_n32 (FP.fmul x y) ∧ WP 88 G S f 33 ls (.float (FP.fmul x y) :: st) h k n) := by rw [wp_s dd_88_32 rfl hs]; rfl
theorem dd_88_33 : decode (mB 88) 33 = .ok (.fstore_n 1, 1) := by decide +kernel
theorem u_88_33 {G : aG} {S : Nat → Bool} {f : Nat} {st : List Value} {ls : aL} {h : aH} {k n : Nat} {x : UInt32} (hs : S 33 = false) : WP 88 G S (f + 1) 33 ls (.float x :: st) h k n = (WP 88 G S f 34 (lput1 ls 1 (.float x)) st h k n) := by rw [wp_s dd_88_33 rfl hs]; rfl
theorem dd_88_34 : decode (mB 88) 34 = .ok (.iinc 2 (-1), 3) := by decide +kernel
theorem u_88_34 {G : aG} {S : Nat → Bool} {f : Nat} {st : List Value} {ls : aL} {h : aH} {k n : Nat} (hs : S 34 = false) : WP 88 G S (f + 1) 34 ls st h k n = (oInc (lget ls 2) (-1) (WP 88 G S f) 2 37 ls st h k n) := by rw [wp_s dd_88_34 rfl hs]; rfl
theorem dd_88_37 : decode (mB 88) 37 = .ok (.goto (-18), 3) := by decide +kernel
theorem u_88_37 {G : aG} {S : Nat → Bool} {f : Nat} {st : List Value} {ls : aL} {h : aH} {k n : Nat} (hs : S 37 = false) : WP 88 G S (f + 1) 37 ls st h k n = (WP 88 G S f 19 ls st h k n) := by rw [wp_s dd_88_37 rfl hs]; rfl
theorem dd_88_40 : decode (mB 88) 40 = .ok (.iload_n 2, 1) := by decide +kernel
theorem u_88_40 {G : aG} {S : Nat → Bool} {f : Nat} {st : List Value} {ls : aL} {h : aH} {k n : Nat} (hs : S 40 = false) : WP 88 G S (f + 1) 40 ls st h k n = (oI (lget ls 2) (WP 88 G S f) 41 ls st h k n) := by rw [wp_s dd_88_40 rfl hs]; rfl
theorem dd_88_41 : decode (mB 88) 41 = .ok (.bipush 23, 2) := by decide +kernel
theorem u_88_41 {G : aG} {S : Nat → Bool} {f : Nat} {st : List Value} {ls : aL} {h : aH} {k n : Nat} (hs : S 41 = false) : WP 88 G S (f + 1) 41 ls st h k n = (WP 88 G S f 43 ls (.int (nI 23) :: st) h k n) := by rw [wp_s dd_88_41 rfl hs]; rfl
theorem dd_88_43 : decode (mB 88) 43 = .ok (.ishl, 1) := by decide +kernel
theorem u_88_43 {G : aG} {S : Nat → Bool} {f : Nat} {st : List Value} {ls : aL} {h : aH} {k n : Nat} {x y : Int32} (hs : S 43 = false) : WP 88 G S (f + 1) 43 ls (.int y :: .int x :: st) h k n = (WP 88 G S f 44 ls (.int (x <<< (y &&& 31)) :: st) h k n) := by rw [wp_s dd_88_43 rfl hs]; rfl
theorem dd_88_44 : decode (mB 88) 44 = .ok (.fload_n 1, 1) := by decide +kernel
theorem u_88_44 {G : aG} {S : Nat → Bool} {f : Nat} {st : List Value} {ls : aL} {h : aH} {k n : Nat} (hs : S 44 = false) : WP 88 G S (f + 1) 44 ls st h k n = (oF (lget ls 1) (WP 88 G S f) 45 ls st h k n) := by rw [wp_s dd_88_44 rfl hs]; rfl
theorem dd_88_45 : decode (mB 88) 45 = .ok (.fconst 1, 1) := by decide +kernel
theorem u_88_45 {G : aG} {S : Nat → Bool} {f : Nat} {st : List Value} {ls : aL} {h : aH} {k n : Nat} (hs : S 45 = false) : WP 88 G S (f + 1) 45 ls st h k n = (WP 88 G S f 46 ls (.float FP.fconst1 :: st) h k n) := by rw [wp_s dd_88_45 rfl hs]; rfl
theorem dd_88_46 : decode (mB 88) 46 = .ok (.fsub, 1) := by decide +kernel
theorem u_88_46 {G : aG} {S : Nat → Bool} {f : Nat} {st : List Value} {ls : aL} {h : aH} {k n : Nat} {x y : UInt32} (hs : S 46 = false) : WP 88 G S (f + 1) 46 ls (.float y :: .float x :: st) h k n = (vf_n32 (FP.fsub x y) ∧ WP 88 G S f 47 ls (.float (FP.fsub x y) :: st) h k n) := by rw [wp_s dd_88_46 rfl hs]; rfl
theorem dd_88_47 : decode (mB 88) 47 = .ok (.ldc 203, 2) := by decide +kernel
theorem u_88_47 {G : aG} {S : Nat → Bool} {f : Nat} {st : List Value} {ls : aL} {h : aH} {k n : Nat} (hs : S 47 = false) : WP 88 G S (f + 1) 47 ls st h k n = (WP 88 G S f 49 ls (.float 1258291200 :: st) h k n) := by rw [wp_s dd_88_47 rfl hs]; rfl
theorem dd_88_49 : decode (mB 88) 49 = .ok (.fmul, 1) := by decide +kernel
theorem u_88_49 {G : aG} {S : Nat → Bool} {f : Nat} {st : List Value} {ls : aL} {h : aH} {k n : Nat} {x y : UInt32} (hs : S 49 = false) : WP 88 G S (f + 1) 49 ls (.float y :: .float x :: st) h k n = (vf_n32 (FP.fmul x y) ∧ WP 88 G S f 50 ls (.float (FP.fmul x y) :: st) h k n) := by rw [wp_s dd_88_49 rfl hs]; rfl
theorem dd_88_50 : decode (mB 88) 50 = .ok (.f2i, 1) := by decide +kernel
theorem u_88_50 {G : aG} {S : Nat → Bool} {f : Nat} {st : List Value} {ls : aL} {h : aH} {k n : Nat} {x : UInt32} (hs : S 50 = false) : WP 88 G S (f + 1) 50 ls (.float x :: st) h k n = (WP 88 G S f 51 ls (.int (FP.f2i x) :: st) h k n) := by rw [wp_s dd_88_50 rfl hs]; rfl
theorem dd_88_51 : decode (mB 88) 51 = .ok (.ior, 1) := by decide +kernel
theorem u_88_51 {G : aG} {S : Nat → Bool} {f : Nat} {st : List Value} {ls : aL} {h : aH} {k n : Nat} {x y : Int32} (hs : S 51 = false) : WP 88 G S (f + 1) 51 ls (.int y :: .int x :: st) h k n = (WP 88 G S f 52 ls (.int (x ||| y) :: st) h k n) := by rw [wp_s dd_88_51 rfl hs]; rfl
theorem dd_88_52 : decode (mB 88) 52 = .ok (.ireturn, 1) := by decide +kernel
theorem u_88_52 {G : aG} {S : Nat → Bool} {f : Nat} {ls : aL} {h : aH} {k n : Nat} {x : Int32} (hs : S 52 = false) : WP 88 G S (f + 1) 52 ls [.int x] h k n = (RET G (some (.int x)) h k n) := by rw [wp_s dd_88_52 rfl hs]; rfl
theorem dd_89_0 : decode (mB 89) 0 = .ok (.iload_n 1, 1) := by decide +kernel
theorem u_89_0 {G : aG} {S : Nat → Bool} {f : Nat} {st : List Value} {ls : aL} {h : aH} {k n : Nat} (hs : S 0 = false) : WP 89 G S (f + 1) 0 ls st h k n = (oI (lget ls 1) (WP 89 G S f) 1 ls st h k n) := by rw [wp_s dd_89_0 rfl hs]; rfl
theorem dd_89_1 : decode (mB 89) 1 = .ok (.invokestatic 96, 3) := by decide +kernel
theorem u_89_1 {G : aG} {S : Nat → Bool} {f : Nat} {st : List Value} {ls : aL} {h : aH} {k n : Nat} {v1 : Value} (hs : S 1 = false) : WP 89 G S (f + 1) 1 ls (v1 :: st) h k n = (CAL G (WP 89 G S f) 51 [v1] 4 ls st h k n) := by rw [wp_s dd_89_1 rfl hs]; rfl
theorem dd_89_4 : decode (mB 89) 4 = .ok (.ifCond .ne 10, 3) := by decide +kernel
theorem u_89_4 {G : aG} {S : Nat → Bool} {f : Nat} {st : List Value} {ls : aL} {h : aH} {k n : Nat} {x : Int32} (hs : S 4 = false) : WP 89 G S (f + 1) 4 ls (.int x :: st) h k n = (if x = nI 0 then WP 89 G S f 7 ls st h k n else WP 89 G S f 14 ls st h k n) := by rw [wp_s dd_89_4 rfl hs]; exact br_iten (c := x = nI 0)
theorem dd_89_7 : decode (mB 89) 7 = .ok (.aload_n 0, 1) := by decide +kernel
theorem u_89_7 {G : aG} {S : Nat → Bool} {f : Nat} {st : List Value} {ls : aL} {h : aH} {k n : Nat} (hs : S 7 = false) : WP 89 G S (f + 1) 7 ls st h k n = (oA (lget ls 0) (WP 89 G S f) 8 ls st h k n) := by rw [wp_s dd_89_7 rfl hs]; rfl
theorem dd_89_8 : decode (mB 89) 8 = .ok (.bipush (-2), 2) := by decide +kernel
theorem u_89_8 {G : aG} {S : Nat → Bool} {f : Nat} {st : List Value} {ls : aL} {h : aH} {k n : Nat} (hs : S 8 = false) : WP 89 G S (f + 1) 8 ls st h k n = (WP 89 G S f 10 ls (.int (-2) :: st) h k n) := by rw [wp_s dd_89_8 rfl hs]; rfl
theorem dd_89_10 : decode (mB 89) 10 = .ok (.invokevirtual 58, 3) := by decide +kernel
theorem u_89_10 {G : aG} {S : Nat → Bool} {f : Nat} {st : List Value} {ls : aL} {h : aH} {k n : Nat} {v1 : Value} {b : Nat} (hs : S 10 = false) : WP 89 G S (f + 1) 10 ls (v1 :: .ref b :: st) h k n = (rcv (hget h b) 9 ∧ CAL G (WP 89 G S f) 33 [.ref b, v1] 13 ls st h k n) := by rw [wp_s dd_89_10 rfl hs]; rfl
theorem dd_89_13 : decode (mB 89) 13 = .ok (.ireturn, 1) := by decide +kernel
theorem u_89_13 {G : aG} {S : Nat → Bool} {f : Nat} {ls : aL} {h : aH} {k n : Nat} {x : Int32} (hs : S 13 = false) : WP 89 G S (f + 1) 13 ls [.int x] h k n = (RET G (some (.int x)) h k n) := by rw [wp_s dd_89_13 rfl hs]; rfl
theorem dd_89_14 : decode (mB 89) 14 = .ok (.aload_n 0, 1) := by decide +kernel
theorem u_89_14 {G : aG} {S : Nat → Bool} {f : Nat} {st : List Value} {ls : aL} {h : aH} {k n : Nat} (hs : S 14 = false) : WP 89 G S (f + 1) 14 ls st h k n = (oA (lget ls 0) (WP 89 G S f) 15 ls st h k n) := by rw [wp_s dd_89_14 rfl hs]; rfl
theorem dd_89_15 : decode (mB 89) 15 = .ok (.getfield 26, 3) := by decide +kernel
theorem u_89_15 {G : aG} {S : Nat → Bool} {f : Nat} {st : List Value} {ls : aL} {h : aH} {k n : Nat} {a : Nat} (hs : S 15 = false) : WP 89 G S (f + 1) 15 ls (.ref a :: st) h k n = (oV (fget h a 9 2) (WP 89 G S f) 18 ls st h k n) := by rw [wp_s dd_89_15 rfl hs]; rfl
theorem dd_89_18 : decode (mB 89) 18 = .ok (.aload_n 0, 1) := by decide +kernel
theorem u_89_18 {G : aG} {S : Nat → Bool} {f : Nat} {st : List Value} {ls : aL} {h : aH} {k n : Nat} (hs : S 18 = false) : WP 89 G S (f + 1) 18 ls st h k n = (oA (lget ls 0) (WP 89 G S f) 19 ls st h k n) := by rw [wp_s dd_89_18 rfl hs]; rfl
theorem dd_89_19 : decode (mB 89) 19 = .ok (.getfield 19, 3) := by decide +kernel
theorem u_89_19 {G : aG} {S : Nat → Bool} {f : Nat} {st : List Value} {ls : aL} {h : aH} {k n : Nat} {a : Nat} (hs : S 19 = false) : WP 89 G S (f + 1) 19 ls (.ref a :: st) h k n = (oV (fget h a 9 1) (WP 89 G S f) 22 ls st h k n) := by rw [wp_s dd_89_19 rfl hs]; rfl
theorem dd_89_22 : decode (mB 89) 22 = .ok (.invokevirtual 78, 3) := by decide +kernel
theorem u_89_22 {G : aG} {S : Nat → Bool} {f : Nat} {st : List Value} {ls : aL} {h : aH} {k n : Nat} {v1 : Value} {b : Nat} (hs : S 22 = false) : WP 89 G S (f + 1) 22 ls (v1 :: .ref b :: st) h k n = (rcv (hget h b) 4 ∧ CAL G (WP 89 G S f) 52 [.ref b, v1] 25 ls st h k n) := by rw [wp_s dd_89_22 rfl hs]; rfl
theorem dd_89_25 : decode (mB 89) 25 = .ok (.aload_n 0, 1) := by decide +kernel
theorem u_89_25 {G : aG} {S : Nat → Bool} {f : Nat} {st : List Value} {ls : aL} {h : aH} {k n : Nat} (hs : S 25 = false) : WP 89 G S (f + 1) 25 ls st h k n = (oA (lget ls 0) (WP 89 G S f) 26 ls st h k n) := by rw [wp_s dd_89_25 rfl hs]; rfl
theorem dd_89_26 : decode (mB 89) 26 = .ok (.getfield 19, 3) := by decide +kernel
theorem u_89_26 {G : aG} {S : Nat → Bool} {f : Nat} {st : List Value} {ls : aL} {h : aH} {k n : Nat} {a : Nat} (hs : S 26 = false) : WP 89 G S (f + 1) 26 ls (.ref a :: st) h k n = (oV (fget h a 9 1) (WP 89 G S f) 29 ls st h k n) := by rw [wp_s dd_89_26 rfl hs]; rfl
theorem dd_89_29 : decode (mB 89) 29 = .ok (.iload_n 1, 1) := by decide +kernel
theorem u_89_29 {G : aG} {S : Nat → Bool} {f : Nat} {st : List Value} {ls : aL} {h : aH} {k n : Nat} (hs : S 29 = false) : WP 89 G S (f + 1) 29 ls st h k n = (oI (lget ls 1) (WP 89 G S f) 30 ls st h k n) := by rw [wp_s dd_89_29 rfl hs]; rfl
theorem dd_89_30 : decode (mB 89) 30 = .ok (.invokevirtual 89, 3) := by decide +kernel
theorem u_89_30 {G : aG} {S : Nat → Bool} {f : Nat} {st : List Value} {ls : aL} {h : aH} {k n : Nat} {v1 : Value} {b : Nat} (hs : S 30 = false) : WP 89 G S (f + 1) 30 ls (v1 :: .ref b :: st) h k n = (rcv (hget h b) 7 ∧ CAL G (WP 89 G S f) 54 [.ref b, v1] 33 ls st h k n) := by rw [wp_s dd_89_30 rfl hs]; rfl
theorem dd_89_33 : decode (mB 89) 33 = .ok (.aload_n 0, 1) := by decide +kernel
theorem u_89_33 {G : aG} {S : Nat → Bool} {f : Nat} {st : List Value} {ls : aL} {h : aH} {k n : Nat} (hs : S 33 = false) : WP 89 G S (f + 1) 33 ls st h k n = (oA (lget ls 0) (WP 89 G S f) 34 ls st h k n) := by rw [wp_s dd_89_33 rfl hs]; rfl
theorem dd_89_34 : decode (mB 89) 34 = .ok (.iconst 0, 1) := by decide +kernel
theorem u_89_34 {G : aG} {S : Nat → Bool} {f : Nat} {st : List Value} {ls : aL} {h : aH} {k n : Nat} (hs : S 34 = false) : WP 89 G S (f + 1) 34 ls st h k n = (WP 89 G S f 35 ls (.int (nI 0) :: st) h k n) := by rw [wp_s dd_89_34 rfl hs]; rfl
theorem dd_89_35 : decode (mB 89) 35 = .ok (.invokevirtual 128, 3) := by decide +kernel
theorem u_89_35 {G : aG} {S : Nat → Bool} {f : Nat} {st : List Value} {ls : aL} {h : aH} {k n : Nat} {v1 : Value} {b : Nat} (hs : S 35 = false) : WP 89 G S (f + 1) 35 ls (v1 :: .ref b :: st) h k n = (rcv (hget h b) 9 ∧ CAL G (WP 89 G S f) 90 [.ref b, v1] 38 ls st h k n) := by rw [wp_s dd_89_35 rfl hs]; rfl
theorem dd_89_38 : decode (mB 89) 38 = .ok (.ireturn, 1) := by decide +kernel
theorem u_89_38 {G : aG} {S : Nat → Bool} {f : Nat} {ls : aL} {h : aH} {k n : Nat} {x : Int32} (hs : S 38 = false) : WP 89 G S (f + 1) 38 ls [.int x] h k n = (RET G (some (.int x)) h k n) := by rw [wp_s dd_89_38 rfl hs]; rfl
theorem dd_90_0 : decode (mB 90) 0 = .ok (.iload_n 1, 1) := by decide +kernel
theorem u_90_0 {G : aG} {S : Nat → Bool} {f : Nat} {st : List Value} {ls : aL} {h : aH} {k n : Nat} (hs : S 0 = false) : WP 90 G S (f + 1) 0 ls st h k n = (oI (lget ls 1) (WP 90 G S f) 1 ls st h k n) := by rw [wp_s dd_90_0 rfl hs]; rfl
theorem dd_90_1 : decode (mB 90) 1 = .ok (.iconst 2, 1) := by decide +kernel
theorem u_90_1 {G : aG} {S : Nat → Bool} {f : Nat} {st : List Value} {ls : aL} {h : aH} {k n : Nat} (hs : S 1 = false) : WP 90 G S (f + 1) 1 ls st h k n = (WP 90 G S f 2 ls (.int (nI 2) :: st) h k n) := by rw [wp_s dd_90_1 rfl hs]; rfl
theorem dd_90_2 : decode (mB 90) 2 = .ok (.if_icmp .ne 11, 3) := by decide +kernel
theorem u_90_2 {G : aG} {S : Nat → Bool} {f : Nat} {st : List Value} {ls : aL} {h : aH} {k n : Nat} {x y : Int32} (hs : S 2 = false) : WP 90 G S (f + 1) 2 ls (.int y :: .int x :: st) h k n = (if x = y then WP 90 G S f 5 ls st h k n else WP 90 G S f 13 ls st h k n) := by rw [wp_s dd_90_2 rfl hs]; exact br_iten (c := x = y)
theorem dd_90_5 : decode (mB 90) 5 = .ok (.aload_n 0, 1) := by decide +kernel
theorem u_90_5 {G : aG} {S : Nat → Bool} {f : Nat} {st : List Value} {ls : aL} {h : aH} {k n : Nat} (hs : S 5 = false) : WP 90 G S (f + 1) 5 ls st h k n = (oA (lget ls 0) (WP 90 G S f) 6 ls st h k n) := by rw [wp_s dd_90_5 rfl hs]; rfl
theorem dd_90_6 : decode (mB 90) 6 = .ok (.getfield 19, 3) := by decide +kernel
theorem u_90_6 {G : aG} {S : Nat → Bool} {f : Nat} {st : List Value} {ls : aL} {h : aH} {k n : Nat} {a : Nat} (hs : S 6 = false) : WP 90 G S (f + 1) 6 ls (.ref a :: st) h k n = (oV (fget h a 9 1) (WP 90 G S f) 9 ls st h k n) := by rw [wp_s dd_90_6 rfl hs]; rfl
theorem dd_90_9 : decode (mB 90) 9 = .ok (.getfield 131, 3) := by decide +kernel
theorem u_90_9 {G : aG} {S : Nat → Bool} {f : Nat} {st : List Value} {ls : aL} {h : aH} {k n : Nat} {a : Nat} (hs : S 9 = false) : WP 90 G S (f + 1) 9 ls (.ref a :: st) h k n = (oV (fget h a 7 2) (WP 90 G S f) 12 ls st h k n) := by rw [wp_s dd_90_9 rfl hs]; rfl
theorem dd_90_12 : decode (mB 90) 12 = .ok (.ireturn, 1) := by decide +kernel
theorem u_90_12 {G : aG} {S : Nat → Bool} {f : Nat} {ls : aL} {h : aH} {k n : Nat} {x : Int32} (hs : S 12 = false) : WP 90 G S (f + 1) 12 ls [.int x] h k n = (RET G (some (.int x)) h k n) := by rw [wp_s dd_90_12 rfl hs]; rfl
theorem dd_90_13 : decode (mB 90) 13 = .ok (.iload_n 1, 1) := by decide +kernel
theorem u_90_13 {G : aG} {S : Nat → Bool} {f : Nat} {st : List Value} {ls : aL} {h : aH} {k n : Nat} (hs : S 13 = false) : WP 90 G S (f + 1) 13 ls st h k n = (oI (lget ls 1) (WP 90 G S f) 14 ls st h k n) := by rw [wp_s dd_90_13 rfl hs]; rfl
theorem dd_90_14 : decode (mB 90) 14 = .ok (.iconst 3, 1) := by decide +kernel
theorem u_90_14 {G : aG} {S : Nat → Bool} {f : Nat} {st : List Value} {ls : aL} {h : aH} {k n : Nat} (hs : S 14 = false) : WP 90 G S (f + 1) 14 ls st h k n = (WP 90 G S f 15 ls (.int (nI 3) :: st) h k n) := by rw [wp_s dd_90_14 rfl hs]; rfl
theorem dd_90_15 : decode (mB 90) 15 = .ok (.if_icmp .ne 11, 3) := by decide +kernel
theorem u_90_15 {G : aG} {S : Nat → Bool} {f : Nat} {st : List Value} {ls : aL} {h : aH} {k n : Nat} {x y : Int32} (hs : S 15 = false) : WP 90 G S (f + 1) 15 ls (.int y :: .int x :: st) h k n = (if x = y then WP 90 G S f 18 ls st h k n else WP 90 G S f 26 ls st h k n) := by rw [wp_s dd_90_15 rfl hs]; exact br_iten (c := x = y)
theorem dd_90_18 : decode (mB 90) 18 = .ok (.aload_n 0, 1) := by decide +kernel
theorem u_90_18 {G : aG} {S : Nat → Bool} {f : Nat} {st : List Value} {ls : aL} {h : aH} {k n : Nat} (hs : S 18 = false) : WP 90 G S (f + 1) 18 ls st h k n = (oA (lget ls 0) (WP 90 G S f) 19 ls st h k n) := by rw [wp_s dd_90_18 rfl hs]; rfl
theorem dd_90_19 : decode (mB 90) 19 = .ok (.getfield 19, 3) := by decide +kernel
theorem u_90_19 {G : aG} {S : Nat → Bool} {f : Nat} {st : List Value} {ls : aL} {h : aH} {k n : Nat} {a : Nat} (hs : S 19 = false) : WP 90 G S (f + 1) 19 ls (.ref a :: st) h k n = (oV (fget h a 9 1) (WP 90 G S f) 22 ls st h k n) := by rw [wp_s dd_90_19 rfl hs]; rfl
theorem dd_90_22 : decode (mB 90) 22 = .ok (.getfield 176, 3) := by decide +kernel
theorem u_90_22 {G : aG} {S : Nat → Bool} {f : Nat} {st : List Value} {ls : aL} {h : aH} {k n : Nat} {a : Nat} (hs : S 22 = false) : WP 90 G S (f + 1) 22 ls (.ref a :: st) h k n = (oV (fget h a 7 3) (WP 90 G S f) 25 ls st h k n) := by rw [wp_s dd_90_22 rfl hs]; rfl
theorem dd_90_25 : decode (mB 90) 25 = .ok (.ireturn, 1) := by decide +kernel
theorem u_90_25 {G : aG} {S : Nat → Bool} {f : Nat} {ls : aL} {h : aH} {k n : Nat} {x : Int32} (hs : S 25 = false) : WP 90 G S (f + 1) 25 ls [.int x] h k n = (RET G (some (.int x)) h k n) := by rw [wp_s dd_90_25 rfl hs]; rfl
theorem dd_90_26 : decode (mB 90) 26 = .ok (.aload_n 0, 1) := by decide +kernel
theorem u_90_26 {G : aG} {S : Nat → Bool} {f : Nat} {st : List Value} {ls : aL} {h : aH} {k n : Nat} (hs : S 26 = false) : WP 90 G S (f + 1) 26 ls st h k n = (oA (lget ls 0) (WP 90 G S f) 27 ls st h k n) := by rw [wp_s dd_90_26 rfl hs]; rfl
theorem dd_90_27 : decode (mB 90) 27 = .ok (.getfield 40, 3) := by decide +kernel
theorem u_90_27 {G : aG} {S : Nat → Bool} {f : Nat} {st : List Value} {ls : aL} {h : aH} {k n : Nat} {a : Nat} (hs : S 27 = false) : WP 90 G S (f + 1) 27 ls (.ref a :: st) h k n = (oV (fget h a 9 4) (WP 90 G S f) 30 ls st h k n) := by rw [wp_s dd_90_27 rfl hs]; rfl
theorem dd_90_30 : decode (mB 90) 30 = .ok (.aload_n 0, 1) := by decide +kernel
theorem u_90_30 {G : aG} {S : Nat → Bool} {f : Nat} {st : List Value} {ls : aL} {h : aH} {k n : Nat} (hs : S 30 = false) : WP 90 G S (f + 1) 30 ls st h k n = (oA (lget ls 0) (WP 90 G S f) 31 ls st h k n) := by rw [wp_s dd_90_30 rfl hs]; rfl
theorem dd_90_31 : decode (mB 90) 31 = .ok (.getfield 19, 3) := by decide +kernel
theorem u_90_31 {G : aG} {S : Nat → Bool} {f : Nat} {st : List Value} {ls : aL} {h : aH} {k n : Nat} {a : Nat} (hs : S 31 = false) : WP 90 G S (f + 1) 31 ls (.ref a :: st) h k n = (oV (fget h a 9 1) (WP 90 G S f) 34 ls st h k n) := by rw [wp_s dd_90_31 rfl hs]; rfl
theorem dd_90_34 : decode (mB 90) 34 = .ok (.getfield 176, 3) := by decide +kernel
theorem u_90_34 {G : aG} {S : Nat → Bool} {f : Nat} {st : List Value} {ls : aL} {h : aH} {k n : Nat} {a : Nat} (hs : S 34 = false) : WP 90 G S (f + 1) 34 ls (.ref a :: st) h k n = (oV (fget h a 7 3) (WP 90 G S f) 37 ls st h k n) := by rw [wp_s dd_90_34 rfl hs]; rfl
theorem dd_90_37 : decode (mB 90) 37 = .ok (.invokevirtual 102, 3) := by decide +kernel
theorem u_90_37 {G : aG} {S : Nat → Bool} {f : Nat} {st : List Value} {ls : aL} {h : aH} {k n : Nat} {v1 : Value} {b : Nat} (hs : S 37 = false) : WP 90 G S (f + 1) 37 ls (v1 :: .ref b :: st) h k n = (rcv (hget h b) 3 ∧ CAL G (WP 90 G S f) 58 [.ref b, v1] 40 ls st h k n) := by rw [wp_s dd_90_37 rfl hs]; rfl
theorem dd_90_40 : decode (mB 90) 40 = .ok (.astore_n 2, 1) := by decide +kernel
theorem u_90_40 {G : aG} {S : Nat → Bool} {f : Nat} {st : List Value} {ls : aL} {h : aH} {k n : Nat} {x : Nat} (hs : S 40 = false) : WP 90 G S (f + 1) 40 ls (.ref x :: st) h k n = (WP 90 G S f 41 (lput1 ls 2 (.ref x)) st h k n) := by rw [wp_s dd_90_40 rfl hs]; rfl
theorem dd_90_41 : decode (mB 90) 41 = .ok (.aload_n 0, 1) := by decide +kernel
theorem u_90_41 {G : aG} {S : Nat → Bool} {f : Nat} {st : List Value} {ls : aL} {h : aH} {k n : Nat} (hs : S 41 = false) : WP 90 G S (f + 1) 41 ls st h k n = (oA (lget ls 0) (WP 90 G S f) 42 ls st h k n) := by rw [wp_s dd_90_41 rfl hs]; rfl
theorem dd_90_42 : decode (mB 90) 42 = .ok (.getfield 19, 3) := by decide +kernel
theorem u_90_42 {G : aG} {S : Nat → Bool} {f : Nat} {st : List Value} {ls : aL} {h : aH} {k n : Nat} {a : Nat} (hs : S 42 = false) : WP 90 G S (f + 1) 42 ls (.ref a :: st) h k n = (oV (fget h a 9 1) (WP 90 G S f) 45 ls st h k n) := by rw [wp_s dd_90_42 rfl hs]; rfl
theorem dd_90_45 : decode (mB 90) 45 = .ok (.aload_n 2, 1) := by decide +kernel
theorem u_90_45 {G : aG} {S : Nat → Bool} {f : Nat} {st : List Value} {ls : aL} {h : aH} {k n : Nat} (hs : S 45 = false) : WP 90 G S (f + 1) 45 ls st h k n = (oA (lget ls 2) (WP 90 G S f) 46 ls st h k n) := by rw [wp_s dd_90_45 rfl hs]; rfl
theorem dd_90_46 : decode (mB 90) 46 = .ok (.invokevirtual 179, 3) := by decide +kernel
theorem u_90_46 {G : aG} {S : Nat → Bool} {f : Nat} {st : List Value} {ls : aL} {h : aH} {k n : Nat} {v1 : Value} {b : Nat} (hs : S 46 = false) : WP 90 G S (f + 1) 46 ls (v1 :: .ref b :: st) h k n = (rcv (hget h b) 7 ∧ CAL G (WP 90 G S f) 91 [.ref b, v1] 49 ls st h k n) := by rw [wp_s dd_90_46 rfl hs]; rfl
theorem dd_90_49 : decode (mB 90) 49 = .ok (.istore_n 3, 1) := by decide +kernel
theorem u_90_49 {G : aG} {S : Nat → Bool} {f : Nat} {st : List Value} {ls : aL} {h : aH} {k n : Nat} {x : Int32} (hs : S 49 = false) : WP 90 G S (f + 1) 49 ls (.int x :: st) h k n = (WP 90 G S f 50 (lput1 ls 3 (.int x)) st h k n) := by rw [wp_s dd_90_49 rfl hs]; rfl
theorem dd_90_50 : decode (mB 90) 50 = .ok (.iload_n 1, 1) := by decide +kernel
theorem u_90_50 {G : aG} {S : Nat → Bool} {f : Nat} {st : List Value} {ls : aL} {h : aH} {k n : Nat} (hs : S 50 = false) : WP 90 G S (f + 1) 50 ls st h k n = (oI (lget ls 1) (WP 90 G S f) 51 ls st h k n) := by rw [wp_s dd_90_50 rfl hs]; rfl
theorem dd_90_51 : decode (mB 90) 51 = .ok (.iconst 1, 1) := by decide +kernel
theorem u_90_51 {G : aG} {S : Nat → Bool} {f : Nat} {st : List Value} {ls : aL} {h : aH} {k n : Nat} (hs : S 51 = false) : WP 90 G S (f + 1) 51 ls st h k n = (WP 90 G S f 52 ls (.int (nI 1) :: st) h k n) := by rw [wp_s dd_90_51 rfl hs]; rfl
theorem dd_90_52 : decode (mB 90) 52 = .ok (.if_icmp .ne 17, 3) := by decide +kernel
theorem u_90_52 {G : aG} {S : Nat → Bool} {f : Nat} {st : List Value} {ls : aL} {h : aH} {k n : Nat} {x y : Int32} (hs : S 52 = false) : WP 90 G S (f + 1) 52 ls (.int y :: .int x :: st) h k n = (if x = y then WP 90 G S f 55 ls st h k n else WP 90 G S f 69 ls st h k n) := by rw [wp_s dd_90_52 rfl hs]; exact br_iten (c := x = y)
theorem dd_90_55 : decode (mB 90) 55 = .ok (.aload_n 2, 1) := by decide +kernel
theorem u_90_55 {G : aG} {S : Nat → Bool} {f : Nat} {st : List Value} {ls : aL} {h : aH} {k n : Nat} (hs : S 55 = false) : WP 90 G S (f + 1) 55 ls st h k n = (oA (lget ls 2) (WP 90 G S f) 56 ls st h k n) := by rw [wp_s dd_90_55 rfl hs]; rfl
theorem dd_90_56 : decode (mB 90) 56 = .ok (.iload_n 3, 1) := by decide +kernel
theorem u_90_56 {G : aG} {S : Nat → Bool} {f : Nat} {st : List Value} {ls : aL} {h : aH} {k n : Nat} (hs : S 56 = false) : WP 90 G S (f + 1) 56 ls st h k n = (oI (lget ls 3) (WP 90 G S f) 57 ls st h k n) := by rw [wp_s dd_90_56 rfl hs]; rfl
theorem dd_90_57 : decode (mB 90) 57 = .ok (.invokevirtual 183, 3) := by decide +kernel
theorem u_90_57 {G : aG} {S : Nat → Bool} {f : Nat} {st : List Value} {ls : aL} {h : aH} {k n : Nat} {v1 : Value} {b : Nat} (hs : S 57 = false) : WP 90 G S (f + 1) 57 ls (v1 :: .ref b :: st) h k n = (rcv (hget h b) 2 ∧ CAL G (WP 90 G S f) 60 [.ref b, v1] 60 ls st h k n) := by rw [wp_s dd_90_57 rfl hs]; rfl
theorem dd_90_60 : decode (mB 90) 60 = .ok (.ifCond .eq 7, 3) := by decide +kernel
theorem u_90_60 {G : aG} {S : Nat → Bool} {f : Nat} {st : List Value} {ls : aL} {h : aH} {k n : Nat} {x : Int32} (hs : S 60 = false) : WP 90 G S (f + 1) 60 ls (.int x :: st) h k n = (if x = nI 0 then WP 90 G S f 67 ls st h k n else WP 90 G S f 63 ls st h k n) := by rw [wp_s dd_90_60 rfl hs]; exact br_ite (c := x = nI 0)
theorem dd_90_63 : decode (mB 90) 63 = .ok (.iconst 1, 1) := by decide +kernel
theorem u_90_63 {G : aG} {S : Nat → Bool} {f : Nat} {st : List Value} {ls : aL} {h : aH} {k n : Nat} (hs : S 63 = false) : WP 90 G S (f + 1) 63 ls st h k n = (WP 90 G S f 64 ls (.int (nI 1) :: st) h k n) := by rw [wp_s dd_90_63 rfl hs]; rfl
theorem dd_90_64 : decode (mB 90) 64 = .ok (.goto 4, 3) := by decide +kernel
theorem u_90_64 {G : aG} {S : Nat → Bool} {f : Nat} {st : List Value} {ls : aL} {h : aH} {k n : Nat} (hs : S 64 = false) : WP 90 G S (f + 1) 64 ls st h k n = (WP 90 G S f 68 ls st h k n) := by rw [wp_s dd_90_64 rfl hs]; rfl
theorem dd_90_67 : decode (mB 90) 67 = .ok (.iconst 0, 1) := by decide +kernel
theorem u_90_67 {G : aG} {S : Nat → Bool} {f : Nat} {st : List Value} {ls : aL} {h : aH} {k n : Nat} (hs : S 67 = false) : WP 90 G S (f + 1) 67 ls st h k n = (WP 90 G S f 68 ls (.int (nI 0) :: st) h k n) := by rw [wp_s dd_90_67 rfl hs]; rfl
theorem dd_90_68 : decode (mB 90) 68 = .ok (.ireturn, 1) := by decide +kernel
theorem u_90_68 {G : aG} {S : Nat → Bool} {f : Nat} {ls : aL} {h : aH} {k n : Nat} {x : Int32} (hs : S 68 = false) : WP 90 G S (f + 1) 68 ls [.int x] h k n = (RET G (some (.int x)) h k n) := by rw [wp_s dd_90_68 rfl hs]; rfl
theorem dd_90_69 : decode (mB 90) 69 = .ok (.aload_n 2, 1) := by decide +kernel
theorem u_90_69 {G : aG} {S : Nat → Bool} {f : Nat} {st : List Value} {ls : aL} {h : aH} {k n : Nat} (hs : S 69 = false) : WP 90 G S (f + 1) 69 ls st h k n = (oA (lget ls 2) (WP 90 G S f) 70 ls st h k n) := by rw [wp_s dd_90_69 rfl hs]; rfl
theorem dd_90_70 : decode (mB 90) 70 = .ok (.iload_n 3, 1) := by decide +kernel
theorem u_90_70 {G : aG} {S : Nat → Bool} {f : Nat} {st : List Value} {ls : aL} {h : aH} {k n : Nat} (hs : S 70 = false) : WP 90 G S (f + 1) 70 ls st h k n = (oI (lget ls 3) (WP 90 G S f) 71 ls st h k n) := by rw [wp_s dd_90_70 rfl hs]; rfl
theorem dd_90_71 : decode (mB 90) 71 = .ok (.invokevirtual 188, 3) := by decide +kernel
theorem u_90_71 {G : aG} {S : Nat → Bool} {f : Nat} {st : List Value} {ls : aL} {h : aH} {k n : Nat} {v1 : Value} {b : Nat} (hs : S 71 = false) : WP 90 G S (f + 1) 71 ls (v1 :: .ref b :: st) h k n = (rcv (hget h b) 2 ∧ CAL G (WP 90 G S f) 62 [.ref b, v1] 74 ls st h k n) := by rw [wp_s dd_90_71 rfl hs]; rfl
theorem dd_90_74 : decode (mB 90) 74 = .ok (.ireturn, 1) := by decide +kernel
theorem u_90_74 {G : aG} {S : Nat → Bool} {f : Nat} {ls : aL} {h : aH} {k n : Nat} {x : Int32} (hs : S 74 = false) : WP 90 G S (f + 1) 74 ls [.int x] h k n = (RET G (some (.int x)) h k n) := by rw [wp_s dd_90_74 rfl hs]; rfl
theorem dd_92_0 : decode (mB 92) 0 = .ok (.iload_n 1, 1) := by decide +kernel
theorem u_92_0 {G : aG} {S : Nat → Bool} {f : Nat} {st : List Value} {ls : aL} {h : aH} {k n : Nat} (hs : S 0 = false) : WP 92 G S (f + 1) 0 ls st h k n = (oI (lget ls 1) (WP 92 G S f) 1 ls st h k n) := by rw [wp_s dd_92_0 rfl hs]; rfl
theorem dd_92_1 : decode (mB 92) 1 = .ok (.ifCond .lt 9, 3) := by decide +kernel
theorem u_92_1 {G : aG} {S : Nat → Bool} {f : Nat} {st : List Value} {ls : aL} {h : aH} {k n : Nat} {x : Int32} (hs : S 1 = false) : WP 92 G S (f + 1) 1 ls (.int x :: st) h k n = (if x < nI 0 then WP 92 G S f 10 ls st h k n else WP 92 G S f 4 ls st h k n) := by rw [wp_s dd_92_1 rfl hs]; exact br_ite (c := x < nI 0)
theorem dd_92_4 : decode (mB 92) 4 = .ok (.iload_n 1, 1) := by decide +kernel
theorem u_92_4 {G : aG} {S : Nat → Bool} {f : Nat} {st : List Value} {ls : aL} {h : aH} {k n : Nat} (hs : S 4 = false) : WP 92 G S (f + 1) 4 ls st h k n = (oI (lget ls 1) (WP 92 G S f) 5 ls st h k n) := by rw [wp_s dd_92_4 rfl hs]; rfl
theorem dd_92_5 : decode (mB 92) 5 = .ok (.bipush 8, 2) := by decide +kernel
theorem u_92_5 {G : aG} {S : Nat → Bool} {f : Nat} {st : List Value} {ls : aL} {h : aH} {k n : Nat} (hs : S 5 = false) : WP 92 G S (f + 1) 5 ls st h k n = (WP 92 G S f 7 ls (.int (nI 8) :: st) h k n) := by rw [wp_s dd_92_5 rfl hs]; rfl
theorem dd_92_7 : decode (mB 92) 7 = .ok (.if_icmp .lt 10, 3) := by decide +kernel
theorem u_92_7 {G : aG} {S : Nat → Bool} {f : Nat} {st : List Value} {ls : aL} {h : aH} {k n : Nat} {x y : Int32} (hs : S 7 = false) : WP 92 G S (f + 1) 7 ls (.int y :: .int x :: st) h k n = (if x < y then WP 92 G S f 17 ls st h k n else WP 92 G S f 10 ls st h k n) := by rw [wp_s dd_92_7 rfl hs]; exact br_ite (c := x < y)
theorem dd_92_10 : decode (mB 92) 10 = .ok (.aload_n 0, 1) := by decide +kernel
theorem u_92_10 {G : aG} {S : Nat → Bool} {f : Nat} {st : List Value} {ls : aL} {h : aH} {k n : Nat} (hs : S 10 = false) : WP 92 G S (f + 1) 10 ls st h k n = (oA (lget ls 0) (WP 92 G S f) 11 ls st h k n) := by rw [wp_s dd_92_10 rfl hs]; rfl
theorem dd_92_11 : decode (mB 92) 11 = .ok (.bipush (-2), 2) := by decide +kernel
theorem u_92_11 {G : aG} {S : Nat → Bool} {f : Nat} {st : List Value} {ls : aL} {h : aH} {k n : Nat} (hs : S 11 = false) : WP 92 G S (f + 1) 11 ls st h k n = (WP 92 G S f 13 ls (.int (-2) :: st) h k n) := by rw [wp_s dd_92_11 rfl hs]; rfl
theorem dd_92_13 : decode (mB 92) 13 = .ok (.invokevirtual 58, 3) := by decide +kernel
theorem u_92_13 {G : aG} {S : Nat → Bool} {f : Nat} {st : List Value} {ls : aL} {h : aH} {k n : Nat} {v1 : Value} {b : Nat} (hs : S 13 = false) : WP 92 G S (f + 1) 13 ls (v1 :: .ref b :: st) h k n = (rcv (hget h b) 9 ∧ CAL G (WP 92 G S f) 33 [.ref b, v1] 16 ls st h k n) := by rw [wp_s dd_92_13 rfl hs]; rfl
theorem dd_92_16 : decode (mB 92) 16 = .ok (.ireturn, 1) := by decide +kernel
theorem u_92_16 {G : aG} {S : Nat → Bool} {f : Nat} {ls : aL} {h : aH} {k n : Nat} {x : Int32} (hs : S 16 = false) : WP 92 G S (f + 1) 16 ls [.int x] h k n = (RET G (some (.int x)) h k n) := by rw [wp_s dd_92_16 rfl hs]; rfl
theorem dd_92_17 : decode (mB 92) 17 = .ok (.aload_n 0, 1) := by decide +kernel
theorem u_92_17 {G : aG} {S : Nat → Bool} {f : Nat} {st : List Value} {ls : aL} {h : aH} {k n : Nat} (hs : S 17 = false) : WP 92 G S (f + 1) 17 ls st h k n = (oA (lget ls 0) (WP 92 G S f) 18 ls st h k n) := by rw [wp_s dd_92_17 rfl hs]; rfl
theorem dd_92_18 : decode (mB 92) 18 = .ok (.iconst 0, 1) := by decide +kernel
theorem u_92_18 {G : aG} {S : Nat → Bool} {f : Nat} {st : List Value} {ls : aL} {h : aH} {k n : Nat} (hs : S 18 = false) : WP 92 G S (f + 1) 18 ls st h k n = (WP 92 G S f 19 ls (.int (nI 0) :: st) h k n) := by rw [wp_s dd_92_18 rfl hs]; rfl
theorem dd_92_19 : decode (mB 92) 19 = .ok (.invokevirtual 128, 3) := by decide +kernel
theorem u_92_19 {G : aG} {S : Nat → Bool} {f : Nat} {st : List Value} {ls : aL} {h : aH} {k n : Nat} {v1 : Value} {b : Nat} (hs : S 19 = false) : WP 92 G S (f + 1) 19 ls (v1 :: .ref b :: st) h k n = (rcv (hget h b) 9 ∧ CAL G (WP 92 G S f) 90 [.ref b, v1] 22 ls st h k n) := by rw [wp_s dd_92_19 rfl hs]; rfl
theorem dd_92_22 : decode (mB 92) 22 = .ok (.iconst 1, 1) := by decide +kernel
theorem u_92_22 {G : aG} {S : Nat → Bool} {f : Nat} {st : List Value} {ls : aL} {h : aH} {k n : Nat} (hs : S 22 = false) : WP 92 G S (f + 1) 22 ls st h k n = (WP 92 G S f 23 ls (.int (nI 1) :: st) h k n) := by rw [wp_s dd_92_22 rfl hs]; rfl
theorem dd_92_23 : decode (mB 92) 23 = .ok (.iload_n 1, 1) := by decide +kernel
theorem u_92_23 {G : aG} {S : Nat → Bool} {f : Nat} {st : List Value} {ls : aL} {h : aH} {k n : Nat} (hs : S 23 = false) : WP 92 G S (f + 1) 23 ls st h k n = (oI (lget ls 1) (WP 92 G S f) 24 ls st h k n) := by rw [wp_s dd_92_23 rfl hs]; rfl
theorem dd_92_24 : decode (mB 92) 24 = .ok (.ishl, 1) := by decide +kernel
theorem u_92_24 {G : aG} {S : Nat → Bool} {f : Nat} {st : List Value} {ls : aL} {h : aH} {k n : Nat} {x y : Int32} (hs : S 24 = false) : WP 92 G S (f + 1) 24 ls (.int y :: .int x :: st) h k n = (WP 92 G S f 25 ls (.int (x <<< (y &&& 31)) :: st) h k n) := by rw [wp_s dd_92_24 rfl hs]; rfl
theorem dd_92_25 : decode (mB 92) 25 = .ok (.iand, 1) := by decide +kernel
theorem u_92_25 {G : aG} {S : Nat → Bool} {f : Nat} {st : List Value} {ls : aL} {h : aH} {k n : Nat} {x y : Int32} (hs : S 25 = false) : WP 92 G S (f + 1) 25 ls (.int y :: .int x :: st) h k n = (WP 92 G S f 26 ls (.int (x &&& y) :: st) h k n) := by rw [wp_s dd_92_25 rfl hs]; rfl
theorem dd_92_26 : decode (mB 92) 26 = .ok (.ifCond .ne 10, 3) := by decide +kernel
theorem u_92_26 {G : aG} {S : Nat → Bool} {f : Nat} {st : List Value} {ls : aL} {h : aH} {k n : Nat} {x : Int32} (hs : S 26 = false) : WP 92 G S (f + 1) 26 ls (.int x :: st) h k n = (if x = nI 0 then WP 92 G S f 29 ls st h k n else WP 92 G S f 36 ls st h k n) := by rw [wp_s dd_92_26 rfl hs]; exact br_iten (c := x = nI 0)
theorem dd_92_29 : decode (mB 92) 29 = .ok (.aload_n 0, 1) := by decide +kernel
theorem u_92_29 {G : aG} {S : Nat → Bool} {f : Nat} {st : List Value} {ls : aL} {h : aH} {k n : Nat} (hs : S 29 = false) : WP 92 G S (f + 1) 29 ls st h k n = (oA (lget ls 0) (WP 92 G S f) 30 ls st h k n) := by rw [wp_s dd_92_29 rfl hs]; rfl
theorem dd_92_30 : decode (mB 92) 30 = .ok (.bipush (-3), 2) := by decide +kernel
theorem u_92_30 {G : aG} {S : Nat → Bool} {f : Nat} {st : List Value} {ls : aL} {h : aH} {k n : Nat} (hs : S 30 = false) : WP 92 G S (f + 1) 30 ls st h k n = (WP 92 G S f 32 ls (.int (-3) :: st) h k n) := by rw [wp_s dd_92_30 rfl hs]; rfl
theorem dd_92_32 : decode (mB 92) 32 = .ok (.invokevirtual 58, 3) := by decide +kernel
theorem u_92_32 {G : aG} {S : Nat → Bool} {f : Nat} {st : List Value} {ls : aL} {h : aH} {k n : Nat} {v1 : Value} {b : Nat} (hs : S 32 = false) : WP 92 G S (f + 1) 32 ls (v1 :: .ref b :: st) h k n = (rcv (hget h b) 9 ∧ CAL G (WP 92 G S f) 33 [.ref b, v1] 35 ls st h k n) := by rw [wp_s dd_92_32 rfl hs]; rfl
theorem dd_92_35 : decode (mB 92) 35 = .ok (.ireturn, 1) := by decide +kernel
theorem u_92_35 {G : aG} {S : Nat → Bool} {f : Nat} {ls : aL} {h : aH} {k n : Nat} {x : Int32} (hs : S 35 = false) : WP 92 G S (f + 1) 35 ls [.int x] h k n = (RET G (some (.int x)) h k n) := by rw [wp_s dd_92_35 rfl hs]; rfl
theorem dd_92_36 : decode (mB 92) 36 = .ok (.aload_n 0, 1) := by decide +kernel
theorem u_92_36 {G : aG} {S : Nat → Bool} {f : Nat} {st : List Value} {ls : aL} {h : aH} {k n : Nat} (hs : S 36 = false) : WP 92 G S (f + 1) 36 ls st h k n = (oA (lget ls 0) (WP 92 G S f) 37 ls st h k n) := by rw [wp_s dd_92_36 rfl hs]; rfl
theorem dd_92_37 : decode (mB 92) 37 = .ok (.getfield 19, 3) := by decide +kernel
theorem u_92_37 {G : aG} {S : Nat → Bool} {f : Nat} {st : List Value} {ls : aL} {h : aH} {k n : Nat} {a : Nat} (hs : S 37 = false) : WP 92 G S (f + 1) 37 ls (.ref a :: st) h k n = (oV (fget h a 9 1) (WP 92 G S f) 40 ls st h k n) := by rw [wp_s dd_92_37 rfl hs]; rfl
theorem dd_92_40 : decode (mB 92) 40 = .ok (.getfield 131, 3) := by decide +kernel
theorem u_92_40 {G : aG} {S : Nat → Bool} {f : Nat} {st : List Value} {ls : aL} {h : aH} {k n : Nat} {a : Nat} (hs : S 40 = false) : WP 92 G S (f + 1) 40 ls (.ref a :: st) h k n = (oV (fget h a 7 2) (WP 92 G S f) 43 ls st h k n) := by rw [wp_s dd_92_40 rfl hs]; rfl
theorem dd_92_43 : decode (mB 92) 43 = .ok (.bipush 20, 2) := by decide +kernel
theorem u_92_43 {G : aG} {S : Nat → Bool} {f : Nat} {st : List Value} {ls : aL} {h : aH} {k n : Nat} (hs : S 43 = false) : WP 92 G S (f + 1) 43 ls st h k n = (WP 92 G S f 45 ls (.int (nI 20) :: st) h k n) := by rw [wp_s dd_92_43 rfl hs]; rfl
theorem dd_92_45 : decode (mB 92) 45 = .ok (.if_icmp .lt 10, 3) := by decide +kernel
theorem u_92_45 {G : aG} {S : Nat → Bool} {f : Nat} {st : List Value} {ls : aL} {h : aH} {k n : Nat} {x y : Int32} (hs : S 45 = false) : WP 92 G S (f + 1) 45 ls (.int y :: .int x :: st) h k n = (if x < y then WP 92 G S f 55 ls st h k n else WP 92 G S f 48 ls st h k n) := by rw [wp_s dd_92_45 rfl hs]; exact br_ite (c := x < y)
theorem dd_92_48 : decode (mB 92) 48 = .ok (.aload_n 0, 1) := by decide +kernel
theorem u_92_48 {G : aG} {S : Nat → Bool} {f : Nat} {st : List Value} {ls : aL} {h : aH} {k n : Nat} (hs : S 48 = false) : WP 92 G S (f + 1) 48 ls st h k n = (oA (lget ls 0) (WP 92 G S f) 49 ls st h k n) := by rw [wp_s dd_92_48 rfl hs]; rfl
theorem dd_92_49 : decode (mB 92) 49 = .ok (.bipush (-4), 2) := by decide +kernel
theorem u_92_49 {G : aG} {S : Nat → Bool} {f : Nat} {st : List Value} {ls : aL} {h : aH} {k n : Nat} (hs : S 49 = false) : WP 92 G S (f + 1) 49 ls st h k n = (WP 92 G S f 51 ls (.int (-4) :: st) h k n) := by rw [wp_s dd_92_49 rfl hs]; rfl
theorem dd_92_51 : decode (mB 92) 51 = .ok (.invokevirtual 58, 3) := by decide +kernel
theorem u_92_51 {G : aG} {S : Nat → Bool} {f : Nat} {st : List Value} {ls : aL} {h : aH} {k n : Nat} {v1 : Value} {b : Nat} (hs : S 51 = false) : WP 92 G S (f + 1) 51 ls (v1 :: .ref b :: st) h k n = (rcv (hget h b) 9 ∧ CAL G (WP 92 G S f) 33 [.ref b, v1] 54 ls st h k n) := by rw [wp_s dd_92_51 rfl hs]; rfl
theorem dd_92_54 : decode (mB 92) 54 = .ok (.ireturn, 1) := by decide +kernel
theorem u_92_54 {G : aG} {S : Nat → Bool} {f : Nat} {ls : aL} {h : aH} {k n : Nat} {x : Int32} (hs : S 54 = false) : WP 92 G S (f + 1) 54 ls [.int x] h k n = (RET G (some (.int x)) h k n) := by rw [wp_s dd_92_54 rfl hs]; rfl
theorem dd_92_55 : decode (mB 92) 55 = .ok (.aload_n 0, 1) := by decide +kernel
theorem u_92_55 {G : aG} {S : Nat → Bool} {f : Nat} {st : List Value} {ls : aL} {h : aH} {k n : Nat} (hs : S 55 = false) : WP 92 G S (f + 1) 55 ls st h k n = (oA (lget ls 0) (WP 92 G S f) 56 ls st h k n) := by rw [wp_s dd_92_55 rfl hs]; rfl
theorem dd_92_56 : decode (mB 92) 56 = .ok (.getfield 26, 3) := by decide +kernel
theorem u_92_56 {G : aG} {S : Nat → Bool} {f : Nat} {st : List Value} {ls : aL} {h : aH} {k n : Nat} {a : Nat} (hs : S 56 = false) : WP 92 G S (f + 1) 56 ls (.ref a :: st) h k n = (oV (fget h a 9 2) (WP 92 G S f) 59 ls st h k n) := by rw [wp_s dd_92_56 rfl hs]; rfl
theorem dd_92_59 : decode (mB 92) 59 = .ok (.aload_n 0, 1) := by decide +kernel
theorem u_92_59 {G : aG} {S : Nat → Bool} {f : Nat} {st : List Value} {ls : aL} {h : aH} {k n : Nat} (hs : S 59 = false) : WP 92 G S (f + 1) 59 ls st h k n = (oA (lget ls 0) (WP 92 G S f) 60 ls st h k n) := by rw [wp_s dd_92_59 rfl hs]; rfl
theorem dd_92_60 : decode (mB 92) 60 = .ok (.getfield 19, 3) := by decide +kernel
theorem u_92_60 {G : aG} {S : Nat → Bool} {f : Nat} {st : List Value} {ls : aL} {h : aH} {k n : Nat} {a : Nat} (hs : S 60 = false) : WP 92 G S (f + 1) 60 ls (.ref a :: st) h k n = (oV (fget h a 9 1) (WP 92 G S f) 63 ls st h k n) := by rw [wp_s dd_92_60 rfl hs]; rfl
theorem dd_92_63 : decode (mB 92) 63 = .ok (.invokevirtual 78, 3) := by decide +kernel
theorem u_92_63 {G : aG} {S : Nat → Bool} {f : Nat} {st : List Value} {ls : aL} {h : aH} {k n : Nat} {v1 : Value} {b : Nat} (hs : S 63 = false) : WP 92 G S (f + 1) 63 ls (v1 :: .ref b :: st) h k n = (rcv (hget h b) 4 ∧ CAL G (WP 92 G S f) 52 [.ref b, v1] 66 ls st h k n) := by rw [wp_s dd_92_63 rfl hs]; rfl
theorem dd_92_66 : decode (mB 92) 66 = .ok (.aload_n 0, 1) := by decide +kernel
theorem u_92_66 {G : aG} {S : Nat → Bool} {f : Nat} {st : List Value} {ls : aL} {h : aH} {k n : Nat} (hs : S 66 = false) : WP 92 G S (f + 1) 66 ls st h k n = (oA (lget ls 0) (WP 92 G S f) 67 ls st h k n) := by rw [wp_s dd_92_66 rfl hs]; rfl
theorem dd_92_67 : decode (mB 92) 67 = .ok (.getfield 19, 3) := by decide +kernel
theorem u_92_67 {G : aG} {S : Nat → Bool} {f : Nat} {st : List Value} {ls : aL} {h : aH} {k n : Nat} {a : Nat} (hs : S 67 = false) : WP 92 G S (f + 1) 67 ls (.ref a :: st) h k n = (oV (fget h a 9 1) (WP 92 G S f) 70 ls st h k n) := by rw [wp_s dd_92_67 rfl hs]; rfl
theorem dd_92_70 : decode (mB 92) 70 = .ok (.iload_n 1, 1) := by decide +kernel
theorem u_92_70 {G : aG} {S : Nat → Bool} {f : Nat} {st : List Value} {ls : aL} {h : aH} {k n : Nat} (hs : S 70 = false) : WP 92 G S (f + 1) 70 ls st h k n = (oI (lget ls 1) (WP 92 G S f) 71 ls st h k n) := by rw [wp_s dd_92_70 rfl hs]; rfl
theorem dd_92_71 : decode (mB 92) 71 = .ok (.invokevirtual 132, 3) := by decide +kernel
theorem u_92_71 {G : aG} {S : Nat → Bool} {f : Nat} {st : List Value} {ls : aL} {h : aH} {k n : Nat} {v1 : Value} {b : Nat} (hs : S 71 = false) : WP 92 G S (f + 1) 71 ls (v1 :: .ref b :: st) h k n = (rcv (hget h b) 7 ∧ CAL G (WP 92 G S f) 93 [.ref b, v1] 74 ls st h k n) := by rw [wp_s dd_92_71 rfl hs]; rfl
theorem dd_92_74 : decode (mB 92) 74 = .ok (.aload_n 0, 1) := by decide +kernel
theorem u_92_74 {G : aG} {S : Nat → Bool} {f : Nat} {st : List Value} {ls : aL} {h : aH} {k n : Nat} (hs : S 74 = false) : WP 92 G S (f + 1) 74 ls st h k n = (oA (lget ls 0) (WP 92 G S f) 75 ls st h k n) := by rw [wp_s dd_92_74 rfl hs]; rfl
theorem dd_92_75 : decode (mB 92) 75 = .ok (.iconst 0, 1) := by decide +kernel
theorem u_92_75 {G : aG} {S : Nat → Bool} {f : Nat} {st : List Value} {ls : aL} {h : aH} {k n : Nat} (hs : S 75 = false) : WP 92 G S (f + 1) 75 ls st h k n = (WP 92 G S f 76 ls (.int (nI 0) :: st) h k n) := by rw [wp_s dd_92_75 rfl hs]; rfl
theorem dd_92_76 : decode (mB 92) 76 = .ok (.invokevirtual 128, 3) := by decide +kernel
theorem u_92_76 {G : aG} {S : Nat → Bool} {f : Nat} {st : List Value} {ls : aL} {h : aH} {k n : Nat} {v1 : Value} {b : Nat} (hs : S 76 = false) : WP 92 G S (f + 1) 76 ls (v1 :: .ref b :: st) h k n = (rcv (hget h b) 9 ∧ CAL G (WP 92 G S f) 90 [.ref b, v1] 79 ls st h k n) := by rw [wp_s dd_92_76 rfl hs]; rfl
theorem dd_92_79 : decode (mB 92) 79 = .ok (.ireturn, 1) := by decide +kernel
theorem u_92_79 {G : aG} {S : Nat → Bool} {f : Nat} {ls : aL} {h : aH} {k n : Nat} {x : Int32} (hs : S 79 = false) : WP 92 G S (f + 1) 79 ls [.int x] h k n = (RET G (some (.int x)) h k n) := by rw [wp_s dd_92_79 rfl hs]; rfl
theorem dd_94_0 : decode (mB 94) 0 = .ok (.iload_n 1, 1) := by decide +kernel
theorem u_94_0 {G : aG} {S : Nat → Bool} {f : Nat} {st : List Value} {ls : aL} {h : aH} {k n : Nat} (hs : S 0 = false) : WP 94 G S (f + 1) 0 ls st h k n = (oI (lget ls 1) (WP 94 G S f) 1 ls st h k n) := by rw [wp_s dd_94_0 rfl hs]; rfl
theorem dd_94_1 : decode (mB 94) 1 = .ok (.ifCond .lt 8, 3) := by decide +kernel
theorem u_94_1 {G : aG} {S : Nat → Bool} {f : Nat} {st : List Value} {ls : aL} {h : aH} {k n : Nat} {x : Int32} (hs : S 1 = false) : WP 94 G S (f + 1) 1 ls (.int x :: st) h k n = (if x < nI 0 then WP 94 G S f 9 ls st h k n else WP 94 G S f 4 ls st h k n) := by rw [wp_s dd_94_1 rfl hs]; exact br_ite (c := x < nI 0)
theorem dd_94_4 : decode (mB 94) 4 = .ok (.iload_n 1, 1) := by decide +kernel
theorem u_94_4 {G : aG} {S : Nat → Bool} {f : Nat} {st : List Value} {ls : aL} {h : aH} {k n : Nat} (hs : S 4 = false) : WP 94 G S (f + 1) 4 ls st h k n = (oI (lget ls 1) (WP 94 G S f) 5 ls st h k n) := by rw [wp_s dd_94_4 rfl hs]; rfl
theorem dd_94_5 : decode (mB 94) 5 = .ok (.iconst 3, 1) := by decide +kernel
theorem u_94_5 {G : aG} {S : Nat → Bool} {f : Nat} {st : List Value} {ls : aL} {h : aH} {k n : Nat} (hs : S 5 = false) : WP 94 G S (f + 1) 5 ls st h k n = (WP 94 G S f 6 ls (.int (nI 3) :: st) h k n) := by rw [wp_s dd_94_5 rfl hs]; rfl
theorem dd_94_6 : decode (mB 94) 6 = .ok (.if_icmp .le 10, 3) := by decide +kernel
theorem u_94_6 {G : aG} {S : Nat → Bool} {f : Nat} {st : List Value} {ls : aL} {h : aH} {k n : Nat} {x y : Int32} (hs : S 6 = false) : WP 94 G S (f + 1) 6 ls (.int y :: .int x :: st) h k n = (if x ≤ y then WP 94 G S f 16 ls st h k n else WP 94 G S f 9 ls st h k n) := by rw [wp_s dd_94_6 rfl hs]; exact br_ite (c := x ≤ y)
theorem dd_94_9 : decode (mB 94) 9 = .ok (.aload_n 0, 1) := by decide +kernel
theorem u_94_9 {G : aG} {S : Nat → Bool} {f : Nat} {st : List Value} {ls : aL} {h : aH} {k n : Nat} (hs : S 9 = false) : WP 94 G S (f + 1) 9 ls st h k n = (oA (lget ls 0) (WP 94 G S f) 10 ls st h k n) := by rw [wp_s dd_94_9 rfl hs]; rfl
theorem dd_94_10 : decode (mB 94) 10 = .ok (.bipush (-2), 2) := by decide +kernel
theorem u_94_10 {G : aG} {S : Nat → Bool} {f : Nat} {st : List Value} {ls : aL} {h : aH} {k n : Nat} (hs : S 10 = false) : WP 94 G S (f + 1) 10 ls st h k n = (WP 94 G S f 12 ls (.int (-2) :: st) h k n) := by rw [wp_s dd_94_10 rfl hs]; rfl
theorem dd_94_12 : decode (mB 94) 12 = .ok (.invokevirtual 58, 3) := by decide +kernel
theorem u_94_12 {G : aG} {S : Nat → Bool} {f : Nat} {st : List Value} {ls : aL} {h : aH} {k n : Nat} {v1 : Value} {b : Nat} (hs : S 12 = false) : WP 94 G S (f + 1) 12 ls (v1 :: .ref b :: st) h k n = (rcv (hget h b) 9 ∧ CAL G (WP 94 G S f) 33 [.ref b, v1] 15 ls st h k n) := by rw [wp_s dd_94_12 rfl hs]; rfl
theorem dd_94_15 : decode (mB 94) 15 = .ok (.ireturn, 1) := by decide +kernel
theorem u_94_15 {G : aG} {S : Nat → Bool} {f : Nat} {ls : aL} {h : aH} {k n : Nat} {x : Int32} (hs : S 15 = false) : WP 94 G S (f + 1) 15 ls [.int x] h k n = (RET G (some (.int x)) h k n) := by rw [wp_s dd_94_15 rfl hs]; rfl
theorem dd_94_16 : decode (mB 94) 16 = .ok (.aload_n 0, 1) := by decide +kernel
theorem u_94_16 {G : aG} {S : Nat → Bool} {f : Nat} {st : List Value} {ls : aL} {h : aH} {k n : Nat} (hs : S 16 = false) : WP 94 G S (f + 1) 16 ls st h k n = (oA (lget ls 0) (WP 94 G S f) 17 ls st h k n) := by rw [wp_s dd_94_16 rfl hs]; rfl
theorem dd_94_17 : decode (mB 94) 17 = .ok (.iload_n 1, 1) := by decide +kernel
theorem u_94_17 {G : aG} {S : Nat → Bool} {f : Nat} {st : List Value} {ls : aL} {h : aH} {k n : Nat} (hs : S 17 = false) : WP 94 G S (f + 1) 17 ls st h k n = (oI (lget ls 1) (WP 94 G S f) 18 ls st h k n) := by rw [wp_s dd_94_17 rfl hs]; rfl
theorem dd_94_18 : decode (mB 94) 18 = .ok (.invokevirtual 128, 3) := by decide +kernel
theorem u_94_18 {G : aG} {S : Nat → Bool} {f : Nat} {st : List Value} {ls : aL} {h : aH} {k n : Nat} {v1 : Value} {b : Nat} (hs : S 18 = false) : WP 94 G S (f + 1) 18 ls (v1 :: .ref b :: st) h k n = (rcv (hget h b) 9 ∧ CAL G (WP 94 G S f) 90 [.ref b, v1] 21 ls st h k n) := by rw [wp_s dd_94_18 rfl hs]; rfl
theorem dd_94_21 : decode (mB 94) 21 = .ok (.ireturn, 1) := by decide +kernel
theorem u_94_21 {G : aG} {S : Nat → Bool} {f : Nat} {ls : aL} {h : aH} {k n : Nat} {x : Int32} (hs : S 21 = false) : WP 94 G S (f + 1) 21 ls [.int x] h k n = (RET G (some (.int x)) h k n) := by rw [wp_s dd_94_21 rfl hs]; rfl
theorem dd_95_0 : decode (mB 95) 0 = .ok (.aload_n 0, 1) := by decide +kernel
theorem u_95_0 {G : aG} {S : Nat → Bool} {f : Nat} {st : List Value} {ls : aL} {h : aH} {k n : Nat} (hs : S 0 = false) : WP 95 G S (f + 1) 0 ls st h k n = (oA (lget ls 0) (WP 95 G S f) 1 ls st h k n) := by rw [wp_s dd_95_0 rfl hs]; rfl
theorem dd_95_1 : decode (mB 95) 1 = .ok (.getfield 26, 3) := by decide +kernel
theorem u_95_1 {G : aG} {S : Nat → Bool} {f : Nat} {st : List Value} {ls : aL} {h : aH} {k n : Nat} {a : Nat} (hs : S 1 = false) : WP 95 G S (f + 1) 1 ls (.ref a :: st) h k n = (oV (fget h a 9 2) (WP 95 G S f) 4 ls st h k n) := by rw [wp_s dd_95_1 rfl hs]; rfl
theorem dd_95_4 : decode (mB 95) 4 = .ok (.getfield 135, 3) := by decide +kernel
theorem u_95_4 {G : aG} {S : Nat → Bool} {f : Nat} {st : List Value} {ls : aL} {h : aH} {k n : Nat} {a : Nat} (hs : S 4 = false) : WP 95 G S (f + 1) 4 ls (.ref a :: st) h k n = (oV (fget h a 4 1) (WP 95 G S f) 7 ls st h k n) := by rw [wp_s dd_95_4 rfl hs]; rfl
theorem dd_95_7 : decode (mB 95) 7 = .ok (.ifCond .ne 10, 3) := by decide +kernel
theorem u_95_7 {G : aG} {S : Nat → Bool} {f : Nat} {st : List Value} {ls : aL} {h : aH} {k n : Nat} {x : Int32} (hs : S 7 = false) : WP 95 G S (f + 1) 7 ls (.int x :: st) h k n = (if x = nI 0 then WP 95 G S f 10 ls st h k n else WP 95 G S f 17 ls st h k n) := by rw [wp_s dd_95_7 rfl hs]; exact br_iten (c := x = nI 0)
theorem dd_95_10 : decode (mB 95) 10 = .ok (.aload_n 0, 1) := by decide +kernel
theorem u_95_10 {G : aG} {S : Nat → Bool} {f : Nat} {st : List Value} {ls : aL} {h : aH} {k n : Nat} (hs : S 10 = false) : WP 95 G S (f + 1) 10 ls st h k n = (oA (lget ls 0) (WP 95 G S f) 11 ls st h k n) := by rw [wp_s dd_95_10 rfl hs]; rfl
theorem dd_95_11 : decode (mB 95) 11 = .ok (.bipush (-3), 2) := by decide +kernel
theorem u_95_11 {G : aG} {S : Nat → Bool} {f : Nat} {st : List Value} {ls : aL} {h : aH} {k n : Nat} (hs : S 11 = false) : WP 95 G S (f + 1) 11 ls st h k n = (WP 95 G S f 13 ls (.int (-3) :: st) h k n) := by rw [wp_s dd_95_11 rfl hs]; rfl
theorem dd_95_13 : decode (mB 95) 13 = .ok (.invokevirtual 58, 3) := by decide +kernel
theorem u_95_13 {G : aG} {S : Nat → Bool} {f : Nat} {st : List Value} {ls : aL} {h : aH} {k n : Nat} {v1 : Value} {b : Nat} (hs : S 13 = false) : WP 95 G S (f + 1) 13 ls (v1 :: .ref b :: st) h k n = (rcv (hget h b) 9 ∧ CAL G (WP 95 G S f) 33 [.ref b, v1] 16 ls st h k n) := by rw [wp_s dd_95_13 rfl hs]; rfl
theorem dd_95_16 : decode (mB 95) 16 = .ok (.ireturn, 1) := by decide +kernel
theorem u_95_16 {G : aG} {S : Nat → Bool} {f : Nat} {ls : aL} {h : aH} {k n : Nat} {x : Int32} (hs : S 16 = false) : WP 95 G S (f + 1) 16 ls [.int x] h k n = (RET G (some (.int x)) h k n) := by rw [wp_s dd_95_16 rfl hs]; rfl
theorem dd_95_17 : decode (mB 95) 17 = .ok (.aload_n 0, 1) := by decide +kernel
theorem u_95_17 {G : aG} {S : Nat → Bool} {f : Nat} {st : List Value} {ls : aL} {h : aH} {k n : Nat} (hs : S 17 = false) : WP 95 G S (f + 1) 17 ls st h k n = (oA (lget ls 0) (WP 95 G S f) 18 ls st h k n) := by rw [wp_s dd_95_17 rfl hs]; rfl
theorem dd_95_18 : decode (mB 95) 18 = .ok (.getfield 26, 3) := by decide +kernel
theorem u_95_18 {G : aG} {S : Nat → Bool} {f : Nat} {st : List Value} {ls : aL} {h : aH} {k n : Nat} {a : Nat} (hs : S 18 = false) : WP 95 G S (f + 1) 18 ls (.ref a :: st) h k n = (oV (fget h a 9 2) (WP 95 G S f) 21 ls st h k n) := by rw [wp_s dd_95_18 rfl hs]; rfl
theorem dd_95_21 : decode (mB 95) 21 = .ok (.aload_n 0, 1) := by decide +kernel
theorem u_95_21 {G : aG} {S : Nat → Bool} {f : Nat} {st : List Value} {ls : aL} {h : aH} {k n : Nat} (hs : S 21 = false) : WP 95 G S (f + 1) 21 ls st h k n = (oA (lget ls 0) (WP 95 G S f) 22 ls st h k n) := by rw [wp_s dd_95_21 rfl hs]; rfl
theorem dd_95_22 : decode (mB 95) 22 = .ok (.getfield 19, 3) := by decide +kernel
theorem u_95_22 {G : aG} {S : Nat → Bool} {f : Nat} {st : List Value} {ls : aL} {h : aH} {k n : Nat} {a : Nat} (hs : S 22 = false) : WP 95 G S (f + 1) 22 ls (.ref a :: st) h k n = (oV (fget h a 9 1) (WP 95 G S f) 25 ls st h k n) := by rw [wp_s dd_95_22 rfl hs]; rfl
theorem dd_95_25 : decode (mB 95) 25 = .ok (.invokevirtual 137, 3) := by decide +kernel
theorem u_95_25 {G : aG} {S : Nat → Bool} {f : Nat} {st : List Value} {ls : aL} {h : aH} {k n : Nat} {v1 : Value} {b : Nat} (hs : S 25 = false) : WP 95 G S (f + 1) 25 ls (v1 :: .ref b :: st) h k n = (rcv (hget h b) 4 ∧ CAL G (WP 95 G S f) 96 [.ref b, v1] 28 ls st h k n) := by rw [wp_s dd_95_25 rfl hs]; rfl
theorem dd_95_28 : decode (mB 95) 28 = .ok (.aload_n 0, 1) := by decide +kernel
theorem u_95_28 {G : aG} {S : Nat → Bool} {f : Nat} {st : List Value} {ls : aL} {h : aH} {k n : Nat} (hs : S 28 = false) : WP 95 G S (f + 1) 28 ls st h k n = (oA (lget ls 0) (WP 95 G S f) 29 ls st h k n) := by rw [wp_s dd_95_28 rfl hs]; rfl
theorem dd_95_29 : decode (mB 95) 29 = .ok (.getfield 40, 3) := by decide +kernel
theorem u_95_29 {G : aG} {S : Nat → Bool} {f : Nat} {st : List Value} {ls : aL} {h : aH} {k n : Nat} {a : Nat} (hs : S 29 = false) : WP 95 G S (f + 1) 29 ls (.ref a :: st) h k n = (oV (fget h a 9 4) (WP 95 G S f) 32 ls st h k n) := by rw [wp_s dd_95_29 rfl hs]; rfl
theorem dd_95_32 : decode (mB 95) 32 = .ok (.aload_n 0, 1) := by decide +kernel
theorem u_95_32 {G : aG} {S : Nat → Bool} {f : Nat} {st : List Value} {ls : aL} {h : aH} {k n : Nat} (hs : S 32 = false) : WP 95 G S (f + 1) 32 ls st h k n = (oA (lget ls 0) (WP 95 G S f) 33 ls st h k n) := by rw [wp_s dd_95_32 rfl hs]; rfl
theorem dd_95_33 : decode (mB 95) 33 = .ok (.getfield 19, 3) := by decide +kernel
theorem u_95_33 {G : aG} {S : Nat → Bool} {f : Nat} {st : List Value} {ls : aL} {h : aH} {k n : Nat} {a : Nat} (hs : S 33 = false) : WP 95 G S (f + 1) 33 ls (.ref a :: st) h k n = (oV (fget h a 9 1) (WP 95 G S f) 36 ls st h k n) := by rw [wp_s dd_95_33 rfl hs]; rfl
theorem dd_95_36 : decode (mB 95) 36 = .ok (.getfield 70, 3) := by decide +kernel
theorem u_95_36 {G : aG} {S : Nat → Bool} {f : Nat} {st : List Value} {ls : aL} {h : aH} {k n : Nat} {a : Nat} (hs : S 36 = false) : WP 95 G S (f + 1) 36 ls (.ref a :: st) h k n = (oV (fget h a 7 0) (WP 95 G S f) 39 ls st h k n) := by rw [wp_s dd_95_36 rfl hs]; rfl
theorem dd_95_39 : decode (mB 95) 39 = .ok (.invokevirtual 92, 3) := by decide +kernel
theorem u_95_39 {G : aG} {S : Nat → Bool} {f : Nat} {st : List Value} {ls : aL} {h : aH} {k n : Nat} {v1 : Value} {b : Nat} (hs : S 39 = false) : WP 95 G S (f + 1) 39 ls (v1 :: .ref b :: st) h k n = (rcv (hget h b) 3 ∧ CAL G (WP 95 G S f) 55 [.ref b, v1] 42 ls st h k n) := by rw [wp_s dd_95_39 rfl hs]; rfl
theorem dd_95_42 : decode (mB 95) 42 = .ok (.aload_n 0, 1) := by decide +kernel
theorem u_95_42 {G : aG} {S : Nat → Bool} {f : Nat} {st : List Value} {ls : aL} {h : aH} {k n : Nat} (hs : S 42 = false) : WP 95 G S (f + 1) 42 ls st h k n = (oA (lget ls 0) (WP 95 G S f) 43 ls st h k n) := by rw [wp_s dd_95_42 rfl hs]; rfl
theorem dd_95_43 : decode (mB 95) 43 = .ok (.getfield 26, 3) := by decide +kernel
theorem u_95_43 {G : aG} {S : Nat → Bool} {f : Nat} {st : List Value} {ls : aL} {h : aH} {k n : Nat} {a : Nat} (hs : S 43 = false) : WP 95 G S (f + 1) 43 ls (.ref a :: st) h k n = (oV (fget h a 9 2) (WP 95 G S f) 46 ls st h k n) := by rw [wp_s dd_95_43 rfl hs]; rfl
theorem dd_95_46 : decode (mB 95) 46 = .ok (.getfield 135, 3) := by decide +kernel
theorem u_95_46 {G : aG} {S : Nat → Bool} {f : Nat} {st : List Value} {ls : aL} {h : aH} {k n : Nat} {a : Nat} (hs : S 46 = false) : WP 95 G S (f + 1) 46 ls (.ref a :: st) h k n = (oV (fget h a 4 1) (WP 95 G S f) 49 ls st h k n) := by rw [wp_s dd_95_46 rfl hs]; rfl
theorem dd_95_49 : decode (mB 95) 49 = .ok (.ireturn, 1) := by decide +kernel
theorem u_95_49 {G : aG} {S : Nat → Bool} {f : Nat} {ls : aL} {h : aH} {k n : Nat} {x : Int32} (hs : S 49 = false) : WP 95 G S (f + 1) 49 ls [.int x] h k n = (RET G (some (.int x)) h k n) := by rw [wp_s dd_95_49 rfl hs]; rfl
theorem dd_97_0 : decode (mB 97) 0 = .ok (.iload_n 1, 1) := by decide +kernel
theorem u_97_0 {G : aG} {S : Nat → Bool} {f : Nat} {st : List Value} {ls : aL} {h : aH} {k n : Nat} (hs : S 0 = false) : WP 97 G S (f + 1) 0 ls st h k n = (oI (lget ls 1) (WP 97 G S f) 1 ls st h k n) := by rw [wp_s dd_97_0 rfl hs]; rfl
theorem dd_97_1 : decode (mB 97) 1 = .ok (.ifCond .lt 8, 3) := by decide +kernel
theorem u_97_1 {G : aG} {S : Nat → Bool} {f : Nat} {st : List Value} {ls : aL} {h : aH} {k n : Nat} {x : Int32} (hs : S 1 = false) : WP 97 G S (f + 1) 1 ls (.int x :: st) h k n = (if x < nI 0 then WP 97 G S f 9 ls st h k n else WP 97 G S f 4 ls st h k n) := by rw [wp_s dd_97_1 rfl hs]; exact br_ite (c := x < nI 0)
theorem dd_97_4 : decode (mB 97) 4 = .ok (.iload_n 1, 1) := by decide +kernel
theorem u_97_4 {G : aG} {S : Nat → Bool} {f : Nat} {st : List Value} {ls : aL} {h : aH} {k n : Nat} (hs : S 4 = false) : WP 97 G S (f + 1) 4 ls st h k n = (oI (lget ls 1) (WP 97 G S f) 5 ls st h k n) := by rw [wp_s dd_97_4 rfl hs]; rfl
theorem dd_97_5 : decode (mB 97) 5 = .ok (.iconst 4, 1) := by decide +kernel
theorem u_97_5 {G : aG} {S : Nat → Bool} {f : Nat} {st : List Value} {ls : aL} {h : aH} {k n : Nat} (hs : S 5 = false) : WP 97 G S (f + 1) 5 ls st h k n = (WP 97 G S f 6 ls (.int (nI 4) :: st) h k n) := by rw [wp_s dd_97_5 rfl hs]; rfl
theorem dd_97_6 : decode (mB 97) 6 = .ok (.if_icmp .le 10, 3) := by decide +kernel
theorem u_97_6 {G : aG} {S : Nat → Bool} {f : Nat} {st : List Value} {ls : aL} {h : aH} {k n : Nat} {x y : Int32} (hs : S 6 = false) : WP 97 G S (f + 1) 6 ls (.int y :: .int x :: st) h k n = (if x ≤ y then WP 97 G S f 16 ls st h k n else WP 97 G S f 9 ls st h k n) := by rw [wp_s dd_97_6 rfl hs]; exact br_ite (c := x ≤ y)
theorem dd_97_9 : decode (mB 97) 9 = .ok (.aload_n 0, 1) := by decide +kernel
theorem u_97_9 {G : aG} {S : Nat → Bool} {f : Nat} {st : List Value} {ls : aL} {h : aH} {k n : Nat} (hs : S 9 = false) : WP 97 G S (f + 1) 9 ls st h k n = (oA (lget ls 0) (WP 97 G S f) 10 ls st h k n) := by rw [wp_s dd_97_9 rfl hs]; rfl
theorem dd_97_10 : decode (mB 97) 10 = .ok (.bipush (-2), 2) := by decide +kernel
theorem u_97_10 {G : aG} {S : Nat → Bool} {f : Nat} {st : List Value} {ls : aL} {h : aH} {k n : Nat} (hs : S 10 = false) : WP 97 G S (f + 1) 10 ls st h k n = (WP 97 G S f 12 ls (.int (-2) :: st) h k n) := by rw [wp_s dd_97_10 rfl hs]; rfl
theorem dd_97_12 : decode (mB 97) 12 = .ok (.invokevirtual 58, 3) := by decide +kernel
theorem u_97_12 {G : aG} {S : Nat → Bool} {f : Nat} {st : List Value} {ls : aL} {h : aH} {k n : Nat} {v1 : Value} {b : Nat} (hs : S 12 = false) : WP 97 G S (f + 1) 12 ls (v1 :: .ref b :: st) h k n = (rcv (hget h b) 9 ∧ CAL G (WP 97 G S f) 33 [.ref b, v1] 15 ls st h k n) := by rw [wp_s dd_97_12 rfl hs]; rfl
theorem dd_97_15 : decode (mB 97) 15 = .ok (.ireturn, 1) := by decide +kernel
theorem u_97_15 {G : aG} {S : Nat → Bool} {f : Nat} {ls : aL} {h : aH} {k n : Nat} {x : Int32} (hs : S 15 = false) : WP 97 G S (f + 1) 15 ls [.int x] h k n = (RET G (some (.int x)) h k n) := by rw [wp_s dd_97_15 rfl hs]; rfl
theorem dd_97_16 : decode (mB 97) 16 = .ok (.aload_n 0, 1) := by decide +kernel
theorem u_97_16 {G : aG} {S : Nat → Bool} {f : Nat} {st : List Value} {ls : aL} {h : aH} {k n : Nat} (hs : S 16 = false) : WP 97 G S (f + 1) 16 ls st h k n = (oA (lget ls 0) (WP 97 G S f) 17 ls st h k n) := by rw [wp_s dd_97_16 rfl hs]; rfl
theorem dd_97_17 : decode (mB 97) 17 = .ok (.iload_n 1, 1) := by decide +kernel
theorem u_97_17 {G : aG} {S : Nat → Bool} {f : Nat} {st : List Value} {ls : aL} {h : aH} {k n : Nat} (hs : S 17 = false) : WP 97 G S (f + 1) 17 ls st h k n = (oI (lget ls 1) (WP 97 G S f) 18 ls st h k n) := by rw [wp_s dd_97_17 rfl hs]; rfl
theorem dd_97_18 : decode (mB 97) 18 = .ok (.invokevirtual 140, 3) := by decide +kernel
theorem u_97_18 {G : aG} {S : Nat → Bool} {f : Nat} {st : List Value} {ls : aL} {h : aH} {k n : Nat} {v1 : Value} {b : Nat} (hs : S 18 = false) : WP 97 G S (f + 1) 18 ls (v1 :: .ref b :: st) h k n = (rcv (hget h b) 9 ∧ CAL G (WP 97 G S f) 98 [.ref b, v1] 21 ls st h k n) := by rw [wp_s dd_97_18 rfl hs]; rfl
theorem dd_97_21 : decode (mB 97) 21 = .ok (.ireturn, 1) := by decide +kernel
theorem u_97_21 {G : aG} {S : Nat → Bool} {f : Nat} {ls : aL} {h : aH} {k n : Nat} {x : Int32} (hs : S 21 = false) : WP 97 G S (f + 1) 21 ls [.int x] h k n = (RET G (some (.int x)) h k n) := by rw [wp_s dd_97_21 rfl hs]; rfl
theorem dd_98_0 : decode (mB 98) 0 = .ok (.iload_n 1, 1) := by decide +kernel
theorem u_98_0 {G : aG} {S : Nat → Bool} {f : Nat} {st : List Value} {ls : aL} {h : aH} {k n : Nat} (hs : S 0 = false) : WP 98 G S (f + 1) 0 ls st h k n = (oI (lget ls 1) (WP 98 G S f) 1 ls st h k n) := by rw [wp_s dd_98_0 rfl hs]; rfl
theorem dd_98_1 : decode (mB 98) 1 = .ok (.tableswitch 54 0 3 #[31, 36, 41, 46], 31) := by decide +kernel
theorem u_98_1 {G : aG} {S : Nat → Bool} {f : Nat} {st : List Value} {ls : aL} {h : aH} {k n : Nat} {x : Int32} (hs : S 1 = false) : WP 98 G S (f + 1) 1 ls (.int x :: st) h k n = (if x = nI 0 then WP 98 G S f 32 ls st h k n else (if x = nI 1 then WP 98 G S f 37 ls st h k n else (if x = nI 2 then WP 98 G S f 42 ls st h k n else (if x = nI 3 then WP 98 G S f 47 ls st h k n else (WP 98 G S f 55 ls st h k n))))) := by rw [wp_s dd_98_1 rfl hs]; show WP 98 G S f (tgtT 1 0 3 [31, 36, 41, 46] 54 x) ls st h k n = _; refine (ts_ite (K := fun q => WP 98 G S f q ls st h k n) (nI 0) rfl (by decide)).trans (if_cg ?_); refine (ts_ite (K := fun q => WP 98 G S f q ls st h k n) (nI 1) rfl (by decide)).trans (if_cg ?_); refine (ts_ite (K := fun q => WP 98 G S f q ls st h k n) (nI 2) rfl (by decide)).trans (if_cg ?_); refine (ts_ite (K := fun q => WP 98 G S f q ls st h k n) (nI 3) rfl (by decide)).trans (if_cg ?_); exact ts_nil (K := fun q => WP 98 G S f q ls st h k n) (by decide)
theorem dd_98_32 : decode (mB 98) 32 = .ok (.aload_n 0, 1) := by decide +kernel
theorem u_98_32 {G : aG} {S : Nat → Bool} {f : Nat} {st : List Value} {ls : aL} {h : aH} {k n : Nat} (hs : S 32 = false) : WP 98 G S (f + 1) 32 ls st h k n = (oA (lget ls 0) (WP 98 G S f) 33 ls st h k n) := by rw [wp_s dd_98_32 rfl hs]; rfl
theorem dd_98_33 : decode (mB 98) 33 = .ok (.getfield 151, 3) := by decide +kernel
theorem u_98_33 {G : aG} {S : Nat → Bool} {f : Nat} {st : List Value} {ls : aL} {h : aH} {k n : Nat} {a : Nat} (hs : S 33 = false) : WP 98 G S (f + 1) 33 ls (.ref a :: st) h k n = (oV (fget h a 9 7) (WP 98 G S f) 36 ls st h k n) := by rw [wp_s dd_98_33 rfl hs]; rfl
theorem dd_98_36 : decode (mB 98) 36 = .ok (.ireturn, 1) := by decide +kernel
theorem u_98_36 {G : aG} {S : Nat → Bool} {f : Nat} {ls : aL} {h : aH} {k n : Nat} {x : Int32} (hs : S 36 = false) : WP 98 G S (f + 1) 36 ls [.int x] h k n = (RET G (some (.int x)) h k n) := by rw [wp_s dd_98_36 rfl hs]; rfl
theorem dd_98_37 : decode (mB 98) 37 = .ok (.aload_n 0, 1) := by decide +kernel
theorem u_98_37 {G : aG} {S : Nat → Bool} {f : Nat} {st : List Value} {ls : aL} {h : aH} {k n : Nat} (hs : S 37 = false) : WP 98 G S (f + 1) 37 ls st h k n = (oA (lget ls 0) (WP 98 G S f) 38 ls st h k n) := by rw [wp_s dd_98_37 rfl hs]; rfl
theorem dd_98_38 : decode (mB 98) 38 = .ok (.getfield 154, 3) := by decide +kernel
theorem u_98_38 {G : aG} {S : Nat → Bool} {f : Nat} {st : List Value} {ls : aL} {h : aH} {k n : Nat} {a : Nat} (hs : S 38 = false) : WP 98 G S (f + 1) 38 ls (.ref a :: st) h k n = (oV (fget h a 9 8) (WP 98 G S f) 41 ls st h k n) := by rw [wp_s dd_98_38 rfl hs]; rfl
theorem dd_98_41 : decode (mB 98) 41 = .ok (.ireturn, 1) := by decide +kernel
theorem u_98_41 {G : aG} {S : Nat → Bool} {f : Nat} {ls : aL} {h : aH} {k n : Nat} {x : Int32} (hs : S 41 = false) : WP 98 G S (f + 1) 41 ls [.int x] h k n = (RET G (some (.int x)) h k n) := by rw [wp_s dd_98_41 rfl hs]; rfl
theorem dd_98_42 : decode (mB 98) 42 = .ok (.aload_n 0, 1) := by decide +kernel
theorem u_98_42 {G : aG} {S : Nat → Bool} {f : Nat} {st : List Value} {ls : aL} {h : aH} {k n : Nat} (hs : S 42 = false) : WP 98 G S (f + 1) 42 ls st h k n = (oA (lget ls 0) (WP 98 G S f) 43 ls st h k n) := by rw [wp_s dd_98_42 rfl hs]; rfl
theorem dd_98_43 : decode (mB 98) 43 = .ok (.getfield 157, 3) := by decide +kernel
theorem u_98_43 {G : aG} {S : Nat → Bool} {f : Nat} {st : List Value} {ls : aL} {h : aH} {k n : Nat} {a : Nat} (hs : S 43 = false) : WP 98 G S (f + 1) 43 ls (.ref a :: st) h k n = (oV (fget h a 9 9) (WP 98 G S f) 46 ls st h k n) := by rw [wp_s dd_98_43 rfl hs]; rfl
theorem dd_98_46 : decode (mB 98) 46 = .ok (.ireturn, 1) := by decide +kernel
theorem u_98_46 {G : aG} {S : Nat → Bool} {f : Nat} {ls : aL} {h : aH} {k n : Nat} {x : Int32} (hs : S 46 = false) : WP 98 G S (f + 1) 46 ls [.int x] h k n = (RET G (some (.int x)) h k n) := by rw [wp_s dd_98_46 rfl hs]; rfl
theorem dd_98_47 : decode (mB 98) 47 = .ok (.aload_n 0, 1) := by decide +kernel
theorem u_98_47 {G : aG} {S : Nat → Bool} {f : Nat} {st : List Value} {ls : aL} {h : aH} {k n : Nat} (hs : S 47 = false) : WP 98 G S (f + 1) 47 ls st h k n = (oA (lget ls 0) (WP 98 G S f) 48 ls st h k n) := by rw [wp_s dd_98_47 rfl hs]; rfl
theorem dd_98_48 : decode (mB 98) 48 = .ok (.getfield 10, 3) := by decide +kernel
theorem u_98_48 {G : aG} {S : Nat → Bool} {f : Nat} {st : List Value} {ls : aL} {h : aH} {k n : Nat} {a : Nat} (hs : S 48 = false) : WP 98 G S (f + 1) 48 ls (.ref a :: st) h k n = (oV (fget h a 9 0) (WP 98 G S f) 51 ls st h k n) := by rw [wp_s dd_98_48 rfl hs]; rfl
theorem dd_98_51 : decode (mB 98) 51 = .ok (.getfield 62, 3) := by decide +kernel
theorem u_98_51 {G : aG} {S : Nat → Bool} {f : Nat} {st : List Value} {ls : aL} {h : aH} {k n : Nat} {a : Nat} (hs : S 51 = false) : WP 98 G S (f + 1) 51 ls (.ref a :: st) h k n = (oV (fget h a 8 1) (WP 98 G S f) 54 ls st h k n) := by rw [wp_s dd_98_51 rfl hs]; rfl
theorem dd_98_54 : decode (mB 98) 54 = .ok (.ireturn, 1) := by decide +kernel
theorem u_98_54 {G : aG} {S : Nat → Bool} {f : Nat} {ls : aL} {h : aH} {k n : Nat} {x : Int32} (hs : S 54 = false) : WP 98 G S (f + 1) 54 ls [.int x] h k n = (RET G (some (.int x)) h k n) := by rw [wp_s dd_98_54 rfl hs]; rfl
theorem dd_98_55 : decode (mB 98) 55 = .ok (.aload_n 0, 1) := by decide +kernel
theorem u_98_55 {G : aG} {S : Nat → Bool} {f : Nat} {st : List Value} {ls : aL} {h : aH} {k n : Nat} (hs : S 55 = false) : WP 98 G S (f + 1) 55 ls st h k n = (oA (lget ls 0) (WP 98 G S f) 56 ls st h k n) := by rw [wp_s dd_98_55 rfl hs]; rfl
theorem dd_98_56 : decode (mB 98) 56 = .ok (.getfield 26, 3) := by decide +kernel
theorem u_98_56 {G : aG} {S : Nat → Bool} {f : Nat} {st : List Value} {ls : aL} {h : aH} {k n : Nat} {a : Nat} (hs : S 56 = false) : WP 98 G S (f + 1) 56 ls (.ref a :: st) h k n = (oV (fget h a 9 2) (WP 98 G S f) 59 ls st h k n) := by rw [wp_s dd_98_56 rfl hs]; rfl
theorem dd_98_59 : decode (mB 98) 59 = .ok (.getfield 135, 3) := by decide +kernel
theorem u_98_59 {G : aG} {S : Nat → Bool} {f : Nat} {st : List Value} {ls : aL} {h : aH} {k n : Nat} {a : Nat} (hs : S 59 = false) : WP 98 G S (f + 1) 59 ls (.ref a :: st) h k n = (oV (fget h a 4 1) (WP 98 G S f) 62 ls st h k n) := by rw [wp_s dd_98_59 rfl hs]; rfl
theorem dd_98_62 : decode (mB 98) 62 = .ok (.ireturn, 1) := by decide +kernel
theorem u_98_62 {G : aG} {S : Nat → Bool} {f : Nat} {ls : aL} {h : aH} {k n : Nat} {x : Int32} (hs : S 62 = false) : WP 98 G S (f + 1) 62 ls [.int x] h k n = (RET G (some (.int x)) h k n) := by rw [wp_s dd_98_62 rfl hs]; rfl
theorem dd_99_0 : decode (mB 99) 0 = .ok (.ldc2_w 143, 3) := by decide +kernel
theorem u_99_0 {G : aG} {S : Nat → Bool} {f : Nat} {st : List Value} {ls : aL} {h : aH} {k n : Nat} (hs : S 0 = false) : WP 99 G S (f + 1) 0 ls st h k n = (WP 99 G S f 3 ls (.long (lN 2521) :: st) h k n) := by rw [wp_s dd_99_0 rfl hs]; rfl
theorem dd_99_3 : decode (mB 99) 3 = .ok (.lstore_n 1, 1) := by decide +kernel
theorem u_99_3 {G : aG} {S : Nat → Bool} {f : Nat} {st : List Value} {ls : aL} {h : aH} {k n : Nat} {x : Int64} (hs : S 3 = false) : WP 99 G S (f + 1) 3 ls (.long x :: st) h k n = (WP 99 G S f 4 (lput2 ls 1 (.long x)) st h k n) := by rw [wp_s dd_99_3 rfl hs]; rfl
theorem dd_99_4 : decode (mB 99) 4 = .ok (.iconst 0, 1) := by decide +kernel
theorem u_99_4 {G : aG} {S : Nat → Bool} {f : Nat} {st : List Value} {ls : aL} {h : aH} {k n : Nat} (hs : S 4 = false) : WP 99 G S (f + 1) 4 ls st h k n = (WP 99 G S f 5 ls (.int (nI 0) :: st) h k n) := by rw [wp_s dd_99_4 rfl hs]; rfl
theorem dd_99_5 : decode (mB 99) 5 = .ok (.istore_n 3, 1) := by decide +kernel
theorem u_99_5 {G : aG} {S : Nat → Bool} {f : Nat} {st : List Value} {ls : aL} {h : aH} {k n : Nat} {x : Int32} (hs : S 5 = false) : WP 99 G S (f + 1) 5 ls (.int x :: st) h k n = (WP 99 G S f 6 (lput1 ls 3 (.int x)) st h k n) := by rw [wp_s dd_99_5 rfl hs]; rfl
theorem dd_99_6 : decode (mB 99) 6 = .ok (.iload_n 3, 1) := by decide +kernel
theorem u_99_6 {G : aG} {S : Nat → Bool} {f : Nat} {st : List Value} {ls : aL} {h : aH} {k n : Nat} (hs : S 6 = false) : WP 99 G S (f + 1) 6 ls st h k n = (oI (lget ls 3) (WP 99 G S f) 7 ls st h k n) := by rw [wp_s dd_99_6 rfl hs]; rfl
theorem v_99_6 {G : aG} {S : Nat → Bool} {f : Nat} {st : List Value} {ls : aL} {h : aH} {k n : Nat} : WQ 99 G S f 6 ls st h k n = (oI (lget ls 3) (WP 99 G S f) 7 ls st h k n) := by rw [wq_s dd_99_6 rfl]; rfl
theorem dd_99_7 : decode (mB 99) 7 = .ok (.iconst 4, 1) := by decide +kernel
theorem u_99_7 {G : aG} {S : Nat → Bool} {f : Nat} {st : List Value} {ls : aL} {h : aH} {k n : Nat} (hs : S 7 = false) : WP 99 G S (f + 1) 7 ls st h k n = (WP 99 G S f 8 ls (.int (nI 4) :: st) h k n) := by rw [wp_s dd_99_7 rfl hs]; rfl
theorem dd_99_8 : decode (mB 99) 8 = .ok (.if_icmp .gt 22, 3) := by decide +kernel
theorem u_99_8 {G : aG} {S : Nat → Bool} {f : Nat} {st : List Value} {ls : aL} {h : aH} {k n : Nat} {x y : Int32} (hs : S 8 = false) : WP 99 G S (f + 1) 8 ls (.int y :: .int x :: st) h k n = (if y < x then WP 99 G S f 30 ls st h k n else WP 99 G S f 11 ls st h k n) := by rw [wp_s dd_99_8 rfl hs]; exact br_ite (c := y < x)
theorem dd_99_11 : decode (mB 99) 11 = .ok (.ldc2_w 145, 3) := by decide +kernel
theorem u_99_11 {G : aG} {S : Nat → Bool} {f : Nat} {st : List Value} {ls : aL} {h : aH} {k n : Nat} (hs : S 11 = false) : WP 99 G S (f + 1) 11 ls st h k n = (WP 99 G S f 14 ls (.long (lN 31) :: st) h k n) := by rw [wp_s dd_99_11 rfl hs]; rfl
theorem dd_99_14 : decode (mB 99) 14 = .ok (.lload_n 1, 1) := by decide +kernel
theorem u_99_14 {G : aG} {S : Nat → Bool} {f : Nat} {st : List Value} {ls : aL} {h : aH} {k n : Nat} (hs : S 14 = false) : WP 99 G S (f + 1) 14 ls st h k n = (oJ (lget ls 1) (WP 99 G S f) 15 ls st h k n) := by rw [wp_s dd_99_14 rfl hs]; rfl
theorem dd_99_15 : decode (mB 99) 15 = .ok (.lmul, 1) := by decide +kernel
theorem u_99_15 {G : aG} {S : Nat → Bool} {f : Nat} {st : List Value} {ls : aL} {h : aH} {k n : Nat} {x y : Int64} (hs : S 15 = false) : WP 99 G S (f + 1) 15 ls (.long y :: .long x :: st) h k n = (WP 99 G S f 16 ls (.long (x * y) :: st) h k n) := by rw [wp_s dd_99_15 rfl hs]; rfl
theorem dd_99_16 : decode (mB 99) 16 = .ok (.aload_n 0, 1) := by decide +kernel
theorem u_99_16 {G : aG} {S : Nat → Bool} {f : Nat} {st : List Value} {ls : aL} {h : aH} {k n : Nat} (hs : S 16 = false) : WP 99 G S (f + 1) 16 ls st h k n = (oA (lget ls 0) (WP 99 G S f) 17 ls st h k n) := by rw [wp_s dd_99_16 rfl hs]; rfl
theorem dd_99_17 : decode (mB 99) 17 = .ok (.iload_n 3, 1) := by decide +kernel
theorem u_99_17 {G : aG} {S : Nat → Bool} {f : Nat} {st : List Value} {ls : aL} {h : aH} {k n : Nat} (hs : S 17 = false) : WP 99 G S (f + 1) 17 ls st h k n = (oI (lget ls 3) (WP 99 G S f) 18 ls st h k n) := by rw [wp_s dd_99_17 rfl hs]; rfl
theorem dd_99_18 : decode (mB 99) 18 = .ok (.invokevirtual 140, 3) := by decide +kernel
theorem u_99_18 {G : aG} {S : Nat → Bool} {f : Nat} {st : List Value} {ls : aL} {h : aH} {k n : Nat} {v1 : Value} {b : Nat} (hs : S 18 = false) : WP 99 G S (f + 1) 18 ls (v1 :: .ref b :: st) h k n = (rcv (hget h b) 9 ∧ CAL G (WP 99 G S f) 98 [.ref b, v1] 21 ls st h k n) := by rw [wp_s dd_99_18 rfl hs]; rfl
theorem dd_99_21 : decode (mB 99) 21 = .ok (.i2l, 1) := by decide +kernel
theorem u_99_21 {G : aG} {S : Nat → Bool} {f : Nat} {st : List Value} {ls : aL} {h : aH} {k n : Nat} {x : Int32} (hs : S 21 = false) : WP 99 G S (f + 1) 21 ls (.int x :: st) h k n = (WP 99 G S f 22 ls (.long x.toInt64 :: st) h k n) := by rw [wp_s dd_99_21 rfl hs]; rfl
theorem dd_99_22 : decode (mB 99) 22 = .ok (.ladd, 1) := by decide +kernel
theorem u_99_22 {G : aG} {S : Nat → Bool} {f : Nat} {st : List Value} {ls : aL} {h : aH} {k n : Nat} {x y : Int64} (hs : S 22 = false) : WP 99 G S (f + 1) 22 ls (.long y :: .long x :: st) h k n = (WP 99 G S f 23 ls (.long (x + y) :: st) h k n) := by rw [wp_s dd_99_22 rfl hs]; rfl
theorem dd_99_23 : decode (mB 99) 23 = .ok (.lstore_n 1, 1) := by decide +kernel
theorem u_99_23 {G : aG} {S : Nat → Bool} {f : Nat} {st : List Value} {ls : aL} {h : aH} {k n : Nat} {x : Int64} (hs : S 23 = false) : WP 99 G S (f + 1) 23 ls (.long x :: st) h k n = (WP 99 G S f 24 (lput2 ls 1 (.long x)) st h k n) := by rw [wp_s dd_99_23 rfl hs]; rfl
theorem dd_99_24 : decode (mB 99) 24 = .ok (.iinc 3 1, 3) := by decide +kernel
theorem u_99_24 {G : aG} {S : Nat → Bool} {f : Nat} {st : List Value} {ls : aL} {h : aH} {k n : Nat} (hs : S 24 = false) : WP 99 G S (f + 1) 24 ls st h k n = (oInc (lget ls 3) (nI 1) (WP 99 G S f) 3 27 ls st h k n) := by rw [wp_s dd_99_24 rfl hs]; rfl
theorem dd_99_27 : decode (mB 99) 27 = .ok (.goto (-21), 3) := by decide +kernel
theorem u_99_27 {G : aG} {S : Nat → Bool} {f : Nat} {st : List Value} {ls : aL} {h : aH} {k n : Nat} (hs : S 27 = false) : WP 99 G S (f + 1) 27 ls st h k n = (WP 99 G S f 6 ls st h k n) := by rw [wp_s dd_99_27 rfl hs]; rfl
theorem dd_99_30 : decode (mB 99) 30 = .ok (.iconst 0, 1) := by decide +kernel
theorem u_99_30 {G : aG} {S : Nat → Bool} {f : Nat} {st : List Value} {ls : aL} {h : aH} {k n : Nat} (hs : S 30 = false) : WP 99 G S (f + 1) 30 ls st h k n = (WP 99 G S f 31 ls (.int (nI 0) :: st) h k n) := by rw [wp_s dd_99_30 rfl hs]; rfl
theorem dd_99_31 : decode (mB 99) 31 = .ok (.istore_n 3, 1) := by decide +kernel
theorem u_99_31 {G : aG} {S : Nat → Bool} {f : Nat} {st : List Value} {ls : aL} {h : aH} {k n : Nat} {x : Int32} (hs : S 31 = false) : WP 99 G S (f + 1) 31 ls (.int x :: st) h k n = (WP 99 G S f 32 (lput1 ls 3 (.int x)) st h k n) := by rw [wp_s dd_99_31 rfl hs]; rfl
theorem dd_99_32 : decode (mB 99) 32 = .ok (.iload_n 3, 1) := by decide +kernel
theorem u_99_32 {G : aG} {S : Nat → Bool} {f : Nat} {st : List Value} {ls : aL} {h : aH} {k n : Nat} (hs : S 32 = false) : WP 99 G S (f + 1) 32 ls st h k n = (oI (lget ls 3) (WP 99 G S f) 33 ls st h k n) := by rw [wp_s dd_99_32 rfl hs]; rfl
theorem v_99_32 {G : aG} {S : Nat → Bool} {f : Nat} {st : List Value} {ls : aL} {h : aH} {k n : Nat} : WQ 99 G S f 32 ls st h k n = (oI (lget ls 3) (WP 99 G S f) 33 ls st h k n) := by rw [wq_s dd_99_32 rfl]; rfl
theorem dd_99_33 : decode (mB 99) 33 = .ok (.bipush 9, 2) := by decide +kernel
theorem u_99_33 {G : aG} {S : Nat → Bool} {f : Nat} {st : List Value} {ls : aL} {h : aH} {k n : Nat} (hs : S 33 = false) : WP 99 G S (f + 1) 33 ls st h k n = (WP 99 G S f 35 ls (.int (nI 9) :: st) h k n) := by rw [wp_s dd_99_33 rfl hs]; rfl
theorem dd_99_35 : decode (mB 99) 35 = .ok (.if_icmp .ge 94, 3) := by decide +kernel
theorem u_99_35 {G : aG} {S : Nat → Bool} {f : Nat} {st : List Value} {ls : aL} {h : aH} {k n : Nat} {x y : Int32} (hs : S 35 = false) : WP 99 G S (f + 1) 35 ls (.int y :: .int x :: st) h k n = (if y ≤ x then WP 99 G S f 129 ls st h k n else WP 99 G S f 38 ls st h k n) := by rw [wp_s dd_99_35 rfl hs]; exact br_ite (c := y ≤ x)
theorem dd_99_38 : decode (mB 99) 38 = .ok (.aload_n 0, 1) := by decide +kernel
theorem u_99_38 {G : aG} {S : Nat → Bool} {f : Nat} {st : List Value} {ls : aL} {h : aH} {k n : Nat} (hs : S 38 = false) : WP 99 G S (f + 1) 38 ls st h k n = (oA (lget ls 0) (WP 99 G S f) 39 ls st h k n) := by rw [wp_s dd_99_38 rfl hs]; rfl
theorem dd_99_39 : decode (mB 99) 39 = .ok (.getfield 40, 3) := by decide +kernel
theorem u_99_39 {G : aG} {S : Nat → Bool} {f : Nat} {st : List Value} {ls : aL} {h : aH} {k n : Nat} {a : Nat} (hs : S 39 = false) : WP 99 G S (f + 1) 39 ls (.ref a :: st) h k n = (oV (fget h a 9 4) (WP 99 G S f) 42 ls st h k n) := by rw [wp_s dd_99_39 rfl hs]; rfl
theorem dd_99_42 : decode (mB 99) 42 = .ok (.iload_n 3, 1) := by decide +kernel
theorem u_99_42 {G : aG} {S : Nat → Bool} {f : Nat} {st : List Value} {ls : aL} {h : aH} {k n : Nat} (hs : S 42 = false) : WP 99 G S (f + 1) 42 ls st h k n = (oI (lget ls 3) (WP 99 G S f) 43 ls st h k n) := by rw [wp_s dd_99_42 rfl hs]; rfl
theorem dd_99_43 : decode (mB 99) 43 = .ok (.invokevirtual 102, 3) := by decide +kernel
theorem u_99_43 {G : aG} {S : Nat → Bool} {f : Nat} {st : List Value} {ls : aL} {h : aH} {k n : Nat} {v1 : Value} {b : Nat} (hs : S 43 = false) : WP 99 G S (f + 1) 43 ls (v1 :: .ref b :: st) h k n = (rcv (hget h b) 3 ∧ CAL G (WP 99 G S f) 58 [.ref b, v1] 46 ls st h k n) := by rw [wp_s dd_99_43 rfl hs]; rfl
theorem dd_99_46 : decode (mB 99) 46 = .ok (.astore 4, 2) := by decide +kernel
theorem u_99_46 {G : aG} {S : Nat → Bool} {f : Nat} {st : List Value} {ls : aL} {h : aH} {k n : Nat} {x : Nat} (hs : S 46 = false) : WP 99 G S (f + 1) 46 ls (.ref x :: st) h k n = (WP 99 G S f 48 (lput1 ls 4 (.ref x)) st h k n) := by rw [wp_s dd_99_46 rfl hs]; rfl
theorem dd_99_48 : decode (mB 99) 48 = .ok (.iconst 0, 1) := by decide +kernel
theorem u_99_48 {G : aG} {S : Nat → Bool} {f : Nat} {st : List Value} {ls : aL} {h : aH} {k n : Nat} (hs : S 48 = false) : WP 99 G S (f + 1) 48 ls st h k n = (WP 99 G S f 49 ls (.int (nI 0) :: st) h k n) := by rw [wp_s dd_99_48 rfl hs]; rfl
theorem dd_99_49 : decode (mB 99) 49 = .ok (.istore 5, 2) := by decide +kernel
theorem u_99_49 {G : aG} {S : Nat → Bool} {f : Nat} {st : List Value} {ls : aL} {h : aH} {k n : Nat} {x : Int32} (hs : S 49 = false) : WP 99 G S (f + 1) 49 ls (.int x :: st) h k n = (WP 99 G S f 51 (lput1 ls 5 (.int x)) st h k n) := by rw [wp_s dd_99_49 rfl hs]; rfl
theorem dd_99_51 : decode (mB 99) 51 = .ok (.iload 5, 2) := by decide +kernel
theorem u_99_51 {G : aG} {S : Nat → Bool} {f : Nat} {st : List Value} {ls : aL} {h : aH} {k n : Nat} (hs : S 51 = false) : WP 99 G S (f + 1) 51 ls st h k n = (oI (lget ls 5) (WP 99 G S f) 53 ls st h k n) := by rw [wp_s dd_99_51 rfl hs]; rfl
theorem v_99_51 {G : aG} {S : Nat → Bool} {f : Nat} {st : List Value} {ls : aL} {h : aH} {k n : Nat} : WQ 99 G S f 51 ls st h k n = (oI (lget ls 5) (WP 99 G S f) 53 ls st h k n) := by rw [wq_s dd_99_51 rfl]; rfl
theorem dd_99_53 : decode (mB 99) 53 = .ok (.iconst 3, 1) := by decide +kernel
theorem u_99_53 {G : aG} {S : Nat → Bool} {f : Nat} {st : List Value} {ls : aL} {h : aH} {k n : Nat} (hs : S 53 = false) : WP 99 G S (f + 1) 53 ls st h k n = (WP 99 G S f 54 ls (.int (nI 3) :: st) h k n) := by rw [wp_s dd_99_53 rfl hs]; rfl
theorem dd_99_54 : decode (mB 99) 54 = .ok (.if_icmp .gt 24, 3) := by decide +kernel
theorem u_99_54 {G : aG} {S : Nat → Bool} {f : Nat} {st : List Value} {ls : aL} {h : aH} {k n : Nat} {x y : Int32} (hs : S 54 = false) : WP 99 G S (f + 1) 54 ls (.int y :: .int x :: st) h k n = (if y < x then WP 99 G S f 78 ls st h k n else WP 99 G S f 57 ls st h k n) := by rw [wp_s dd_99_54 rfl hs]; exact br_ite (c := y < x)
theorem dd_99_57 : decode (mB 99) 57 = .ok (.ldc2_w 145, 3) := by decide +kernel
theorem u_99_57 {G : aG} {S : Nat → Bool} {f : Nat} {st : List Value} {ls : aL} {h : aH} {k n : Nat} (hs : S 57 = false) : WP 99 G S (f + 1) 57 ls st h k n = (WP 99 G S f 60 ls (.long (lN 31) :: st) h k n) := by rw [wp_s dd_99_57 rfl hs]; rfl
theorem dd_99_60 : decode (mB 99) 60 = .ok (.lload_n 1, 1) := by decide +kernel
theorem u_99_60 {G : aG} {S : Nat → Bool} {f : Nat} {st : List Value} {ls : aL} {h : aH} {k n : Nat} (hs : S 60 = false) : WP 99 G S (f + 1) 60 ls st h k n = (oJ (lget ls 1) (WP 99 G S f) 61 ls st h k n) := by rw [wp_s dd_99_60 rfl hs]; rfl
theorem dd_99_61 : decode (mB 99) 61 = .ok (.lmul, 1) := by decide +kernel
theorem u_99_61 {G : aG} {S : Nat → Bool} {f : Nat} {st : List Value} {ls : aL} {h : aH} {k n : Nat} {x y : Int64} (hs : S 61 = false) : WP 99 G S (f + 1) 61 ls (.long y :: .long x :: st) h k n = (WP 99 G S f 62 ls (.long (x * y) :: st) h k n) := by rw [wp_s dd_99_61 rfl hs]; rfl
theorem dd_99_62 : decode (mB 99) 62 = .ok (.aload 4, 2) := by decide +kernel
theorem u_99_62 {G : aG} {S : Nat → Bool} {f : Nat} {st : List Value} {ls : aL} {h : aH} {k n : Nat} (hs : S 62 = false) : WP 99 G S (f + 1) 62 ls st h k n = (oA (lget ls 4) (WP 99 G S f) 64 ls st h k n) := by rw [wp_s dd_99_62 rfl hs]; rfl
theorem dd_99_64 : decode (mB 99) 64 = .ok (.iload 5, 2) := by decide +kernel
theorem u_99_64 {G : aG} {S : Nat → Bool} {f : Nat} {st : List Value} {ls : aL} {h : aH} {k n : Nat} (hs : S 64 = false) : WP 99 G S (f + 1) 64 ls st h k n = (oI (lget ls 5) (WP 99 G S f) 66 ls st h k n) := by rw [wp_s dd_99_64 rfl hs]; rfl
theorem dd_99_66 : decode (mB 99) 66 = .ok (.invokestatic 106, 3) := by decide +kernel
theorem u_99_66 {G : aG} {S : Nat → Bool} {f : Nat} {st : List Value} {ls : aL} {h : aH} {k n : Nat} {v1 v2 : Value} (hs : S 66 = false) : WP 99 G S (f + 1) 66 ls (v2 :: v1 :: st) h k n = (CAL G (WP 99 G S f) 59 [v1, v2] 69 ls st h k n) := by rw [wp_s dd_99_66 rfl hs]; rfl
theorem dd_99_69 : decode (mB 99) 69 = .ok (.i2l, 1) := by decide +kernel
theorem u_99_69 {G : aG} {S : Nat → Bool} {f : Nat} {st : List Value} {ls : aL} {h : aH} {k n : Nat} {x : Int32} (hs : S 69 = false) : WP 99 G S (f + 1) 69 ls (.int x :: st) h k n = (WP 99 G S f 70 ls (.long x.toInt64 :: st) h k n) := by rw [wp_s dd_99_69 rfl hs]; rfl
theorem dd_99_70 : decode (mB 99) 70 = .ok (.ladd, 1) := by decide +kernel
theorem u_99_70 {G : aG} {S : Nat → Bool} {f : Nat} {st : List Value} {ls : aL} {h : aH} {k n : Nat} {x y : Int64} (hs : S 70 = false) : WP 99 G S (f + 1) 70 ls (.long y :: .long x :: st) h k n = (WP 99 G S f 71 ls (.long (x + y) :: st) h k n) := by rw [wp_s dd_99_70 rfl hs]; rfl
theorem dd_99_71 : decode (mB 99) 71 = .ok (.lstore_n 1, 1) := by decide +kernel
theorem u_99_71 {G : aG} {S : Nat → Bool} {f : Nat} {st : List Value} {ls : aL} {h : aH} {k n : Nat} {x : Int64} (hs : S 71 = false) : WP 99 G S (f + 1) 71 ls (.long x :: st) h k n = (WP 99 G S f 72 (lput2 ls 1 (.long x)) st h k n) := by rw [wp_s dd_99_71 rfl hs]; rfl
theorem dd_99_72 : decode (mB 99) 72 = .ok (.iinc 5 1, 3) := by decide +kernel
theorem u_99_72 {G : aG} {S : Nat → Bool} {f : Nat} {st : List Value} {ls : aL} {h : aH} {k n : Nat} (hs : S 72 = false) : WP 99 G S (f + 1) 72 ls st h k n = (oInc (lget ls 5) (nI 1) (WP 99 G S f) 5 75 ls st h k n) := by rw [wp_s dd_99_72 rfl hs]; rfl
theorem dd_99_75 : decode (mB 99) 75 = .ok (.goto (-24), 3) := by decide +kernel
theorem u_99_75 {G : aG} {S : Nat → Bool} {f : Nat} {st : List Value} {ls : aL} {h : aH} {k n : Nat} (hs : S 75 = false) : WP 99 G S (f + 1) 75 ls st h k n = (WP 99 G S f 51 ls st h k n) := by rw [wp_s dd_99_75 rfl hs]; rfl
theorem dd_99_78 : decode (mB 99) 78 = .ok (.aload_n 0, 1) := by decide +kernel
theorem u_99_78 {G : aG} {S : Nat → Bool} {f : Nat} {st : List Value} {ls : aL} {h : aH} {k n : Nat} (hs : S 78 = false) : WP 99 G S (f + 1) 78 ls st h k n = (oA (lget ls 0) (WP 99 G S f) 79 ls st h k n) := by rw [wp_s dd_99_78 rfl hs]; rfl
theorem dd_99_79 : decode (mB 99) 79 = .ok (.getfield 47, 3) := by decide +kernel
theorem u_99_79 {G : aG} {S : Nat → Bool} {f : Nat} {st : List Value} {ls : aL} {h : aH} {k n : Nat} {a : Nat} (hs : S 79 = false) : WP 99 G S (f + 1) 79 ls (.ref a :: st) h k n = (oV (fget h a 9 5) (WP 99 G S f) 82 ls st h k n) := by rw [wp_s dd_99_79 rfl hs]; rfl
theorem dd_99_82 : decode (mB 99) 82 = .ok (.aload 4, 2) := by decide +kernel
theorem u_99_82 {G : aG} {S : Nat → Bool} {f : Nat} {st : List Value} {ls : aL} {h : aH} {k n : Nat} (hs : S 82 = false) : WP 99 G S (f + 1) 82 ls st h k n = (oA (lget ls 4) (WP 99 G S f) 84 ls st h k n) := by rw [wp_s dd_99_82 rfl hs]; rfl
theorem dd_99_84 : decode (mB 99) 84 = .ok (.iconst 4, 1) := by decide +kernel
theorem u_99_84 {G : aG} {S : Nat → Bool} {f : Nat} {st : List Value} {ls : aL} {h : aH} {k n : Nat} (hs : S 84 = false) : WP 99 G S (f + 1) 84 ls st h k n = (WP 99 G S f 85 ls (.int (nI 4) :: st) h k n) := by rw [wp_s dd_99_84 rfl hs]; rfl
theorem dd_99_85 : decode (mB 99) 85 = .ok (.invokevirtual 110, 3) := by decide +kernel
theorem u_99_85 {G : aG} {S : Nat → Bool} {f : Nat} {st : List Value} {ls : aL} {h : aH} {k n : Nat} {v1 v2 : Value} {b : Nat} (hs : S 85 = false) : WP 99 G S (f + 1) 85 ls (v2 :: v1 :: .ref b :: st) h k n = (rcv (hget h b) 6 ∧ CAL G (WP 99 G S f) 65 [.ref b, v1, v2] 88 ls st h k n) := by rw [wp_s dd_99_85 rfl hs]; rfl
theorem dd_99_88 : decode (mB 99) 88 = .ok (.pop, 1) := by decide +kernel
theorem u_99_88 {G : aG} {S : Nat → Bool} {f : Nat} {st : List Value} {ls : aL} {h : aH} {k n : Nat} {v : Value} (hs : S 88 = false) : WP 99 G S (f + 1) 88 ls (v :: st) h k n = (cond (cat1 v) (WP 99 G S f 89 ls st h k n) False) := by rw [wp_s dd_99_88 rfl hs]; rfl
theorem dd_99_89 : decode (mB 99) 89 = .ok (.iconst 1, 1) := by decide +kernel
theorem u_99_89 {G : aG} {S : Nat → Bool} {f : Nat} {st : List Value} {ls : aL} {h : aH} {k n : Nat} (hs : S 89 = false) : WP 99 G S (f + 1) 89 ls st h k n = (WP 99 G S f 90 ls (.int (nI 1) :: st) h k n) := by rw [wp_s dd_99_89 rfl hs]; rfl
theorem dd_99_90 : decode (mB 99) 90 = .ok (.istore 5, 2) := by decide +kernel
theorem u_99_90 {G : aG} {S : Nat → Bool} {f : Nat} {st : List Value} {ls : aL} {h : aH} {k n : Nat} {x : Int32} (hs : S 90 = false) : WP 99 G S (f + 1) 90 ls (.int x :: st) h k n = (WP 99 G S f 92 (lput1 ls 5 (.int x)) st h k n) := by rw [wp_s dd_99_90 rfl hs]; rfl
theorem dd_99_92 : decode (mB 99) 92 = .ok (.iload 5, 2) := by decide +kernel
theorem u_99_92 {G : aG} {S : Nat → Bool} {f : Nat} {st : List Value} {ls : aL} {h : aH} {k n : Nat} (hs : S 92 = false) : WP 99 G S (f + 1) 92 ls st h k n = (oI (lget ls 5) (WP 99 G S f) 94 ls st h k n) := by rw [wp_s dd_99_92 rfl hs]; rfl
theorem v_99_92 {G : aG} {S : Nat → Bool} {f : Nat} {st : List Value} {ls : aL} {h : aH} {k n : Nat} : WQ 99 G S f 92 ls st h k n = (oI (lget ls 5) (WP 99 G S f) 94 ls st h k n) := by rw [wq_s dd_99_92 rfl]; rfl
theorem dd_99_94 : decode (mB 99) 94 = .ok (.iconst 4, 1) := by decide +kernel
theorem u_99_94 {G : aG} {S : Nat → Bool} {f : Nat} {st : List Value} {ls : aL} {h : aH} {k n : Nat} (hs : S 94 = false) : WP 99 G S (f + 1) 94 ls st h k n = (WP 99 G S f 95 ls (.int (nI 4) :: st) h k n) := by rw [wp_s dd_99_94 rfl hs]; rfl
theorem dd_99_95 : decode (mB 99) 95 = .ok (.if_icmp .gt 28, 3) := by decide +kernel
theorem u_99_95 {G : aG} {S : Nat → Bool} {f : Nat} {st : List Value} {ls : aL} {h : aH} {k n : Nat} {x y : Int32} (hs : S 95 = false) : WP 99 G S (f + 1) 95 ls (.int y :: .int x :: st) h k n = (if y < x then WP 99 G S f 123 ls st h k n else WP 99 G S f 98 ls st h k n) := by rw [wp_s dd_99_95 rfl hs]; exact br_ite (c := y < x)
theorem dd_99_98 : decode (mB 99) 98 = .ok (.ldc2_w 145, 3) := by decide +kernel
theorem u_99_98 {G : aG} {S : Nat → Bool} {f : Nat} {st : List Value} {ls : aL} {h : aH} {k n : Nat} (hs : S 98 = false) : WP 99 G S (f + 1) 98 ls st h k n = (WP 99 G S f 101 ls (.long (lN 31) :: st) h k n) := by rw [wp_s dd_99_98 rfl hs]; rfl
theorem dd_99_101 : decode (mB 99) 101 = .ok (.lload_n 1, 1) := by decide +kernel
theorem u_99_101 {G : aG} {S : Nat → Bool} {f : Nat} {st : List Value} {ls : aL} {h : aH} {k n : Nat} (hs : S 101 = false) : WP 99 G S (f + 1) 101 ls st h k n = (oJ (lget ls 1) (WP 99 G S f) 102 ls st h k n) := by rw [wp_s dd_99_101 rfl hs]; rfl
theorem dd_99_102 : decode (mB 99) 102 = .ok (.lmul, 1) := by decide +kernel
theorem u_99_102 {G : aG} {S : Nat → Bool} {f : Nat} {st : List Value} {ls : aL} {h : aH} {k n : Nat} {x y : Int64} (hs : S 102 = false) : WP 99 G S (f + 1) 102 ls (.long y :: .long x :: st) h k n = (WP 99 G S f 103 ls (.long (x * y) :: st) h k n) := by rw [wp_s dd_99_102 rfl hs]; rfl
theorem dd_99_103 : decode (mB 99) 103 = .ok (.aload_n 0, 1) := by decide +kernel
theorem u_99_103 {G : aG} {S : Nat → Bool} {f : Nat} {st : List Value} {ls : aL} {h : aH} {k n : Nat} (hs : S 103 = false) : WP 99 G S (f + 1) 103 ls st h k n = (oA (lget ls 0) (WP 99 G S f) 104 ls st h k n) := by rw [wp_s dd_99_103 rfl hs]; rfl
theorem dd_99_104 : decode (mB 99) 104 = .ok (.getfield 47, 3) := by decide +kernel
theorem u_99_104 {G : aG} {S : Nat → Bool} {f : Nat} {st : List Value} {ls : aL} {h : aH} {k n : Nat} {a : Nat} (hs : S 104 = false) : WP 99 G S (f + 1) 104 ls (.ref a :: st) h k n = (oV (fget h a 9 5) (WP 99 G S f) 107 ls st h k n) := by rw [wp_s dd_99_104 rfl hs]; rfl
theorem dd_99_107 : decode (mB 99) 107 = .ok (.aload 4, 2) := by decide +kernel
theorem u_99_107 {G : aG} {S : Nat → Bool} {f : Nat} {st : List Value} {ls : aL} {h : aH} {k n : Nat} (hs : S 107 = false) : WP 99 G S (f + 1) 107 ls st h k n = (oA (lget ls 4) (WP 99 G S f) 109 ls st h k n) := by rw [wp_s dd_99_107 rfl hs]; rfl
theorem dd_99_109 : decode (mB 99) 109 = .ok (.iload 5, 2) := by decide +kernel
theorem u_99_109 {G : aG} {S : Nat → Bool} {f : Nat} {st : List Value} {ls : aL} {h : aH} {k n : Nat} (hs : S 109 = false) : WP 99 G S (f + 1) 109 ls st h k n = (oI (lget ls 5) (WP 99 G S f) 111 ls st h k n) := by rw [wp_s dd_99_109 rfl hs]; rfl
theorem dd_99_111 : decode (mB 99) 111 = .ok (.invokevirtual 110, 3) := by decide +kernel
theorem u_99_111 {G : aG} {S : Nat → Bool} {f : Nat} {st : List Value} {ls : aL} {h : aH} {k n : Nat} {v1 v2 : Value} {b : Nat} (hs : S 111 = false) : WP 99 G S (f + 1) 111 ls (v2 :: v1 :: .ref b :: st) h k n = (rcv (hget h b) 6 ∧ CAL G (WP 99 G S f) 65 [.ref b, v1, v2] 114 ls st h k n) := by rw [wp_s dd_99_111 rfl hs]; rfl
theorem dd_99_114 : decode (mB 99) 114 = .ok (.i2l, 1) := by decide +kernel
theorem u_99_114 {G : aG} {S : Nat → Bool} {f : Nat} {st : List Value} {ls : aL} {h : aH} {k n : Nat} {x : Int32} (hs : S 114 = false) : WP 99 G S (f + 1) 114 ls (.int x :: st) h k n = (WP 99 G S f 115 ls (.long x.toInt64 :: st) h k n) := by rw [wp_s dd_99_114 rfl hs]; rfl
theorem dd_99_115 : decode (mB 99) 115 = .ok (.ladd, 1) := by decide +kernel
theorem u_99_115 {G : aG} {S : Nat → Bool} {f : Nat} {st : List Value} {ls : aL} {h : aH} {k n : Nat} {x y : Int64} (hs : S 115 = false) : WP 99 G S (f + 1) 115 ls (.long y :: .long x :: st) h k n = (WP 99 G S f 116 ls (.long (x + y) :: st) h k n) := by rw [wp_s dd_99_115 rfl hs]; rfl
theorem dd_99_116 : decode (mB 99) 116 = .ok (.lstore_n 1, 1) := by decide +kernel
theorem u_99_116 {G : aG} {S : Nat → Bool} {f : Nat} {st : List Value} {ls : aL} {h : aH} {k n : Nat} {x : Int64} (hs : S 116 = false) : WP 99 G S (f + 1) 116 ls (.long x :: st) h k n = (WP 99 G S f 117 (lput2 ls 1 (.long x)) st h k n) := by rw [wp_s dd_99_116 rfl hs]; rfl
theorem dd_99_117 : decode (mB 99) 117 = .ok (.iinc 5 1, 3) := by decide +kernel
theorem u_99_117 {G : aG} {S : Nat → Bool} {f : Nat} {st : List Value} {ls : aL} {h : aH} {k n : Nat} (hs : S 117 = false) : WP 99 G S (f + 1) 117 ls st h k n = (oInc (lget ls 5) (nI 1) (WP 99 G S f) 5 120 ls st h k n) := by rw [wp_s dd_99_117 rfl hs]; rfl
theorem dd_99_120 : decode (mB 99) 120 = .ok (.goto (-28), 3) := by decide +kernel
theorem u_99_120 {G : aG} {S : Nat → Bool} {f : Nat} {st : List Value} {ls : aL} {h : aH} {k n : Nat} (hs : S 120 = false) : WP 99 G S (f + 1) 120 ls st h k n = (WP 99 G S f 92 ls st h k n) := by rw [wp_s dd_99_120 rfl hs]; rfl
theorem dd_99_123 : decode (mB 99) 123 = .ok (.iinc 3 1, 3) := by decide +kernel
theorem u_99_123 {G : aG} {S : Nat → Bool} {f : Nat} {st : List Value} {ls : aL} {h : aH} {k n : Nat} (hs : S 123 = false) : WP 99 G S (f + 1) 123 ls st h k n = (oInc (lget ls 3) (nI 1) (WP 99 G S f) 3 126 ls st h k n) := by rw [wp_s dd_99_123 rfl hs]; rfl
theorem dd_99_126 : decode (mB 99) 126 = .ok (.goto (-94), 3) := by decide +kernel
theorem u_99_126 {G : aG} {S : Nat → Bool} {f : Nat} {st : List Value} {ls : aL} {h : aH} {k n : Nat} (hs : S 126 = false) : WP 99 G S (f + 1) 126 ls st h k n = (WP 99 G S f 32 ls st h k n) := by rw [wp_s dd_99_126 rfl hs]; rfl
theorem dd_99_129 : decode (mB 99) 129 = .ok (.iconst 0, 1) := by decide +kernel
theorem u_99_129 {G : aG} {S : Nat → Bool} {f : Nat} {st : List Value} {ls : aL} {h : aH} {k n : Nat} (hs : S 129 = false) : WP 99 G S (f + 1) 129 ls st h k n = (WP 99 G S f 130 ls (.int (nI 0) :: st) h k n) := by rw [wp_s dd_99_129 rfl hs]; rfl
theorem dd_99_130 : decode (mB 99) 130 = .ok (.istore_n 3, 1) := by decide +kernel
theorem u_99_130 {G : aG} {S : Nat → Bool} {f : Nat} {st : List Value} {ls : aL} {h : aH} {k n : Nat} {x : Int32} (hs : S 130 = false) : WP 99 G S (f + 1) 130 ls (.int x :: st) h k n = (WP 99 G S f 131 (lput1 ls 3 (.int x)) st h k n) := by rw [wp_s dd_99_130 rfl hs]; rfl
theorem dd_99_131 : decode (mB 99) 131 = .ok (.iload_n 3, 1) := by decide +kernel
theorem u_99_131 {G : aG} {S : Nat → Bool} {f : Nat} {st : List Value} {ls : aL} {h : aH} {k n : Nat} (hs : S 131 = false) : WP 99 G S (f + 1) 131 ls st h k n = (oI (lget ls 3) (WP 99 G S f) 132 ls st h k n) := by rw [wp_s dd_99_131 rfl hs]; rfl
theorem v_99_131 {G : aG} {S : Nat → Bool} {f : Nat} {st : List Value} {ls : aL} {h : aH} {k n : Nat} : WQ 99 G S f 131 ls st h k n = (oI (lget ls 3) (WP 99 G S f) 132 ls st h k n) := by rw [wq_s dd_99_131 rfl]; rfl
theorem dd_99_132 : decode (mB 99) 132 = .ok (.iconst 3, 1) := by decide +kernel
theorem u_99_132 {G : aG} {S : Nat → Bool} {f : Nat} {st : List Value} {ls : aL} {h : aH} {k n : Nat} (hs : S 132 = false) : WP 99 G S (f + 1) 132 ls st h k n = (WP 99 G S f 133 ls (.int (nI 3) :: st) h k n) := by rw [wp_s dd_99_132 rfl hs]; rfl
theorem dd_99_133 : decode (mB 99) 133 = .ok (.if_icmp .gt 22, 3) := by decide +kernel
theorem u_99_133 {G : aG} {S : Nat → Bool} {f : Nat} {st : List Value} {ls : aL} {h : aH} {k n : Nat} {x y : Int32} (hs : S 133 = false) : WP 99 G S (f + 1) 133 ls (.int y :: .int x :: st) h k n = (if y < x then WP 99 G S f 155 ls st h k n else WP 99 G S f 136 ls st h k n) := by rw [wp_s dd_99_133 rfl hs]; exact br_ite (c := y < x)
theorem dd_99_136 : decode (mB 99) 136 = .ok (.ldc2_w 145, 3) := by decide +kernel
theorem u_99_136 {G : aG} {S : Nat → Bool} {f : Nat} {st : List Value} {ls : aL} {h : aH} {k n : Nat} (hs : S 136 = false) : WP 99 G S (f + 1) 136 ls st h k n = (WP 99 G S f 139 ls (.long (lN 31) :: st) h k n) := by rw [wp_s dd_99_136 rfl hs]; rfl
theorem dd_99_139 : decode (mB 99) 139 = .ok (.lload_n 1, 1) := by decide +kernel
theorem u_99_139 {G : aG} {S : Nat → Bool} {f : Nat} {st : List Value} {ls : aL} {h : aH} {k n : Nat} (hs : S 139 = false) : WP 99 G S (f + 1) 139 ls st h k n = (oJ (lget ls 1) (WP 99 G S f) 140 ls st h k n) := by rw [wp_s dd_99_139 rfl hs]; rfl
theorem dd_99_140 : decode (mB 99) 140 = .ok (.lmul, 1) := by decide +kernel
theorem u_99_140 {G : aG} {S : Nat → Bool} {f : Nat} {st : List Value} {ls : aL} {h : aH} {k n : Nat} {x y : Int64} (hs : S 140 = false) : WP 99 G S (f + 1) 140 ls (.long y :: .long x :: st) h k n = (WP 99 G S f 141 ls (.long (x * y) :: st) h k n) := by rw [wp_s dd_99_140 rfl hs]; rfl
theorem dd_99_141 : decode (mB 99) 141 = .ok (.aload_n 0, 1) := by decide +kernel
theorem u_99_141 {G : aG} {S : Nat → Bool} {f : Nat} {st : List Value} {ls : aL} {h : aH} {k n : Nat} (hs : S 141 = false) : WP 99 G S (f + 1) 141 ls st h k n = (oA (lget ls 0) (WP 99 G S f) 142 ls st h k n) := by rw [wp_s dd_99_141 rfl hs]; rfl
theorem dd_99_142 : decode (mB 99) 142 = .ok (.iload_n 3, 1) := by decide +kernel
theorem u_99_142 {G : aG} {S : Nat → Bool} {f : Nat} {st : List Value} {ls : aL} {h : aH} {k n : Nat} (hs : S 142 = false) : WP 99 G S (f + 1) 142 ls st h k n = (oI (lget ls 3) (WP 99 G S f) 143 ls st h k n) := by rw [wp_s dd_99_142 rfl hs]; rfl
theorem dd_99_143 : decode (mB 99) 143 = .ok (.invokevirtual 128, 3) := by decide +kernel
theorem u_99_143 {G : aG} {S : Nat → Bool} {f : Nat} {st : List Value} {ls : aL} {h : aH} {k n : Nat} {v1 : Value} {b : Nat} (hs : S 143 = false) : WP 99 G S (f + 1) 143 ls (v1 :: .ref b :: st) h k n = (rcv (hget h b) 9 ∧ CAL G (WP 99 G S f) 90 [.ref b, v1] 146 ls st h k n) := by rw [wp_s dd_99_143 rfl hs]; rfl
theorem dd_99_146 : decode (mB 99) 146 = .ok (.i2l, 1) := by decide +kernel
theorem u_99_146 {G : aG} {S : Nat → Bool} {f : Nat} {st : List Value} {ls : aL} {h : aH} {k n : Nat} {x : Int32} (hs : S 146 = false) : WP 99 G S (f + 1) 146 ls (.int x :: st) h k n = (WP 99 G S f 147 ls (.long x.toInt64 :: st) h k n) := by rw [wp_s dd_99_146 rfl hs]; rfl
theorem dd_99_147 : decode (mB 99) 147 = .ok (.ladd, 1) := by decide +kernel
theorem u_99_147 {G : aG} {S : Nat → Bool} {f : Nat} {st : List Value} {ls : aL} {h : aH} {k n : Nat} {x y : Int64} (hs : S 147 = false) : WP 99 G S (f + 1) 147 ls (.long y :: .long x :: st) h k n = (WP 99 G S f 148 ls (.long (x + y) :: st) h k n) := by rw [wp_s dd_99_147 rfl hs]; rfl
theorem dd_99_148 : decode (mB 99) 148 = .ok (.lstore_n 1, 1) := by decide +kernel
theorem u_99_148 {G : aG} {S : Nat → Bool} {f : Nat} {st : List Value} {ls : aL} {h : aH} {k n : Nat} {x : Int64} (hs : S 148 = false) : WP 99 G S (f + 1) 148 ls (.long x :: st) h k n = (WP 99 G S f 149 (lput2 ls 1 (.long x)) st h k n) := by rw [wp_s dd_99_148 rfl hs]; rfl
theorem dd_99_149 : decode (mB 99) 149 = .ok (.iinc 3 1, 3) := by decide +kernel
theorem u_99_149 {G : aG} {S : Nat → Bool} {f : Nat} {st : List Value} {ls : aL} {h : aH} {k n : Nat} (hs : S 149 = false) : WP 99 G S (f + 1) 149 ls st h k n = (oInc (lget ls 3) (nI 1) (WP 99 G S f) 3 152 ls st h k n) := by rw [wp_s dd_99_149 rfl hs]; rfl
theorem dd_99_152 : decode (mB 99) 152 = .ok (.goto (-21), 3) := by decide +kernel
theorem u_99_152 {G : aG} {S : Nat → Bool} {f : Nat} {st : List Value} {ls : aL} {h : aH} {k n : Nat} (hs : S 152 = false) : WP 99 G S (f + 1) 152 ls st h k n = (WP 99 G S f 131 ls st h k n) := by rw [wp_s dd_99_152 rfl hs]; rfl
theorem dd_99_155 : decode (mB 99) 155 = .ok (.iconst 0, 1) := by decide +kernel
theorem u_99_155 {G : aG} {S : Nat → Bool} {f : Nat} {st : List Value} {ls : aL} {h : aH} {k n : Nat} (hs : S 155 = false) : WP 99 G S (f + 1) 155 ls st h k n = (WP 99 G S f 156 ls (.int (nI 0) :: st) h k n) := by rw [wp_s dd_99_155 rfl hs]; rfl
theorem dd_99_156 : decode (mB 99) 156 = .ok (.istore_n 3, 1) := by decide +kernel
theorem u_99_156 {G : aG} {S : Nat → Bool} {f : Nat} {st : List Value} {ls : aL} {h : aH} {k n : Nat} {x : Int32} (hs : S 156 = false) : WP 99 G S (f + 1) 156 ls (.int x :: st) h k n = (WP 99 G S f 157 (lput1 ls 3 (.int x)) st h k n) := by rw [wp_s dd_99_156 rfl hs]; rfl
theorem dd_99_157 : decode (mB 99) 157 = .ok (.iload_n 3, 1) := by decide +kernel
theorem u_99_157 {G : aG} {S : Nat → Bool} {f : Nat} {st : List Value} {ls : aL} {h : aH} {k n : Nat} (hs : S 157 = false) : WP 99 G S (f + 1) 157 ls st h k n = (oI (lget ls 3) (WP 99 G S f) 158 ls st h k n) := by rw [wp_s dd_99_157 rfl hs]; rfl
theorem v_99_157 {G : aG} {S : Nat → Bool} {f : Nat} {st : List Value} {ls : aL} {h : aH} {k n : Nat} : WQ 99 G S f 157 ls st h k n = (oI (lget ls 3) (WP 99 G S f) 158 ls st h k n) := by rw [wq_s dd_99_157 rfl]; rfl
theorem dd_99_158 : decode (mB 99) 158 = .ok (.aload_n 0, 1) := by decide +kernel
theorem u_99_158 {G : aG} {S : Nat → Bool} {f : Nat} {st : List Value} {ls : aL} {h : aH} {k n : Nat} (hs : S 158 = false) : WP 99 G S (f + 1) 158 ls st h k n = (oA (lget ls 0) (WP 99 G S f) 159 ls st h k n) := by rw [wp_s dd_99_158 rfl hs]; rfl
theorem dd_99_159 : decode (mB 99) 159 = .ok (.getfield 19, 3) := by decide +kernel
theorem u_99_159 {G : aG} {S : Nat → Bool} {f : Nat} {st : List Value} {ls : aL} {h : aH} {k n : Nat} {a : Nat} (hs : S 159 = false) : WP 99 G S (f + 1) 159 ls (.ref a :: st) h k n = (oV (fget h a 9 1) (WP 99 G S f) 162 ls st h k n) := by rw [wp_s dd_99_159 rfl hs]; rfl
theorem dd_99_162 : decode (mB 99) 162 = .ok (.getfield 131, 3) := by decide +kernel
theorem u_99_162 {G : aG} {S : Nat → Bool} {f : Nat} {st : List Value} {ls : aL} {h : aH} {k n : Nat} {a : Nat} (hs : S 162 = false) : WP 99 G S (f + 1) 162 ls (.ref a :: st) h k n = (oV (fget h a 7 2) (WP 99 G S f) 165 ls st h k n) := by rw [wp_s dd_99_162 rfl hs]; rfl
theorem dd_99_165 : decode (mB 99) 165 = .ok (.if_icmp .ge 32, 3) := by decide +kernel
theorem u_99_165 {G : aG} {S : Nat → Bool} {f : Nat} {st : List Value} {ls : aL} {h : aH} {k n : Nat} {x y : Int32} (hs : S 165 = false) : WP 99 G S (f + 1) 165 ls (.int y :: .int x :: st) h k n = (if y ≤ x then WP 99 G S f 197 ls st h k n else WP 99 G S f 168 ls st h k n) := by rw [wp_s dd_99_165 rfl hs]; exact br_ite (c := y ≤ x)
theorem dd_99_168 : decode (mB 99) 168 = .ok (.iload_n 3, 1) := by decide +kernel
theorem u_99_168 {G : aG} {S : Nat → Bool} {f : Nat} {st : List Value} {ls : aL} {h : aH} {k n : Nat} (hs : S 168 = false) : WP 99 G S (f + 1) 168 ls st h k n = (oI (lget ls 3) (WP 99 G S f) 169 ls st h k n) := by rw [wp_s dd_99_168 rfl hs]; rfl
theorem dd_99_169 : decode (mB 99) 169 = .ok (.bipush 20, 2) := by decide +kernel
theorem u_99_169 {G : aG} {S : Nat → Bool} {f : Nat} {st : List Value} {ls : aL} {h : aH} {k n : Nat} (hs : S 169 = false) : WP 99 G S (f + 1) 169 ls st h k n = (WP 99 G S f 171 ls (.int (nI 20) :: st) h k n) := by rw [wp_s dd_99_169 rfl hs]; rfl
theorem dd_99_171 : decode (mB 99) 171 = .ok (.if_icmp .ge 26, 3) := by decide +kernel
theorem u_99_171 {G : aG} {S : Nat → Bool} {f : Nat} {st : List Value} {ls : aL} {h : aH} {k n : Nat} {x y : Int32} (hs : S 171 = false) : WP 99 G S (f + 1) 171 ls (.int y :: .int x :: st) h k n = (if y ≤ x then WP 99 G S f 197 ls st h k n else WP 99 G S f 174 ls st h k n) := by rw [wp_s dd_99_171 rfl hs]; exact br_ite (c := y ≤ x)
theorem dd_99_174 : decode (mB 99) 174 = .ok (.ldc2_w 145, 3) := by decide +kernel
theorem u_99_174 {G : aG} {S : Nat → Bool} {f : Nat} {st : List Value} {ls : aL} {h : aH} {k n : Nat} (hs : S 174 = false) : WP 99 G S (f + 1) 174 ls st h k n = (WP 99 G S f 177 ls (.long (lN 31) :: st) h k n) := by rw [wp_s dd_99_174 rfl hs]; rfl
theorem dd_99_177 : decode (mB 99) 177 = .ok (.lload_n 1, 1) := by decide +kernel
theorem u_99_177 {G : aG} {S : Nat → Bool} {f : Nat} {st : List Value} {ls : aL} {h : aH} {k n : Nat} (hs : S 177 = false) : WP 99 G S (f + 1) 177 ls st h k n = (oJ (lget ls 1) (WP 99 G S f) 178 ls st h k n) := by rw [wp_s dd_99_177 rfl hs]; rfl
theorem dd_99_178 : decode (mB 99) 178 = .ok (.lmul, 1) := by decide +kernel
theorem u_99_178 {G : aG} {S : Nat → Bool} {f : Nat} {st : List Value} {ls : aL} {h : aH} {k n : Nat} {x y : Int64} (hs : S 178 = false) : WP 99 G S (f + 1) 178 ls (.long y :: .long x :: st) h k n = (WP 99 G S f 179 ls (.long (x * y) :: st) h k n) := by rw [wp_s dd_99_178 rfl hs]; rfl
theorem dd_99_179 : decode (mB 99) 179 = .ok (.aload_n 0, 1) := by decide +kernel
theorem u_99_179 {G : aG} {S : Nat → Bool} {f : Nat} {st : List Value} {ls : aL} {h : aH} {k n : Nat} (hs : S 179 = false) : WP 99 G S (f + 1) 179 ls st h k n = (oA (lget ls 0) (WP 99 G S f) 180 ls st h k n) := by rw [wp_s dd_99_179 rfl hs]; rfl
theorem dd_99_180 : decode (mB 99) 180 = .ok (.getfield 19, 3) := by decide +kernel
theorem u_99_180 {G : aG} {S : Nat → Bool} {f : Nat} {st : List Value} {ls : aL} {h : aH} {k n : Nat} {a : Nat} (hs : S 180 = false) : WP 99 G S (f + 1) 180 ls (.ref a :: st) h k n = (oV (fget h a 9 1) (WP 99 G S f) 183 ls st h k n) := by rw [wp_s dd_99_180 rfl hs]; rfl
theorem dd_99_183 : decode (mB 99) 183 = .ok (.getfield 147, 3) := by decide +kernel
theorem u_99_183 {G : aG} {S : Nat → Bool} {f : Nat} {st : List Value} {ls : aL} {h : aH} {k n : Nat} {a : Nat} (hs : S 183 = false) : WP 99 G S (f + 1) 183 ls (.ref a :: st) h k n = (oV (fget h a 7 1) (WP 99 G S f) 186 ls st h k n) := by rw [wp_s dd_99_183 rfl hs]; rfl
theorem dd_99_186 : decode (mB 99) 186 = .ok (.iload_n 3, 1) := by decide +kernel
theorem u_99_186 {G : aG} {S : Nat → Bool} {f : Nat} {st : List Value} {ls : aL} {h : aH} {k n : Nat} (hs : S 186 = false) : WP 99 G S (f + 1) 186 ls st h k n = (oI (lget ls 3) (WP 99 G S f) 187 ls st h k n) := by rw [wp_s dd_99_186 rfl hs]; rfl
theorem dd_99_187 : decode (mB 99) 187 = .ok (.iaload, 1) := by decide +kernel
theorem u_99_187 {G : aG} {S : Nat → Bool} {f : Nat} {st : List Value} {ls : aL} {h : aH} {k n : Nat} {i : Int32} {a : Nat} (hs : S 187 = false) : WP 99 G S (f + 1) 187 ls (.int i :: .ref a :: st) h k n = (oIld (iget h a 1) i (WP 99 G S f) 188 ls st h k n) := by rw [wp_s dd_99_187 rfl hs]; rfl
theorem dd_99_188 : decode (mB 99) 188 = .ok (.i2l, 1) := by decide +kernel
theorem u_99_188 {G : aG} {S : Nat → Bool} {f : Nat} {st : List Value} {ls : aL} {h : aH} {k n : Nat} {x : Int32} (hs : S 188 = false) : WP 99 G S (f + 1) 188 ls (.int x :: st) h k n = (WP 99 G S f 189 ls (.long x.toInt64 :: st) h k n) := by rw [wp_s dd_99_188 rfl hs]; rfl
theorem dd_99_189 : decode (mB 99) 189 = .ok (.ladd, 1) := by decide +kernel
theorem u_99_189 {G : aG} {S : Nat → Bool} {f : Nat} {st : List Value} {ls : aL} {h : aH} {k n : Nat} {x y : Int64} (hs : S 189 = false) : WP 99 G S (f + 1) 189 ls (.long y :: .long x :: st) h k n = (WP 99 G S f 190 ls (.long (x + y) :: st) h k n) := by rw [wp_s dd_99_189 rfl hs]; rfl
theorem dd_99_190 : decode (mB 99) 190 = .ok (.lstore_n 1, 1) := by decide +kernel
theorem u_99_190 {G : aG} {S : Nat → Bool} {f : Nat} {st : List Value} {ls : aL} {h : aH} {k n : Nat} {x : Int64} (hs : S 190 = false) : WP 99 G S (f + 1) 190 ls (.long x :: st) h k n = (WP 99 G S f 191 (lput2 ls 1 (.long x)) st h k n) := by rw [wp_s dd_99_190 rfl hs]; rfl
theorem dd_99_191 : decode (mB 99) 191 = .ok (.iinc 3 1, 3) := by decide +kernel
theorem u_99_191 {G : aG} {S : Nat → Bool} {f : Nat} {st : List Value} {ls : aL} {h : aH} {k n : Nat} (hs : S 191 = false) : WP 99 G S (f + 1) 191 ls st h k n = (oInc (lget ls 3) (nI 1) (WP 99 G S f) 3 194 ls st h k n) := by rw [wp_s dd_99_191 rfl hs]; rfl
theorem dd_99_194 : decode (mB 99) 194 = .ok (.goto (-37), 3) := by decide +kernel
theorem u_99_194 {G : aG} {S : Nat → Bool} {f : Nat} {st : List Value} {ls : aL} {h : aH} {k n : Nat} (hs : S 194 = false) : WP 99 G S (f + 1) 194 ls st h k n = (WP 99 G S f 157 ls st h k n) := by rw [wp_s dd_99_194 rfl hs]; rfl
theorem dd_99_197 : decode (mB 99) 197 = .ok (.lload_n 1, 1) := by decide +kernel
theorem u_99_197 {G : aG} {S : Nat → Bool} {f : Nat} {st : List Value} {ls : aL} {h : aH} {k n : Nat} (hs : S 197 = false) : WP 99 G S (f + 1) 197 ls st h k n = (oJ (lget ls 1) (WP 99 G S f) 198 ls st h k n) := by rw [wp_s dd_99_197 rfl hs]; rfl
theorem dd_99_198 : decode (mB 99) 198 = .ok (.lreturn, 1) := by decide +kernel
theorem u_99_198 {G : aG} {S : Nat → Bool} {f : Nat} {ls : aL} {h : aH} {k n : Nat} {x : Int64} (hs : S 198 = false) : WP 99 G S (f + 1) 198 ls [.long x] h k n = (RET G (some (.long x)) h k n) := by rw [wp_s dd_99_198 rfl hs]; rfl
