/-! rows of 1 Text.init, 2 Scene.init, 3 Arrays.fillJ, 4 Past.init, 12 Math.min, 18 Arrays.copyOfI, 22 Math.max, 23 Arrays.fillI, 29 Arrays.copyOfJ, 34 Text.add, 38 Text.at, 52 Past.keep, 53 Scene.copyFrom, 54 Scene.emptyRow, 69 Integer.bitCount, 73 Long.bitCount, 91 Scene.standIn, 93 Scene.addToRow, 96 Past.restore, 144 Float.floatToIntBits, 145 Float.isNaN -/
theorem dd_1_0 : decode (mB 1) 0 = .ok (.aload_n 0, 1) := by decide +kernel
theorem u_1_0 {G : aG} {S : Nat → Bool} {f : Nat} {st : List Value} {ls : aL} {h : aH} {k n : Nat} (hs : S 0 = false) : WP 1 G S (f + 1) 0 ls st h k n = (oA (lget ls 0) (WP 1 G S f) 1 ls st h k n) := by rw [wp_s dd_1_0 rfl hs]; rfl
theorem dd_1_1 : decode (mB 1) 1 = .ok (.invokespecial 3, 3) := by decide +kernel
theorem u_1_1 {G : aG} {S : Nat → Bool} {f : Nat} {st : List Value} {ls : aL} {h : aH} {k n : Nat} {a : Nat} (hs : S 1 = false) : WP 1 G S (f + 1) 1 ls (.ref a :: st) h k n = ((st.map fun v => v.category).sum ≤ 8 ∧ 1 ≤ gD G ∧ WP 1 G S f 4 ls st h k n) := by rw [wp_s dd_1_1 rfl hs]; rfl
theorem dd_1_4 : decode (mB 1) 4 = .ok (.aload_n 0, 1) := by decide +kernel
theorem u_1_4 {G : aG} {S : Nat → Bool} {f : Nat} {st : List Value} {ls : aL} {h : aH} {k n : Nat} (hs : S 4 = false) : WP 1 G S (f + 1) 4 ls st h k n = (oA (lget ls 0) (WP 1 G S f) 5 ls st h k n) := by rw [wp_s dd_1_4 rfl hs]; rfl
theorem dd_1_5 : decode (mB 1) 5 = .ok (.sipush 150, 3) := by decide +kernel
theorem u_1_5 {G : aG} {S : Nat → Bool} {f : Nat} {st : List Value} {ls : aL} {h : aH} {k n : Nat} (hs : S 5 = false) : WP 1 G S (f + 1) 5 ls st h k n = (WP 1 G S f 8 ls (.int (nI 150) :: st) h k n) := by rw [wp_s dd_1_5 rfl hs]; rfl
theorem dd_1_8 : decode (mB 1) 8 = .ok (.newarray .byte, 2) := by decide +kernel
theorem u_1_8 {G : aG} {S : Nat → Bool} {f : Nat} {st : List Value} {ls : aL} {h : aH} {k n : Nat} {x : Int32} (hs : S 8 = false) : WP 1 G S (f + 1) 8 ls (.int x :: st) h k n = (¬ x < 0 ∧ x.toNatClampNeg * 1 ≤ 536870912 ∧ oNew G (cB x.toNatClampNeg) x.toNatClampNeg (WP 1 G S f) 10 ls st h k n) := by rw [wp_s dd_1_8 rfl hs]; rfl
theorem dd_1_10 : decode (mB 1) 10 = .ok (.putfield 9, 3) := by decide +kernel
theorem u_1_10 {G : aG} {S : Nat → Bool} {f : Nat} {st : List Value} {ls : aL} {h : aH} {k n : Nat} {a : Nat} {x : Nat} (hs : S 10 = false) : WP 1 G S (f + 1) 10 ls (.ref x :: .ref a :: st) h k n = (oH (fput h a 8 0 (.ref x)) (WP 1 G S f) 13 ls st k n) := by rw [wp_s dd_1_10 rfl hs]; rfl
theorem dd_1_13 : decode (mB 1) 13 = .ok (.return_, 1) := by decide +kernel
theorem u_1_13 {G : aG} {S : Nat → Bool} {f : Nat} {ls : aL} {h : aH} {k n : Nat} (hs : S 13 = false) : WP 1 G S (f + 1) 13 ls [] h k n = (RET G none h k n) := by rw [wp_s dd_1_13 rfl hs]; rfl
theorem dd_2_0 : decode (mB 2) 0 = .ok (.aload_n 0, 1) := by decide +kernel
theorem u_2_0 {G : aG} {S : Nat → Bool} {f : Nat} {st : List Value} {ls : aL} {h : aH} {k n : Nat} (hs : S 0 = false) : WP 2 G S (f + 1) 0 ls st h k n = (oA (lget ls 0) (WP 2 G S f) 1 ls st h k n) := by rw [wp_s dd_2_0 rfl hs]; rfl
theorem dd_2_1 : decode (mB 2) 1 = .ok (.invokespecial 3, 3) := by decide +kernel
theorem u_2_1 {G : aG} {S : Nat → Bool} {f : Nat} {st : List Value} {ls : aL} {h : aH} {k n : Nat} {a : Nat} (hs : S 1 = false) : WP 2 G S (f + 1) 1 ls (.ref a :: st) h k n = ((st.map fun v => v.category).sum ≤ 8 ∧ 1 ≤ gD G ∧ WP 2 G S f 4 ls st h k n) := by rw [wp_s dd_2_1 rfl hs]; rfl
theorem dd_2_4 : decode (mB 2) 4 = .ok (.aload_n 0, 1) := by decide +kernel
theorem u_2_4 {G : aG} {S : Nat → Bool} {f : Nat} {st : List Value} {ls : aL} {h : aH} {k n : Nat} (hs : S 4 = false) : WP 2 G S (f + 1) 4 ls st h k n = (oA (lget ls 0) (WP 2 G S f) 5 ls st h k n) := by rw [wp_s dd_2_4 rfl hs]; rfl
theorem dd_2_5 : decode (mB 2) 5 = .ok (.bipush 9, 2) := by decide +kernel
theorem u_2_5 {G : aG} {S : Nat → Bool} {f : Nat} {st : List Value} {ls : aL} {h : aH} {k n : Nat} (hs : S 5 = false) : WP 2 G S (f + 1) 5 ls st h k n = (WP 2 G S f 7 ls (.int (nI 9) :: st) h k n) := by rw [wp_s dd_2_5 rfl hs]; rfl
theorem dd_2_7 : decode (mB 2) 7 = .ok (.newarray .long, 2) := by decide +kernel
theorem u_2_7 {G : aG} {S : Nat → Bool} {f : Nat} {st : List Value} {ls : aL} {h : aH} {k n : Nat} {x : Int32} (hs : S 7 = false) : WP 2 G S (f + 1) 7 ls (.int x :: st) h k n = (¬ x < 0 ∧ x.toNatClampNeg * 8 ≤ 536870912 ∧ oNew G (cJ x.toNatClampNeg) x.toNatClampNeg (WP 2 G S f) 9 ls st h k n) := by rw [wp_s dd_2_7 rfl hs]; rfl
theorem dd_2_9 : decode (mB 2) 9 = .ok (.putfield 9, 3) := by decide +kernel
theorem u_2_9 {G : aG} {S : Nat → Bool} {f : Nat} {st : List Value} {ls : aL} {h : aH} {k n : Nat} {a : Nat} {x : Nat} (hs : S 9 = false) : WP 2 G S (f + 1) 9 ls (.ref x :: .ref a :: st) h k n = (oH (fput h a 7 0 (.ref x)) (WP 2 G S f) 12 ls st k n) := by rw [wp_s dd_2_9 rfl hs]; rfl
theorem dd_2_12 : decode (mB 2) 12 = .ok (.aload_n 0, 1) := by decide +kernel
theorem u_2_12 {G : aG} {S : Nat → Bool} {f : Nat} {st : List Value} {ls : aL} {h : aH} {k n : Nat} (hs : S 12 = false) : WP 2 G S (f + 1) 12 ls st h k n = (oA (lget ls 0) (WP 2 G S f) 13 ls st h k n) := by rw [wp_s dd_2_12 rfl hs]; rfl
theorem dd_2_13 : decode (mB 2) 13 = .ok (.bipush 20, 2) := by decide +kernel
theorem u_2_13 {G : aG} {S : Nat → Bool} {f : Nat} {st : List Value} {ls : aL} {h : aH} {k n : Nat} (hs : S 13 = false) : WP 2 G S (f + 1) 13 ls st h k n = (WP 2 G S f 15 ls (.int (nI 20) :: st) h k n) := by rw [wp_s dd_2_13 rfl hs]; rfl
theorem dd_2_15 : decode (mB 2) 15 = .ok (.newarray .int, 2) := by decide +kernel
theorem u_2_15 {G : aG} {S : Nat → Bool} {f : Nat} {st : List Value} {ls : aL} {h : aH} {k n : Nat} {x : Int32} (hs : S 15 = false) : WP 2 G S (f + 1) 15 ls (.int x :: st) h k n = (¬ x < 0 ∧ x.toNatClampNeg * 4 ≤ 536870912 ∧ oNew G (cI x.toNatClampNeg) x.toNatClampNeg (WP 2 G S f) 17 ls st h k n) := by rw [wp_s dd_2_15 rfl hs]; rfl
theorem dd_2_17 : decode (mB 2) 17 = .ok (.putfield 15, 3) := by decide +kernel
theorem u_2_17 {G : aG} {S : Nat → Bool} {f : Nat} {st : List Value} {ls : aL} {h : aH} {k n : Nat} {a : Nat} {x : Nat} (hs : S 17 = false) : WP 2 G S (f + 1) 17 ls (.ref x :: .ref a :: st) h k n = (oH (fput h a 7 1 (.ref x)) (WP 2 G S f) 20 ls st k n) := by rw [wp_s dd_2_17 rfl hs]; rfl
theorem dd_2_20 : decode (mB 2) 20 = .ok (.aload_n 0, 1) := by decide +kernel
theorem u_2_20 {G : aG} {S : Nat → Bool} {f : Nat} {st : List Value} {ls : aL} {h : aH} {k n : Nat} (hs : S 20 = false) : WP 2 G S (f + 1) 20 ls st h k n = (oA (lget ls 0) (WP 2 G S f) 21 ls st h k n) := by rw [wp_s dd_2_20 rfl hs]; rfl
theorem dd_2_21 : decode (mB 2) 21 = .ok (.bipush 8, 2) := by decide +kernel
theorem u_2_21 {G : aG} {S : Nat → Bool} {f : Nat} {st : List Value} {ls : aL} {h : aH} {k n : Nat} (hs : S 21 = false) : WP 2 G S (f + 1) 21 ls st h k n = (WP 2 G S f 23 ls (.int (nI 8) :: st) h k n) := by rw [wp_s dd_2_21 rfl hs]; rfl
theorem dd_2_23 : decode (mB 2) 23 = .ok (.putfield 19, 3) := by decide +kernel
theorem u_2_23 {G : aG} {S : Nat → Bool} {f : Nat} {st : List Value} {ls : aL} {h : aH} {k n : Nat} {a : Nat} {x : Int32} (hs : S 23 = false) : WP 2 G S (f + 1) 23 ls (.int x :: .ref a :: st) h k n = (oH (fput h a 7 3 (.int x)) (WP 2 G S f) 26 ls st k n) := by rw [wp_s dd_2_23 rfl hs]; rfl
theorem dd_2_26 : decode (mB 2) 26 = .ok (.aload_n 0, 1) := by decide +kernel
theorem u_2_26 {G : aG} {S : Nat → Bool} {f : Nat} {st : List Value} {ls : aL} {h : aH} {k n : Nat} (hs : S 26 = false) : WP 2 G S (f + 1) 26 ls st h k n = (oA (lget ls 0) (WP 2 G S f) 27 ls st h k n) := by rw [wp_s dd_2_26 rfl hs]; rfl
theorem dd_2_27 : decode (mB 2) 27 = .ok (.getfield 9, 3) := by decide +kernel
theorem u_2_27 {G : aG} {S : Nat → Bool} {f : Nat} {st : List Value} {ls : aL} {h : aH} {k n : Nat} {a : Nat} (hs : S 27 = false) : WP 2 G S (f + 1) 27 ls (.ref a :: st) h k n = (oV (fget h a 7 0) (WP 2 G S f) 30 ls st h k n) := by rw [wp_s dd_2_27 rfl hs]; rfl
theorem dd_2_30 : decode (mB 2) 30 = .ok (.ldc2_w 23, 3) := by decide +kernel
theorem u_2_30 {G : aG} {S : Nat → Bool} {f : Nat} {st : List Value} {ls : aL} {h : aH} {k n : Nat} (hs : S 30 = false) : WP 2 G S (f + 1) 30 ls st h k n = (WP 2 G S f 33 ls (.long (lN 9) :: st) h k n) := by rw [wp_s dd_2_30 rfl hs]; rfl
theorem dd_2_33 : decode (mB 2) 33 = .ok (.invokestatic 25, 3) := by decide +kernel
theorem u_2_33 {G : aG} {S : Nat → Bool} {f : Nat} {st : List Value} {ls : aL} {h : aH} {k n : Nat} {v1 v2 : Value} (hs : S 33 = false) : WP 2 G S (f + 1) 33 ls (v2 :: v1 :: st) h k n = (CAL G (WP 2 G S f) 3 [v1, v2] 36 ls st h k n) := by rw [wp_s dd_2_33 rfl hs]; rfl
theorem dd_2_36 : decode (mB 2) 36 = .ok (.return_, 1) := by decide +kernel
theorem u_2_36 {G : aG} {S : Nat → Bool} {f : Nat} {ls : aL} {h : aH} {k n : Nat} (hs : S 36 = false) : WP 2 G S (f + 1) 36 ls [] h k n = (RET G none h k n) := by rw [wp_s dd_2_36 rfl hs]; rfl
theorem dd_3_0 : decode (mB 3) 0 = .ok (.iconst 0, 1) := by decide +kernel
theorem u_3_0 {G : aG} {S : Nat → Bool} {f : Nat} {st : List Value} {ls : aL} {h : aH} {k n : Nat} (hs : S 0 = false) : WP 3 G S (f + 1) 0 ls st h k n = (WP 3 G S f 1 ls (.int (nI 0) :: st) h k n) := by rw [wp_s dd_3_0 rfl hs]; rfl
theorem dd_3_1 : decode (mB 3) 1 = .ok (.istore_n 3, 1) := by decide +kernel
theorem u_3_1 {G : aG} {S : Nat → Bool} {f : Nat} {st : List Value} {ls : aL} {h : aH} {k n : Nat} {x : Int32} (hs : S 1 = false) : WP 3 G S (f + 1) 1 ls (.int x :: st) h k n = (WP 3 G S f 2 (lput1 ls 3 (.int x)) st h k n) := by rw [wp_s dd_3_1 rfl hs]; rfl
theorem dd_3_2 : decode (mB 3) 2 = .ok (.aload_n 0, 1) := by decide +kernel
theorem u_3_2 {G : aG} {S : Nat → Bool} {f : Nat} {st : List Value} {ls : aL} {h : aH} {k n : Nat} (hs : S 2 = false) : WP 3 G S (f + 1) 2 ls st h k n = (oA (lget ls 0) (WP 3 G S f) 3 ls st h k n) := by rw [wp_s dd_3_2 rfl hs]; rfl
theorem dd_3_3 : decode (mB 3) 3 = .ok (.arraylength, 1) := by decide +kernel
theorem u_3_3 {G : aG} {S : Nat → Bool} {f : Nat} {st : List Value} {ls : aL} {h : aH} {k n : Nat} {a : Nat} (hs : S 3 = false) : WP 3 G S (f + 1) 3 ls (.ref a :: st) h k n = (oLen (alen h a) (WP 3 G S f) 4 ls st h k n) := by rw [wp_s dd_3_3 rfl hs]; rfl
theorem dd_3_4 : decode (mB 3) 4 = .ok (.istore 4, 2) := by decide +kernel
theorem u_3_4 {G : aG} {S : Nat → Bool} {f : Nat} {st : List Value} {ls : aL} {h : aH} {k n : Nat} {x : Int32} (hs : S 4 = false) : WP 3 G S (f + 1) 4 ls (.int x :: st) h k n = (WP 3 G S f 6 (lput1 ls 4 (.int x)) st h k n) := by rw [wp_s dd_3_4 rfl hs]; rfl
theorem dd_3_6 : decode (mB 3) 6 = .ok (.iload_n 3, 1) := by decide +kernel
theorem u_3_6 {G : aG} {S : Nat → Bool} {f : Nat} {st : List Value} {ls : aL} {h : aH} {k n : Nat} (hs : S 6 = false) : WP 3 G S (f + 1) 6 ls st h k n = (oI (lget ls 3) (WP 3 G S f) 7 ls st h k n) := by rw [wp_s dd_3_6 rfl hs]; rfl
theorem v_3_6 {G : aG} {S : Nat → Bool} {f : Nat} {st : List Value} {ls : aL} {h : aH} {k n : Nat} : WQ 3 G S f 6 ls st h k n = (oI (lget ls 3) (WP 3 G S f) 7 ls st h k n) := by rw [wq_s dd_3_6 rfl]; rfl
theorem dd_3_7 : decode (mB 3) 7 = .ok (.iload 4, 2) := by decide +kernel
theorem u_3_7 {G : aG} {S : Nat → Bool} {f : Nat} {st : List Value} {ls : aL} {h : aH} {k n : Nat} (hs : S 7 = false) : WP 3 G S (f + 1) 7 ls st h k n = (oI (lget ls 4) (WP 3 G S f) 9 ls st h k n) := by rw [wp_s dd_3_7 rfl hs]; rfl
theorem dd_3_9 : decode (mB 3) 9 = .ok (.if_icmp .ge 13, 3) := by decide +kernel
theorem u_3_9 {G : aG} {S : Nat → Bool} {f : Nat} {st : List Value} {ls : aL} {h : aH} {k n : Nat} {x y : Int32} (hs : S 9 = false) : WP 3 G S (f + 1) 9 ls (.int y :: .int x :: st) h k n = (if y ≤ x then WP 3 G S f 22 ls st h k n else WP 3 G S f 12 ls st h k n) := by rw [wp_s dd_3_9 rfl hs]; exact br_ite (c := y ≤ x)
theorem dd_3_12 : decode (mB 3) 12 = .ok (.aload_n 0, 1) := by decide +kernel
theorem u_3_12 {G : aG} {S : Nat → Bool} {f : Nat} {st : List Value} {ls : aL} {h : aH} {k n : Nat} (hs : S 12 = false) : WP 3 G S (f + 1) 12 ls st h k n = (oA (lget ls 0) (WP 3 G S f) 13 ls st h k n) := by rw [wp_s dd_3_12 rfl hs]; rfl
theorem dd_3_13 : decode (mB 3) 13 = .ok (.iload_n 3, 1) := by decide +kernel
theorem u_3_13 {G : aG} {S : Nat → Bool} {f : Nat} {st : List Value} {ls : aL} {h : aH} {k n : Nat} (hs : S 13 = false) : WP 3 G S (f + 1) 13 ls st h k n = (oI (lget ls 3) (WP 3 G S f) 14 ls st h k n) := by rw [wp_s dd_3_13 rfl hs]; rfl
theorem dd_3_14 : decode (mB 3) 14 = .ok (.lload_n 1, 1) := by decide +kernel
theorem u_3_14 {G : aG} {S : Nat → Bool} {f : Nat} {st : List Value} {ls : aL} {h : aH} {k n : Nat} (hs : S 14 = false) : WP 3 G S (f + 1) 14 ls st h k n = (oJ (lget ls 1) (WP 3 G S f) 15 ls st h k n) := by rw [wp_s dd_3_14 rfl hs]; rfl
theorem dd_3_15 : decode (mB 3) 15 = .ok (.lastore, 1) := by decide +kernel
theorem u_3_15 {G : aG} {S : Nat → Bool} {f : Nat} {st : List Value} {ls : aL} {h : aH} {k n : Nat} {i : Int32} {x : Int64} {a : Nat} (hs : S 15 = false) : WP 3 G S (f + 1) 15 ls (.long x :: .int i :: .ref a :: st) h k n = (oJst (jget h a) a i x (WP 3 G S f) 16 ls st h k n) := by rw [wp_s dd_3_15 rfl hs]; rfl
theorem dd_3_16 : decode (mB 3) 16 = .ok (.iinc 3 1, 3) := by decide +kernel
theorem u_3_16 {G : aG} {S : Nat → Bool} {f : Nat} {st : List Value} {ls : aL} {h : aH} {k n : Nat} (hs : S 16 = false) : WP 3 G S (f + 1) 16 ls st h k n = (oInc (lget ls 3) (nI 1) (WP 3 G S f) 3 19 ls st h k n) := by rw [wp_s dd_3_16 rfl hs]; rfl
theorem dd_3_19 : decode (mB 3) 19 = .ok (.goto (-13), 3) := by decide +kernel
theorem u_3_19 {G : aG} {S : Nat → Bool} {f : Nat} {st : List Value} {ls : aL} {h : aH} {k n : Nat} (hs : S 19 = false) : WP 3 G S (f + 1) 19 ls st h k n = (WP 3 G S f 6 ls st h k n) := by rw [wp_s dd_3_19 rfl hs]; rfl
theorem dd_3_22 : decode (mB 3) 22 = .ok (.return_, 1) := by decide +kernel
theorem u_3_22 {G : aG} {S : Nat → Bool} {f : Nat} {ls : aL} {h : aH} {k n : Nat} (hs : S 22 = false) : WP 3 G S (f + 1) 22 ls [] h k n = (RET G none h k n) := by rw [wp_s dd_3_22 rfl hs]; rfl
theorem dd_4_0 : decode (mB 4) 0 = .ok (.aload_n 0, 1) := by decide +kernel
theorem u_4_0 {G : aG} {S : Nat → Bool} {f : Nat} {st : List Value} {ls : aL} {h : aH} {k n : Nat} (hs : S 0 = false) : WP 4 G S (f + 1) 0 ls st h k n = (oA (lget ls 0) (WP 4 G S f) 1 ls st h k n) := by rw [wp_s dd_4_0 rfl hs]; rfl
theorem dd_4_1 : decode (mB 4) 1 = .ok (.invokespecial 3, 3) := by decide +kernel
theorem u_4_1 {G : aG} {S : Nat → Bool} {f : Nat} {st : List Value} {ls : aL} {h : aH} {k n : Nat} {a : Nat} (hs : S 1 = false) : WP 4 G S (f + 1) 1 ls (.ref a :: st) h k n = ((st.map fun v => v.category).sum ≤ 8 ∧ 1 ≤ gD G ∧ WP 4 G S f 4 ls st h k n) := by rw [wp_s dd_4_1 rfl hs]; rfl
theorem dd_4_4 : decode (mB 4) 4 = .ok (.aload_n 0, 1) := by decide +kernel
theorem u_4_4 {G : aG} {S : Nat → Bool} {f : Nat} {st : List Value} {ls : aL} {h : aH} {k n : Nat} (hs : S 4 = false) : WP 4 G S (f + 1) 4 ls st h k n = (oA (lget ls 0) (WP 4 G S f) 5 ls st h k n) := by rw [wp_s dd_4_4 rfl hs]; rfl
theorem dd_4_5 : decode (mB 4) 5 = .ok (.iconst 4, 1) := by decide +kernel
theorem u_4_5 {G : aG} {S : Nat → Bool} {f : Nat} {st : List Value} {ls : aL} {h : aH} {k n : Nat} (hs : S 5 = false) : WP 4 G S (f + 1) 5 ls st h k n = (WP 4 G S f 6 ls (.int (nI 4) :: st) h k n) := by rw [wp_s dd_4_5 rfl hs]; rfl
theorem dd_4_6 : decode (mB 4) 6 = .ok (.anewarray 9, 3) := by decide +kernel
theorem u_4_6 {G : aG} {S : Nat → Bool} {f : Nat} {st : List Value} {ls : aL} {h : aH} {k n : Nat} {x : Int32} (hs : S 6 = false) : WP 4 G S (f + 1) 6 ls (.int x :: st) h k n = (¬ x < 0 ∧ x.toNatClampNeg * 4 ≤ 536870912 ∧ oNew G (cQ 4 x.toNatClampNeg) x.toNatClampNeg (WP 4 G S f) 9 ls st h k n) := by rw [wp_s dd_4_6 rfl hs]; rfl
theorem dd_4_9 : decode (mB 4) 9 = .ok (.putfield 11, 3) := by decide +kernel
theorem u_4_9 {G : aG} {S : Nat → Bool} {f : Nat} {st : List Value} {ls : aL} {h : aH} {k n : Nat} {a : Nat} {x : Nat} (hs : S 9 = false) : WP 4 G S (f + 1) 9 ls (.ref x :: .ref a :: st) h k n = (oH (fput h a 4 0 (.ref x)) (WP 4 G S f) 12 ls st k n) := by rw [wp_s dd_4_9 rfl hs]; rfl
theorem dd_4_12 : decode (mB 4) 12 = .ok (.iconst 0, 1) := by decide +kernel
theorem u_4_12 {G : aG} {S : Nat → Bool} {f : Nat} {st : List Value} {ls : aL} {h : aH} {k n : Nat} (hs : S 12 = false) : WP 4 G S (f + 1) 12 ls st h k n = (WP 4 G S f 13 ls (.int (nI 0) :: st) h k n) := by rw [wp_s dd_4_12 rfl hs]; rfl
theorem dd_4_13 : decode (mB 4) 13 = .ok (.istore_n 1, 1) := by decide +kernel
theorem u_4_13 {G : aG} {S : Nat → Bool} {f : Nat} {st : List Value} {ls : aL} {h : aH} {k n : Nat} {x : Int32} (hs : S 13 = false) : WP 4 G S (f + 1) 13 ls (.int x :: st) h k n = (WP 4 G S f 14 (lput1 ls 1 (.int x)) st h k n) := by rw [wp_s dd_4_13 rfl hs]; rfl
theorem dd_4_14 : decode (mB 4) 14 = .ok (.iload_n 1, 1) := by decide +kernel
theorem u_4_14 {G : aG} {S : Nat → Bool} {f : Nat} {st : List Value} {ls : aL} {h : aH} {k n : Nat} (hs : S 14 = false) : WP 4 G S (f + 1) 14 ls st h k n = (oI (lget ls 1) (WP 4 G S f) 15 ls st h k n) := by rw [wp_s dd_4_14 rfl hs]; rfl
theorem v_4_14 {G : aG} {S : Nat → Bool} {f : Nat} {st : List Value} {ls : aL} {h : aH} {k n : Nat} : WQ 4 G S f 14 ls st h k n = (oI (lget ls 1) (WP 4 G S f) 15 ls st h k n) := by rw [wq_s dd_4_14 rfl]; rfl
theorem dd_4_15 : decode (mB 4) 15 = .ok (.iconst 4, 1) := by decide +kernel
theorem u_4_15 {G : aG} {S : Nat → Bool} {f : Nat} {st : List Value} {ls : aL} {h : aH} {k n : Nat} (hs : S 15 = false) : WP 4 G S (f + 1) 15 ls st h k n = (WP 4 G S f 16 ls (.int (nI 4) :: st) h k n) := by rw [wp_s dd_4_15 rfl hs]; rfl
theorem dd_4_16 : decode (mB 4) 16 = .ok (.if_icmp .ge 22, 3) := by decide +kernel
theorem u_4_16 {G : aG} {S : Nat → Bool} {f : Nat} {st : List Value} {ls : aL} {h : aH} {k n : Nat} {x y : Int32} (hs : S 16 = false) : WP 4 G S (f + 1) 16 ls (.int y :: .int x :: st) h k n = (if y ≤ x then WP 4 G S f 38 ls st h k n else WP 4 G S f 19 ls st h k n) := by rw [wp_s dd_4_16 rfl hs]; exact br_ite (c := y ≤ x)
theorem dd_4_19 : decode (mB 4) 19 = .ok (.aload_n 0, 1) := by decide +kernel
theorem u_4_19 {G : aG} {S : Nat → Bool} {f : Nat} {st : List Value} {ls : aL} {h : aH} {k n : Nat} (hs : S 19 = false) : WP 4 G S (f + 1) 19 ls st h k n = (oA (lget ls 0) (WP 4 G S f) 20 ls st h k n) := by rw [wp_s dd_4_19 rfl hs]; rfl
theorem dd_4_20 : decode (mB 4) 20 = .ok (.getfield 11, 3) := by decide +kernel
theorem u_4_20 {G : aG} {S : Nat → Bool} {f : Nat} {st : List Value} {ls : aL} {h : aH} {k n : Nat} {a : Nat} (hs : S 20 = false) : WP 4 G S (f + 1) 20 ls (.ref a :: st) h k n = (oV (fget h a 4 0) (WP 4 G S f) 23 ls st h k n) := by rw [wp_s dd_4_20 rfl hs]; rfl
theorem dd_4_23 : decode (mB 4) 23 = .ok (.iload_n 1, 1) := by decide +kernel
theorem u_4_23 {G : aG} {S : Nat → Bool} {f : Nat} {st : List Value} {ls : aL} {h : aH} {k n : Nat} (hs : S 23 = false) : WP 4 G S (f + 1) 23 ls st h k n = (oI (lget ls 1) (WP 4 G S f) 24 ls st h k n) := by rw [wp_s dd_4_23 rfl hs]; rfl
theorem dd_4_24 : decode (mB 4) 24 = .ok (.new 9, 3) := by decide +kernel
theorem u_4_24 {G : aG} {S : Nat → Bool} {f : Nat} {st : List Value} {ls : aL} {h : aH} {k n : Nat} (hs : S 24 = false) : WP 4 G S (f + 1) 24 ls st h k n = (oNew G (.inr (7, dfl 7)) (clT 7).2.2 (WP 4 G S f) 27 ls st h k n) := by rw [wp_s dd_4_24 rfl hs]; rfl
theorem dd_4_27 : decode (mB 4) 27 = .ok (.dup, 1) := by decide +kernel
theorem u_4_27 {G : aG} {S : Nat → Bool} {f : Nat} {st : List Value} {ls : aL} {h : aH} {k n : Nat} {v : Value} (hs : S 27 = false) : WP 4 G S (f + 1) 27 ls (v :: st) h k n = (cond (cat1 v) (WP 4 G S f 28 ls (v :: v :: st) h k n) False) := by rw [wp_s dd_4_27 rfl hs]; rfl
theorem dd_4_28 : decode (mB 4) 28 = .ok (.invokespecial 17, 3) := by decide +kernel
theorem u_4_28 {G : aG} {S : Nat → Bool} {f : Nat} {st : List Value} {ls : aL} {h : aH} {k n : Nat} {b : Nat} (hs : S 28 = false) : WP 4 G S (f + 1) 28 ls (.ref b :: st) h k n = (CAL G (WP 4 G S f) 2 [.ref b] 31 ls st h k n) := by rw [wp_s dd_4_28 rfl hs]; rfl
theorem dd_4_31 : decode (mB 4) 31 = .ok (.aastore, 1) := by decide +kernel
theorem u_4_31 {G : aG} {S : Nat → Bool} {f : Nat} {st : List Value} {ls : aL} {h : aH} {k n : Nat} {i : Int32} {a b : Nat} (hs : S 31 = false) : WP 4 G S (f + 1) 31 ls (.ref b :: .int i :: .ref a :: st) h k n = (oQst (qget h a) a i b (WP 4 G S f) 32 ls st h k n) := by rw [wp_s dd_4_31 rfl hs]; rfl
theorem dd_4_32 : decode (mB 4) 32 = .ok (.iinc 1 1, 3) := by decide +kernel
theorem u_4_32 {G : aG} {S : Nat → Bool} {f : Nat} {st : List Value} {ls : aL} {h : aH} {k n : Nat} (hs : S 32 = false) : WP 4 G S (f + 1) 32 ls st h k n = (oInc (lget ls 1) (nI 1) (WP 4 G S f) 1 35 ls st h k n) := by rw [wp_s dd_4_32 rfl hs]; rfl
theorem dd_4_35 : decode (mB 4) 35 = .ok (.goto (-21), 3) := by decide +kernel
theorem u_4_35 {G : aG} {S : Nat → Bool} {f : Nat} {st : List Value} {ls : aL} {h : aH} {k n : Nat} (hs : S 35 = false) : WP 4 G S (f + 1) 35 ls st h k n = (WP 4 G S f 14 ls st h k n) := by rw [wp_s dd_4_35 rfl hs]; rfl
theorem dd_4_38 : decode (mB 4) 38 = .ok (.return_, 1) := by decide +kernel
theorem u_4_38 {G : aG} {S : Nat → Bool} {f : Nat} {ls : aL} {h : aH} {k n : Nat} (hs : S 38 = false) : WP 4 G S (f + 1) 38 ls [] h k n = (RET G none h k n) := by rw [wp_s dd_4_38 rfl hs]; rfl
theorem dd_12_0 : decode (mB 12) 0 = .ok (.iload_n 0, 1) := by decide +kernel
theorem u_12_0 {G : aG} {S : Nat → Bool} {f : Nat} {st : List Value} {ls : aL} {h : aH} {k n : Nat} (hs : S 0 = false) : WP 12 G S (f + 1) 0 ls st h k n = (oI (lget ls 0) (WP 12 G S f) 1 ls st h k n) := by rw [wp_s dd_12_0 rfl hs]; rfl
theorem dd_12_1 : decode (mB 12) 1 = .ok (.iload_n 1, 1) := by decide +kernel
theorem u_12_1 {G : aG} {S : Nat → Bool} {f : Nat} {st : List Value} {ls : aL} {h : aH} {k n : Nat} (hs : S 1 = false) : WP 12 G S (f + 1) 1 ls st h k n = (oI (lget ls 1) (WP 12 G S f) 2 ls st h k n) := by rw [wp_s dd_12_1 rfl hs]; rfl
theorem dd_12_2 : decode (mB 12) 2 = .ok (.if_icmp .gt 7, 3) := by decide +kernel
theorem u_12_2 {G : aG} {S : Nat → Bool} {f : Nat} {st : List Value} {ls : aL} {h : aH} {k n : Nat} {x y : Int32} (hs : S 2 = false) : WP 12 G S (f + 1) 2 ls (.int y :: .int x :: st) h k n = (if y < x then WP 12 G S f 9 ls st h k n else WP 12 G S f 5 ls st h k n) := by rw [wp_s dd_12_2 rfl hs]; exact br_ite (c := y < x)
theorem dd_12_5 : decode (mB 12) 5 = .ok (.iload_n 0, 1) := by decide +kernel
theorem u_12_5 {G : aG} {S : Nat → Bool} {f : Nat} {st : List Value} {ls : aL} {h : aH} {k n : Nat} (hs : S 5 = false) : WP 12 G S (f + 1) 5 ls st h k n = (oI (lget ls 0) (WP 12 G S f) 6 ls st h k n) := by rw [wp_s dd_12_5 rfl hs]; rfl
theorem dd_12_6 : decode (mB 12) 6 = .ok (.goto 4, 3) := by decide +kernel
theorem u_12_6 {G : aG} {S : Nat → Bool} {f : Nat} {st : List Value} {ls : aL} {h : aH} {k n : Nat} (hs : S 6 = false) : WP 12 G S (f + 1) 6 ls st h k n = (WP 12 G S f 10 ls st h k n) := by rw [wp_s dd_12_6 rfl hs]; rfl
theorem dd_12_9 : decode (mB 12) 9 = .ok (.iload_n 1, 1) := by decide +kernel
theorem u_12_9 {G : aG} {S : Nat → Bool} {f : Nat} {st : List Value} {ls : aL} {h : aH} {k n : Nat} (hs : S 9 = false) : WP 12 G S (f + 1) 9 ls st h k n = (oI (lget ls 1) (WP 12 G S f) 10 ls st h k n) := by rw [wp_s dd_12_9 rfl hs]; rfl
theorem dd_12_10 : decode (mB 12) 10 = .ok (.ireturn, 1) := by decide +kernel
theorem u_12_10 {G : aG} {S : Nat → Bool} {f : Nat} {ls : aL} {h : aH} {k n : Nat} {x : Int32} (hs : S 10 = false) : WP 12 G S (f + 1) 10 ls [.int x] h k n = (RET G (some (.int x)) h k n) := by rw [wp_s dd_12_10 rfl hs]; rfl
theorem dd_18_0 : decode (mB 18) 0 = .ok (.iload_n 1, 1) := by decide +kernel
theorem u_18_0 {G : aG} {S : Nat → Bool} {f : Nat} {st : List Value} {ls : aL} {h : aH} {k n : Nat} (hs : S 0 = false) : WP 18 G S (f + 1) 0 ls st h k n = (oI (lget ls 1) (WP 18 G S f) 1 ls st h k n) := by rw [wp_s dd_18_0 rfl hs]; rfl
theorem dd_18_1 : decode (mB 18) 1 = .ok (.aload_n 0, 1) := by decide +kernel
theorem u_18_1 {G : aG} {S : Nat → Bool} {f : Nat} {st : List Value} {ls : aL} {h : aH} {k n : Nat} (hs : S 1 = false) : WP 18 G S (f + 1) 1 ls st h k n = (oA (lget ls 0) (WP 18 G S f) 2 ls st h k n) := by rw [wp_s dd_18_1 rfl hs]; rfl
theorem dd_18_2 : decode (mB 18) 2 = .ok (.arraylength, 1) := by decide +kernel
theorem u_18_2 {G : aG} {S : Nat → Bool} {f : Nat} {st : List Value} {ls : aL} {h : aH} {k n : Nat} {a : Nat} (hs : S 2 = false) : WP 18 G S (f + 1) 2 ls (.ref a :: st) h k n = (oLen (alen h a) (WP 18 G S f) 3 ls st h k n) := by rw [wp_s dd_18_2 rfl hs]; rfl
theorem dd_18_3 : decode (mB 18) 3 = .ok (.if_icmp .ne 11, 3) := by decide +kernel
theorem u_18_3 {G : aG} {S : Nat → Bool} {f : Nat} {st : List Value} {ls : aL} {h : aH} {k n : Nat} {x y : Int32} (hs : S 3 = false) : WP 18 G S (f + 1) 3 ls (.int y :: .int x :: st) h k n = (if x = y then WP 18 G S f 6 ls st h k n else WP 18 G S f 14 ls st h k n) := by rw [wp_s dd_18_3 rfl hs]; exact br_iten (c := x = y)
theorem dd_18_6 : decode (mB 18) 6 = .ok (.aload_n 0, 1) := by decide +kernel
theorem u_18_6 {G : aG} {S : Nat → Bool} {f : Nat} {st : List Value} {ls : aL} {h : aH} {k n : Nat} (hs : S 6 = false) : WP 18 G S (f + 1) 6 ls st h k n = (oA (lget ls 0) (WP 18 G S f) 7 ls st h k n) := by rw [wp_s dd_18_6 rfl hs]; rfl
theorem dd_18_13 : decode (mB 18) 13 = .ok (.areturn, 1) := by decide +kernel
theorem u_18_13 {G : aG} {S : Nat → Bool} {f : Nat} {ls : aL} {h : aH} {k n : Nat} {a : Nat} (hs : S 13 = false) : WP 18 G S (f + 1) 13 ls [.ref a] h k n = (RET G (some (.ref a)) h k n) := by rw [wp_s dd_18_13 rfl hs]; rfl
theorem dd_18_14 : decode (mB 18) 14 = .ok (.iload_n 1, 1) := by decide +kernel
theorem u_18_14 {G : aG} {S : Nat → Bool} {f : Nat} {st : List Value} {ls : aL} {h : aH} {k n : Nat} (hs : S 14 = false) : WP 18 G S (f + 1) 14 ls st h k n = (oI (lget ls 1) (WP 18 G S f) 15 ls st h k n) := by rw [wp_s dd_18_14 rfl hs]; rfl
theorem dd_18_15 : decode (mB 18) 15 = .ok (.newarray .int, 2) := by decide +kernel
theorem u_18_15 {G : aG} {S : Nat → Bool} {f : Nat} {st : List Value} {ls : aL} {h : aH} {k n : Nat} {x : Int32} (hs : S 15 = false) : WP 18 G S (f + 1) 15 ls (.int x :: st) h k n = (¬ x < 0 ∧ x.toNatClampNeg * 4 ≤ 536870912 ∧ oNew G (cI x.toNatClampNeg) x.toNatClampNeg (WP 18 G S f) 17 ls st h k n) := by rw [wp_s dd_18_15 rfl hs]; rfl
theorem dd_18_17 : decode (mB 18) 17 = .ok (.astore_n 2, 1) := by decide +kernel
theorem u_18_17 {G : aG} {S : Nat → Bool} {f : Nat} {st : List Value} {ls : aL} {h : aH} {k n : Nat} {x : Nat} (hs : S 17 = false) : WP 18 G S (f + 1) 17 ls (.ref x :: st) h k n = (WP 18 G S f 18 (lput1 ls 2 (.ref x)) st h k n) := by rw [wp_s dd_18_17 rfl hs]; rfl
theorem dd_18_18 : decode (mB 18) 18 = .ok (.aload_n 0, 1) := by decide +kernel
theorem u_18_18 {G : aG} {S : Nat → Bool} {f : Nat} {st : List Value} {ls : aL} {h : aH} {k n : Nat} (hs : S 18 = false) : WP 18 G S (f + 1) 18 ls st h k n = (oA (lget ls 0) (WP 18 G S f) 19 ls st h k n) := by rw [wp_s dd_18_18 rfl hs]; rfl
theorem dd_18_19 : decode (mB 18) 19 = .ok (.iconst 0, 1) := by decide +kernel
theorem u_18_19 {G : aG} {S : Nat → Bool} {f : Nat} {st : List Value} {ls : aL} {h : aH} {k n : Nat} (hs : S 19 = false) : WP 18 G S (f + 1) 19 ls st h k n = (WP 18 G S f 20 ls (.int (nI 0) :: st) h k n) := by rw [wp_s dd_18_19 rfl hs]; rfl
theorem dd_18_20 : decode (mB 18) 20 = .ok (.aload_n 2, 1) := by decide +kernel
theorem u_18_20 {G : aG} {S : Nat → Bool} {f : Nat} {st : List Value} {ls : aL} {h : aH} {k n : Nat} (hs : S 20 = false) : WP 18 G S (f + 1) 20 ls st h k n = (oA (lget ls 2) (WP 18 G S f) 21 ls st h k n) := by rw [wp_s dd_18_20 rfl hs]; rfl
theorem dd_18_21 : decode (mB 18) 21 = .ok (.iconst 0, 1) := by decide +kernel
theorem u_18_21 {G : aG} {S : Nat → Bool} {f : Nat} {st : List Value} {ls : aL} {h : aH} {k n : Nat} (hs : S 21 = false) : WP 18 G S (f + 1) 21 ls st h k n = (WP 18 G S f 22 ls (.int (nI 0) :: st) h k n) := by rw [wp_s dd_18_21 rfl hs]; rfl
theorem dd_18_22 : decode (mB 18) 22 = .ok (.aload_n 0, 1) := by decide +kernel
theorem u_18_22 {G : aG} {S : Nat → Bool} {f : Nat} {st : List Value} {ls : aL} {h : aH} {k n : Nat} (hs : S 22 = false) : WP 18 G S (f + 1) 22 ls st h k n = (oA (lget ls 0) (WP 18 G S f) 23 ls st h k n) := by rw [wp_s dd_18_22 rfl hs]; rfl
theorem dd_18_23 : decode (mB 18) 23 = .ok (.arraylength, 1) := by decide +kernel
theorem u_18_23 {G : aG} {S : Nat → Bool} {f : Nat} {st : List Value} {ls : aL} {h : aH} {k n : Nat} {a : Nat} (hs : S 23 = false) : WP 18 G S (f + 1) 23 ls (.ref a :: st) h k n = (oLen (alen h a) (WP 18 G S f) 24 ls st h k n) := by rw [wp_s dd_18_23 rfl hs]; rfl
theorem dd_18_24 : decode (mB 18) 24 = .ok (.iload_n 1, 1) := by decide +kernel
theorem u_18_24 {G : aG} {S : Nat → Bool} {f : Nat} {st : List Value} {ls : aL} {h : aH} {k n : Nat} (hs : S 24 = false) : WP 18 G S (f + 1) 24 ls st h k n = (oI (lget ls 1) (WP 18 G S f) 25 ls st h k n) := by rw [wp_s dd_18_24 rfl hs]; rfl
theorem dd_18_25 : decode (mB 18) 25 = .ok (.invokestatic 304, 3) := by decide +kernel
theorem u_18_25 {G : aG} {S : Nat → Bool} {f : Nat} {st : List Value} {ls : aL} {h : aH} {k n : Nat} {v1 v2 : Value} (hs : S 25 = false) : WP 18 G S (f + 1) 25 ls (v2 :: v1 :: st) h k n = (CAL G (WP 18 G S f) 12 [v1, v2] 28 ls st h k n) := by rw [wp_s dd_18_25 rfl hs]; rfl
theorem dd_18_28 : decode (mB 18) 28 = .ok (.invokestatic 150, 3) := by decide +kernel
theorem u_18_28 {G : aG} {S : Nat → Bool} {f : Nat} {st : List Value} {ls : aL} {h : aH} {k n : Nat} {x sp dp : Int32} {a0 a1 : Nat} (hs : S 28 = false) : WP 18 G S (f + 1) 28 ls (.int x :: .int dp :: .ref a1 :: .int sp :: .ref a0 :: st) h k n = ((st.map fun v => v.category).sum ≤ 8 ∧ 1 ≤ gD G ∧ oCp (iget h a0 1) a0 a1 sp dp x (WP 18 G S f) 31 ls st h k n) := by rw [wp_s dd_18_28 rfl hs]; rfl
theorem dd_18_31 : decode (mB 18) 31 = .ok (.aload_n 2, 1) := by decide +kernel
theorem u_18_31 {G : aG} {S : Nat → Bool} {f : Nat} {st : List Value} {ls : aL} {h : aH} {k n : Nat} (hs : S 31 = false) : WP 18 G S (f + 1) 31 ls st h k n = (oA (lget ls 2) (WP 18 G S f) 32 ls st h k n) := by rw [wp_s dd_18_31 rfl hs]; rfl
theorem dd_18_32 : decode (mB 18) 32 = .ok (.areturn, 1) := by decide +kernel
theorem u_18_32 {G : aG} {S : Nat → Bool} {f : Nat} {ls : aL} {h : aH} {k n : Nat} {a : Nat} (hs : S 32 = false) : WP 18 G S (f + 1) 32 ls [.ref a] h k n = (RET G (some (.ref a)) h k n) := by rw [wp_s dd_18_32 rfl hs]; rfl
theorem dd_22_0 : decode (mB 22) 0 = .ok (.iload_n 0, 1) := by decide +kernel
theorem u_22_0 {G : aG} {S : Nat → Bool} {f : Nat} {st : List Value} {ls : aL} {h : aH} {k n : Nat} (hs : S 0 = false) : WP 22 G S (f + 1) 0 ls st h k n = (oI (lget ls 0) (WP 22 G S f) 1 ls st h k n) := by rw [wp_s dd_22_0 rfl hs]; rfl
theorem dd_22_1 : decode (mB 22) 1 = .ok (.iload_n 1, 1) := by decide +kernel
theorem u_22_1 {G : aG} {S : Nat → Bool} {f : Nat} {st : List Value} {ls : aL} {h : aH} {k n : Nat} (hs : S 1 = false) : WP 22 G S (f + 1) 1 ls st h k n = (oI (lget ls 1) (WP 22 G S f) 2 ls st h k n) := by rw [wp_s dd_22_1 rfl hs]; rfl
theorem dd_22_2 : decode (mB 22) 2 = .ok (.if_icmp .lt 7, 3) := by decide +kernel
theorem u_22_2 {G : aG} {S : Nat → Bool} {f : Nat} {st : List Value} {ls : aL} {h : aH} {k n : Nat} {x y : Int32} (hs : S 2 = false) : WP 22 G S (f + 1) 2 ls (.int y :: .int x :: st) h k n = (if x < y then WP 22 G S f 9 ls st h k n else WP 22 G S f 5 ls st h k n) := by rw [wp_s dd_22_2 rfl hs]; exact br_ite (c := x < y)
theorem dd_22_5 : decode (mB 22) 5 = .ok (.iload_n 0, 1) := by decide +kernel
theorem u_22_5 {G : aG} {S : Nat → Bool} {f : Nat} {st : List Value} {ls : aL} {h : aH} {k n : Nat} (hs : S 5 = false) : WP 22 G S (f + 1) 5 ls st h k n = (oI (lget ls 0) (WP 22 G S f) 6 ls st h k n) := by rw [wp_s dd_22_5 rfl hs]; rfl
theorem dd_22_6 : decode (mB 22) 6 = .ok (.goto 4, 3) := by decide +kernel
theorem u_22_6 {G : aG} {S : Nat → Bool} {f : Nat} {st : List Value} {ls : aL} {h : aH} {k n : Nat} (hs : S 6 = false) : WP 22 G S (f + 1) 6 ls st h k n = (WP 22 G S f 10 ls st h k n) := by rw [wp_s dd_22_6 rfl hs]; rfl
theorem dd_22_9 : decode (mB 22) 9 = .ok (.iload_n 1, 1) := by decide +kernel
theorem u_22_9 {G : aG} {S : Nat → Bool} {f : Nat} {st : List Value} {ls : aL} {h : aH} {k n : Nat} (hs : S 9 = false) : WP 22 G S (f + 1) 9 ls st h k n = (oI (lget ls 1) (WP 22 G S f) 10 ls st h k n) := by rw [wp_s dd_22_9 rfl hs]; rfl
theorem dd_22_10 : decode (mB 22) 10 = .ok (.ireturn, 1) := by decide +kernel
theorem u_22_10 {G : aG} {S : Nat → Bool} {f : Nat} {ls : aL} {h : aH} {k n : Nat} {x : Int32} (hs : S 10 = false) : WP 22 G S (f + 1) 10 ls [.int x] h k n = (RET G (some (.int x)) h k n) := by rw [wp_s dd_22_10 rfl hs]; rfl
theorem dd_23_0 : decode (mB 23) 0 = .ok (.iconst 0, 1) := by decide +kernel
theorem u_23_0 {G : aG} {S : Nat → Bool} {f : Nat} {st : List Value} {ls : aL} {h : aH} {k n : Nat} (hs : S 0 = false) : WP 23 G S (f + 1) 0 ls st h k n = (WP 23 G S f 1 ls (.int (nI 0) :: st) h k n) := by rw [wp_s dd_23_0 rfl hs]; rfl
theorem dd_23_1 : decode (mB 23) 1 = .ok (.istore_n 2, 1) := by decide +kernel
theorem u_23_1 {G : aG} {S : Nat → Bool} {f : Nat} {st : List Value} {ls : aL} {h : aH} {k n : Nat} {x : Int32} (hs : S 1 = false) : WP 23 G S (f + 1) 1 ls (.int x :: st) h k n = (WP 23 G S f 2 (lput1 ls 2 (.int x)) st h k n) := by rw [wp_s dd_23_1 rfl hs]; rfl
theorem dd_23_2 : decode (mB 23) 2 = .ok (.aload_n 0, 1) := by decide +kernel
theorem u_23_2 {G : aG} {S : Nat → Bool} {f : Nat} {st : List Value} {ls : aL} {h : aH} {k n : Nat} (hs : S 2 = false) : WP 23 G S (f + 1) 2 ls st h k n = (oA (lget ls 0) (WP 23 G S f) 3 ls st h k n) := by rw [wp_s dd_23_2 rfl hs]; rfl
theorem dd_23_3 : decode (mB 23) 3 = .ok (.arraylength, 1) := by decide +kernel
theorem u_23_3 {G : aG} {S : Nat → Bool} {f : Nat} {st : List Value} {ls : aL} {h : aH} {k n : Nat} {a : Nat} (hs : S 3 = false) : WP 23 G S (f + 1) 3 ls (.ref a :: st) h k n = (oLen (alen h a) (WP 23 G S f) 4 ls st h k n) := by rw [wp_s dd_23_3 rfl hs]; rfl
theorem dd_23_4 : decode (mB 23) 4 = .ok (.istore_n 3, 1) := by decide +kernel
theorem u_23_4 {G : aG} {S : Nat → Bool} {f : Nat} {st : List Value} {ls : aL} {h : aH} {k n : Nat} {x : Int32} (hs : S 4 = false) : WP 23 G S (f + 1) 4 ls (.int x :: st) h k n = (WP 23 G S f 5 (lput1 ls 3 (.int x)) st h k n) := by rw [wp_s dd_23_4 rfl hs]; rfl
theorem dd_23_5 : decode (mB 23) 5 = .ok (.iload_n 2, 1) := by decide +kernel
theorem u_23_5 {G : aG} {S : Nat → Bool} {f : Nat} {st : List Value} {ls : aL} {h : aH} {k n : Nat} (hs : S 5 = false) : WP 23 G S (f + 1) 5 ls st h k n = (oI (lget ls 2) (WP 23 G S f) 6 ls st h k n) := by rw [wp_s dd_23_5 rfl hs]; rfl
theorem v_23_5 {G : aG} {S : Nat → Bool} {f : Nat} {st : List Value} {ls : aL} {h : aH} {k n : Nat} : WQ 23 G S f 5 ls st h k n = (oI (lget ls 2) (WP 23 G S f) 6 ls st h k n) := by rw [wq_s dd_23_5 rfl]; rfl
theorem dd_23_6 : decode (mB 23) 6 = .ok (.iload_n 3, 1) := by decide +kernel
theorem u_23_6 {G : aG} {S : Nat → Bool} {f : Nat} {st : List Value} {ls : aL} {h : aH} {k n : Nat} (hs : S 6 = false) : WP 23 G S (f + 1) 6 ls st h k n = (oI (lget ls 3) (WP 23 G S f) 7 ls st h k n) := by rw [wp_s dd_23_6 rfl hs]; rfl
theorem dd_23_7 : decode (mB 23) 7 = .ok (.if_icmp .ge 13, 3) := by decide +kernel
theorem u_23_7 {G : aG} {S : Nat → Bool} {f : Nat} {st : List Value} {ls : aL} {h : aH} {k n : Nat} {x y : Int32} (hs : S 7 = false) : WP 23 G S (f + 1) 7 ls (.int y :: .int x :: st) h k n = (if y ≤ x then WP 23 G S f 20 ls st h k n else WP 23 G S f 10 ls st h k n) := by rw [wp_s dd_23_7 rfl hs]; exact br_ite (c := y ≤ x)
theorem dd_23_10 : decode (mB 23) 10 = .ok (.aload_n 0, 1) := by decide +kernel
theorem u_23_10 {G : aG} {S : Nat → Bool} {f : Nat} {st : List Value} {ls : aL} {h : aH} {k n : Nat} (hs : S 10 = false) : WP 23 G S (f + 1) 10 ls st h k n = (oA (lget ls 0) (WP 23 G S f) 11 ls st h k n) := by rw [wp_s dd_23_10 rfl hs]; rfl
theorem dd_23_11 : decode (mB 23) 11 = .ok (.iload_n 2, 1) := by decide +kernel
theorem u_23_11 {G : aG} {S : Nat → Bool} {f : Nat} {st : List Value} {ls : aL} {h : aH} {k n : Nat} (hs : S 11 = false) : WP 23 G S (f + 1) 11 ls st h k n = (oI (lget ls 2) (WP 23 G S f) 12 ls st h k n) := by rw [wp_s dd_23_11 rfl hs]; rfl
theorem dd_23_12 : decode (mB 23) 12 = .ok (.iload_n 1, 1) := by decide +kernel
theorem u_23_12 {G : aG} {S : Nat → Bool} {f : Nat} {st : List Value} {ls : aL} {h : aH} {k n : Nat} (hs : S 12 = false) : WP 23 G S (f + 1) 12 ls st h k n = (oI (lget ls 1) (WP 23 G S f) 13 ls st h k n) := by rw [wp_s dd_23_12 rfl hs]; rfl
theorem dd_23_13 : decode (mB 23) 13 = .ok (.iastore, 1) := by decide +kernel
theorem u_23_13 {G : aG} {S : Nat → Bool} {f : Nat} {st : List Value} {ls : aL} {h : aH} {k n : Nat} {i x : Int32} {a : Nat} (hs : S 13 = false) : WP 23 G S (f + 1) 13 ls (.int x :: .int i :: .ref a :: st) h k n = (oIst (iget h a 1) a i x (WP 23 G S f) 14 ls st h k n) := by rw [wp_s dd_23_13 rfl hs]; rfl
theorem dd_23_14 : decode (mB 23) 14 = .ok (.iinc 2 1, 3) := by decide +kernel
theorem u_23_14 {G : aG} {S : Nat → Bool} {f : Nat} {st : List Value} {ls : aL} {h : aH} {k n : Nat} (hs : S 14 = false) : WP 23 G S (f + 1) 14 ls st h k n = (oInc (lget ls 2) (nI 1) (WP 23 G S f) 2 17 ls st h k n) := by rw [wp_s dd_23_14 rfl hs]; rfl
theorem dd_23_17 : decode (mB 23) 17 = .ok (.goto (-12), 3) := by decide +kernel
theorem u_23_17 {G : aG} {S : Nat → Bool} {f : Nat} {st : List Value} {ls : aL} {h : aH} {k n : Nat} (hs : S 17 = false) : WP 23 G S (f + 1) 17 ls st h k n = (WP 23 G S f 5 ls st h k n) := by rw [wp_s dd_23_17 rfl hs]; rfl
theorem dd_23_20 : decode (mB 23) 20 = .ok (.return_, 1) := by decide +kernel
theorem u_23_20 {G : aG} {S : Nat → Bool} {f : Nat} {ls : aL} {h : aH} {k n : Nat} (hs : S 20 = false) : WP 23 G S (f + 1) 20 ls [] h k n = (RET G none h k n) := by rw [wp_s dd_23_20 rfl hs]; rfl
theorem dd_29_0 : decode (mB 29) 0 = .ok (.iload_n 1, 1) := by decide +kernel
theorem u_29_0 {G : aG} {S : Nat → Bool} {f : Nat} {st : List Value} {ls : aL} {h : aH} {k n : Nat} (hs : S 0 = false) : WP 29 G S (f + 1) 0 ls st h k n = (oI (lget ls 1) (WP 29 G S f) 1 ls st h k n) := by rw [wp_s dd_29_0 rfl hs]; rfl
theorem dd_29_1 : decode (mB 29) 1 = .ok (.aload_n 0, 1) := by decide +kernel
theorem u_29_1 {G : aG} {S : Nat → Bool} {f : Nat} {st : List Value} {ls : aL} {h : aH} {k n : Nat} (hs : S 1 = false) : WP 29 G S (f + 1) 1 ls st h k n = (oA (lget ls 0) (WP 29 G S f) 2 ls st h k n) := by rw [wp_s dd_29_1 rfl hs]; rfl
theorem dd_29_2 : decode (mB 29) 2 = .ok (.arraylength, 1) := by decide +kernel
theorem u_29_2 {G : aG} {S : Nat → Bool} {f : Nat} {st : List Value} {ls : aL} {h : aH} {k n : Nat} {a : Nat} (hs : S 2 = false) : WP 29 G S (f + 1) 2 ls (.ref a :: st) h k n = (oLen (alen h a) (WP 29 G S f) 3 ls st h k n) := by rw [wp_s dd_29_2 rfl hs]; rfl
theorem dd_29_3 : decode (mB 29) 3 = .ok (.if_icmp .ne 11, 3) := by decide +kernel
theorem u_29_3 {G : aG} {S : Nat → Bool} {f : Nat} {st : List Value} {ls : aL} {h : aH} {k n : Nat} {x y : Int32} (hs : S 3 = false) : WP 29 G S (f + 1) 3 ls (.int y :: .int x :: st) h k n = (if x = y then WP 29 G S f 6 ls st h k n else WP 29 G S f 14 ls st h k n) := by rw [wp_s dd_29_3 rfl hs]; exact br_iten (c := x = y)
theorem dd_29_6 : decode (mB 29) 6 = .ok (.aload_n 0, 1) := by decide +kernel
theorem u_29_6 {G : aG} {S : Nat → Bool} {f : Nat} {st : List Value} {ls : aL} {h : aH} {k n : Nat} (hs : S 6 = false) : WP 29 G S (f + 1) 6 ls st h k n = (oA (lget ls 0) (WP 29 G S f) 7 ls st h k n) := by rw [wp_s dd_29_6 rfl hs]; rfl
theorem dd_29_13 : decode (mB 29) 13 = .ok (.areturn, 1) := by decide +kernel
theorem u_29_13 {G : aG} {S : Nat → Bool} {f : Nat} {ls : aL} {h : aH} {k n : Nat} {a : Nat} (hs : S 13 = false) : WP 29 G S (f + 1) 13 ls [.ref a] h k n = (RET G (some (.ref a)) h k n) := by rw [wp_s dd_29_13 rfl hs]; rfl
theorem dd_29_14 : decode (mB 29) 14 = .ok (.iload_n 1, 1) := by decide +kernel
theorem u_29_14 {G : aG} {S : Nat → Bool} {f : Nat} {st : List Value} {ls : aL} {h : aH} {k n : Nat} (hs : S 14 = false) : WP 29 G S (f + 1) 14 ls st h k n = (oI (lget ls 1) (WP 29 G S f) 15 ls st h k n) := by rw [wp_s dd_29_14 rfl hs]; rfl
theorem dd_29_15 : decode (mB 29) 15 = .ok (.newarray .long, 2) := by decide +kernel
theorem u_29_15 {G : aG} {S : Nat → Bool} {f : Nat} {st : List Value} {ls : aL} {h : aH} {k n : Nat} {x : Int32} (hs : S 15 = false) : WP 29 G S (f + 1) 15 ls (.int x :: st) h k n = (¬ x < 0 ∧ x.toNatClampNeg * 8 ≤ 536870912 ∧ oNew G (cJ x.toNatClampNeg) x.toNatClampNeg (WP 29 G S f) 17 ls st h k n) := by rw [wp_s dd_29_15 rfl hs]; rfl
theorem dd_29_17 : decode (mB 29) 17 = .ok (.astore_n 2, 1) := by decide +kernel
theorem u_29_17 {G : aG} {S : Nat → Bool} {f : Nat} {st : List Value} {ls : aL} {h : aH} {k n : Nat} {x : Nat} (hs : S 17 = false) : WP 29 G S (f + 1) 17 ls (.ref x :: st) h k n = (WP 29 G S f 18 (lput1 ls 2 (.ref x)) st h k n) := by rw [wp_s dd_29_17 rfl hs]; rfl
theorem dd_29_18 : decode (mB 29) 18 = .ok (.aload_n 0, 1) := by decide +kernel
theorem u_29_18 {G : aG} {S : Nat → Bool} {f : Nat} {st : List Value} {ls : aL} {h : aH} {k n : Nat} (hs : S 18 = false) : WP 29 G S (f + 1) 18 ls st h k n = (oA (lget ls 0) (WP 29 G S f) 19 ls st h k n) := by rw [wp_s dd_29_18 rfl hs]; rfl
theorem dd_29_19 : decode (mB 29) 19 = .ok (.iconst 0, 1) := by decide +kernel
theorem u_29_19 {G : aG} {S : Nat → Bool} {f : Nat} {st : List Value} {ls : aL} {h : aH} {k n : Nat} (hs : S 19 = false) : WP 29 G S (f + 1) 19 ls st h k n = (WP 29 G S f 20 ls (.int (nI 0) :: st) h k n) := by rw [wp_s dd_29_19 rfl hs]; rfl
theorem dd_29_20 : decode (mB 29) 20 = .ok (.aload_n 2, 1) := by decide +kernel
theorem u_29_20 {G : aG} {S : Nat → Bool} {f : Nat} {st : List Value} {ls : aL} {h : aH} {k n : Nat} (hs : S 20 = false) : WP 29 G S (f + 1) 20 ls st h k n = (oA (lget ls 2) (WP 29 G S f) 21 ls st h k n) := by rw [wp_s dd_29_20 rfl hs]; rfl
theorem dd_29_21 : decode (mB 29) 21 = .ok (.iconst 0, 1) := by decide +kernel
theorem u_29_21 {G : aG} {S : Nat → Bool} {f : Nat} {st : List Value} {ls : aL} {h : aH} {k n : Nat} (hs : S 21 = false) : WP 29 G S (f + 1) 21 ls st h k n = (WP 29 G S f 22 ls (.int (nI 0) :: st) h k n) := by rw [wp_s dd_29_21 rfl hs]; rfl
theorem dd_29_22 : decode (mB 29) 22 = .ok (.aload_n 0, 1) := by decide +kernel
theorem u_29_22 {G : aG} {S : Nat → Bool} {f : Nat} {st : List Value} {ls : aL} {h : aH} {k n : Nat} (hs : S 22 = false) : WP 29 G S (f + 1) 22 ls st h k n = (oA (lget ls 0) (WP 29 G S f) 23 ls st h k n) := by rw [wp_s dd_29_22 rfl hs]; rfl
theorem dd_29_23 : decode (mB 29) 23 = .ok (.arraylength, 1) := by decide +kernel
theorem u_29_23 {G : aG} {S : Nat → Bool} {f : Nat} {st : List Value} {ls : aL} {h : aH} {k n : Nat} {a : Nat} (hs : S 23 = false) : WP 29 G S (f + 1) 23 ls (.ref a :: st) h k n = (oLen (alen h a) (WP 29 G S f) 24 ls st h k n) := by rw [wp_s dd_29_23 rfl hs]; rfl
theorem dd_29_24 : decode (mB 29) 24 = .ok (.iload_n 1, 1) := by decide +kernel
theorem u_29_24 {G : aG} {S : Nat → Bool} {f : Nat} {st : List Value} {ls : aL} {h : aH} {k n : Nat} (hs : S 24 = false) : WP 29 G S (f + 1) 24 ls st h k n = (oI (lget ls 1) (WP 29 G S f) 25 ls st h k n) := by rw [wp_s dd_29_24 rfl hs]; rfl
theorem dd_29_25 : decode (mB 29) 25 = .ok (.invokestatic 304, 3) := by decide +kernel
theorem u_29_25 {G : aG} {S : Nat → Bool} {f : Nat} {st : List Value} {ls : aL} {h : aH} {k n : Nat} {v1 v2 : Value} (hs : S 25 = false) : WP 29 G S (f + 1) 25 ls (v2 :: v1 :: st) h k n = (CAL G (WP 29 G S f) 12 [v1, v2] 28 ls st h k n) := by rw [wp_s dd_29_25 rfl hs]; rfl
theorem dd_29_28 : decode (mB 29) 28 = .ok (.invokestatic 150, 3) := by decide +kernel
theorem u_29_28 {G : aG} {S : Nat → Bool} {f : Nat} {st : List Value} {ls : aL} {h : aH} {k n : Nat} {x sp dp : Int32} {a0 a1 : Nat} (hs : S 28 = false) : WP 29 G S (f + 1) 28 ls (.int x :: .int dp :: .ref a1 :: .int sp :: .ref a0 :: st) h k n = ((st.map fun v => v.category).sum ≤ 8 ∧ 1 ≤ gD G ∧ oCp (iget h a0 1) a0 a1 sp dp x (WP 29 G S f) 31 ls st h k n) := by rw [wp_s dd_29_28 rfl hs]; rfl
theorem dd_29_31 : decode (mB 29) 31 = .ok (.aload_n 2, 1) := by decide +kernel
theorem u_29_31 {G : aG} {S : Nat → Bool} {f : Nat} {st : List Value} {ls : aL} {h : aH} {k n : Nat} (hs : S 31 = false) : WP 29 G S (f + 1) 31 ls st h k n = (oA (lget ls 2) (WP 29 G S f) 32 ls st h k n) := by rw [wp_s dd_29_31 rfl hs]; rfl
theorem dd_29_32 : decode (mB 29) 32 = .ok (.areturn, 1) := by decide +kernel
theorem u_29_32 {G : aG} {S : Nat → Bool} {f : Nat} {ls : aL} {h : aH} {k n : Nat} {a : Nat} (hs : S 32 = false) : WP 29 G S (f + 1) 32 ls [.ref a] h k n = (RET G (some (.ref a)) h k n) := by rw [wp_s dd_29_32 rfl hs]; rfl
theorem dd_34_0 : decode (mB 34) 0 = .ok (.aload_n 0, 1) := by decide +kernel
theorem u_34_0 {G : aG} {S : Nat → Bool} {f : Nat} {st : List Value} {ls : aL} {h : aH} {k n : Nat} (hs : S 0 = false) : WP 34 G S (f + 1) 0 ls st h k n = (oA (lget ls 0) (WP 34 G S f) 1 ls st h k n) := by rw [wp_s dd_34_0 rfl hs]; rfl
theorem dd_34_1 : decode (mB 34) 1 = .ok (.getfield 15, 3) := by decide +kernel
theorem u_34_1 {G : aG} {S : Nat → Bool} {f : Nat} {st : List Value} {ls : aL} {h : aH} {k n : Nat} {a : Nat} (hs : S 1 = false) : WP 34 G S (f + 1) 1 ls (.ref a :: st) h k n = (oV (fget h a 8 1) (WP 34 G S f) 4 ls st h k n) := by rw [wp_s dd_34_1 rfl hs]; rfl
theorem dd_34_4 : decode (mB 34) 4 = .ok (.sipush 150, 3) := by decide +kernel
theorem u_34_4 {G : aG} {S : Nat → Bool} {f : Nat} {st : List Value} {ls : aL} {h : aH} {k n : Nat} (hs : S 4 = false) : WP 34 G S (f + 1) 4 ls st h k n = (WP 34 G S f 7 ls (.int (nI 150) :: st) h k n) := by rw [wp_s dd_34_4 rfl hs]; rfl
theorem dd_34_7 : decode (mB 34) 7 = .ok (.if_icmp .ge 24, 3) := by decide +kernel
theorem u_34_7 {G : aG} {S : Nat → Bool} {f : Nat} {st : List Value} {ls : aL} {h : aH} {k n : Nat} {x y : Int32} (hs : S 7 = false) : WP 34 G S (f + 1) 7 ls (.int y :: .int x :: st) h k n = (if y ≤ x then WP 34 G S f 31 ls st h k n else WP 34 G S f 10 ls st h k n) := by rw [wp_s dd_34_7 rfl hs]; exact br_ite (c := y ≤ x)
theorem dd_34_10 : decode (mB 34) 10 = .ok (.aload_n 0, 1) := by decide +kernel
theorem u_34_10 {G : aG} {S : Nat → Bool} {f : Nat} {st : List Value} {ls : aL} {h : aH} {k n : Nat} (hs : S 10 = false) : WP 34 G S (f + 1) 10 ls st h k n = (oA (lget ls 0) (WP 34 G S f) 11 ls st h k n) := by rw [wp_s dd_34_10 rfl hs]; rfl
theorem dd_34_11 : decode (mB 34) 11 = .ok (.getfield 9, 3) := by decide +kernel
theorem u_34_11 {G : aG} {S : Nat → Bool} {f : Nat} {st : List Value} {ls : aL} {h : aH} {k n : Nat} {a : Nat} (hs : S 11 = false) : WP 34 G S (f + 1) 11 ls (.ref a :: st) h k n = (oV (fget h a 8 0) (WP 34 G S f) 14 ls st h k n) := by rw [wp_s dd_34_11 rfl hs]; rfl
theorem dd_34_14 : decode (mB 34) 14 = .ok (.aload_n 0, 1) := by decide +kernel
theorem u_34_14 {G : aG} {S : Nat → Bool} {f : Nat} {st : List Value} {ls : aL} {h : aH} {k n : Nat} (hs : S 14 = false) : WP 34 G S (f + 1) 14 ls st h k n = (oA (lget ls 0) (WP 34 G S f) 15 ls st h k n) := by rw [wp_s dd_34_14 rfl hs]; rfl
theorem dd_34_15 : decode (mB 34) 15 = .ok (.getfield 15, 3) := by decide +kernel
theorem u_34_15 {G : aG} {S : Nat → Bool} {f : Nat} {st : List Value} {ls : aL} {h : aH} {k n : Nat} {a : Nat} (hs : S 15 = false) : WP 34 G S (f + 1) 15 ls (.ref a :: st) h k n = (oV (fget h a 8 1) (WP 34 G S f) 18 ls st h k n) := by rw [wp_s dd_34_15 rfl hs]; rfl
theorem dd_34_18 : decode (mB 34) 18 = .ok (.iload_n 1, 1) := by decide +kernel
theorem u_34_18 {G : aG} {S : Nat → Bool} {f : Nat} {st : List Value} {ls : aL} {h : aH} {k n : Nat} (hs : S 18 = false) : WP 34 G S (f + 1) 18 ls st h k n = (oI (lget ls 1) (WP 34 G S f) 19 ls st h k n) := by rw [wp_s dd_34_18 rfl hs]; rfl
theorem dd_34_19 : decode (mB 34) 19 = .ok (.i2b, 1) := by decide +kernel
theorem u_34_19 {G : aG} {S : Nat → Bool} {f : Nat} {st : List Value} {ls : aL} {h : aH} {k n : Nat} {x : Int32} (hs : S 19 = false) : WP 34 G S (f + 1) 19 ls (.int x :: st) h k n = (WP 34 G S f 20 ls (.int x.toInt8.toInt32 :: st) h k n) := by rw [wp_s dd_34_19 rfl hs]; rfl
theorem dd_34_20 : decode (mB 34) 20 = .ok (.bastore, 1) := by decide +kernel
theorem u_34_20 {G : aG} {S : Nat → Bool} {f : Nat} {st : List Value} {ls : aL} {h : aH} {k n : Nat} {i x : Int32} {a : Nat} (hs : S 20 = false) : WP 34 G S (f + 1) 20 ls (.int x :: .int i :: .ref a :: st) h k n = (oBst (iget h a 0) a i x (WP 34 G S f) 21 ls st h k n) := by rw [wp_s dd_34_20 rfl hs]; rfl
theorem dd_34_21 : decode (mB 34) 21 = .ok (.aload_n 0, 1) := by decide +kernel
theorem u_34_21 {G : aG} {S : Nat → Bool} {f : Nat} {st : List Value} {ls : aL} {h : aH} {k n : Nat} (hs : S 21 = false) : WP 34 G S (f + 1) 21 ls st h k n = (oA (lget ls 0) (WP 34 G S f) 22 ls st h k n) := by rw [wp_s dd_34_21 rfl hs]; rfl
theorem dd_34_22 : decode (mB 34) 22 = .ok (.dup, 1) := by decide +kernel
theorem u_34_22 {G : aG} {S : Nat → Bool} {f : Nat} {st : List Value} {ls : aL} {h : aH} {k n : Nat} {v : Value} (hs : S 22 = false) : WP 34 G S (f + 1) 22 ls (v :: st) h k n = (cond (cat1 v) (WP 34 G S f 23 ls (v :: v :: st) h k n) False) := by rw [wp_s dd_34_22 rfl hs]; rfl
theorem dd_34_23 : decode (mB 34) 23 = .ok (.getfield 15, 3) := by decide +kernel
theorem u_34_23 {G : aG} {S : Nat → Bool} {f : Nat} {st : List Value} {ls : aL} {h : aH} {k n : Nat} {a : Nat} (hs : S 23 = false) : WP 34 G S (f + 1) 23 ls (.ref a :: st) h k n = (oV (fget h a 8 1) (WP 34 G S f) 26 ls st h k n) := by rw [wp_s dd_34_23 rfl hs]; rfl
theorem dd_34_26 : decode (mB 34) 26 = .ok (.iconst 1, 1) := by decide +kernel
theorem u_34_26 {G : aG} {S : Nat → Bool} {f : Nat} {st : List Value} {ls : aL} {h : aH} {k n : Nat} (hs : S 26 = false) : WP 34 G S (f + 1) 26 ls st h k n = (WP 34 G S f 27 ls (.int (nI 1) :: st) h k n) := by rw [wp_s dd_34_26 rfl hs]; rfl
theorem dd_34_27 : decode (mB 34) 27 = .ok (.iadd, 1) := by decide +kernel
theorem u_34_27 {G : aG} {S : Nat → Bool} {f : Nat} {st : List Value} {ls : aL} {h : aH} {k n : Nat} {x y : Int32} (hs : S 27 = false) : WP 34 G S (f + 1) 27 ls (.int y :: .int x :: st) h k n = (WP 34 G S f 28 ls (.int (x + y) :: st) h k n) := by rw [wp_s dd_34_27 rfl hs]; rfl
theorem dd_34_28 : decode (mB 34) 28 = .ok (.putfield 15, 3) := by decide +kernel
theorem u_34_28 {G : aG} {S : Nat → Bool} {f : Nat} {st : List Value} {ls : aL} {h : aH} {k n : Nat} {a : Nat} {x : Int32} (hs : S 28 = false) : WP 34 G S (f + 1) 28 ls (.int x :: .ref a :: st) h k n = (oH (fput h a 8 1 (.int x)) (WP 34 G S f) 31 ls st k n) := by rw [wp_s dd_34_28 rfl hs]; rfl
theorem dd_34_31 : decode (mB 34) 31 = .ok (.return_, 1) := by decide +kernel
theorem u_34_31 {G : aG} {S : Nat → Bool} {f : Nat} {ls : aL} {h : aH} {k n : Nat} (hs : S 31 = false) : WP 34 G S (f + 1) 31 ls [] h k n = (RET G none h k n) := by rw [wp_s dd_34_31 rfl hs]; rfl
theorem dd_38_0 : decode (mB 38) 0 = .ok (.iload_n 1, 1) := by decide +kernel
theorem u_38_0 {G : aG} {S : Nat → Bool} {f : Nat} {st : List Value} {ls : aL} {h : aH} {k n : Nat} (hs : S 0 = false) : WP 38 G S (f + 1) 0 ls st h k n = (oI (lget ls 1) (WP 38 G S f) 1 ls st h k n) := by rw [wp_s dd_38_0 rfl hs]; rfl
theorem dd_38_1 : decode (mB 38) 1 = .ok (.ifCond .lt 27, 3) := by decide +kernel
theorem u_38_1 {G : aG} {S : Nat → Bool} {f : Nat} {st : List Value} {ls : aL} {h : aH} {k n : Nat} {x : Int32} (hs : S 1 = false) : WP 38 G S (f + 1) 1 ls (.int x :: st) h k n = (if x < nI 0 then WP 38 G S f 28 ls st h k n else WP 38 G S f 4 ls st h k n) := by rw [wp_s dd_38_1 rfl hs]; exact br_ite (c := x < nI 0)
theorem dd_38_4 : decode (mB 38) 4 = .ok (.iload_n 1, 1) := by decide +kernel
theorem u_38_4 {G : aG} {S : Nat → Bool} {f : Nat} {st : List Value} {ls : aL} {h : aH} {k n : Nat} (hs : S 4 = false) : WP 38 G S (f + 1) 4 ls st h k n = (oI (lget ls 1) (WP 38 G S f) 5 ls st h k n) := by rw [wp_s dd_38_4 rfl hs]; rfl
theorem dd_38_5 : decode (mB 38) 5 = .ok (.aload_n 0, 1) := by decide +kernel
theorem u_38_5 {G : aG} {S : Nat → Bool} {f : Nat} {st : List Value} {ls : aL} {h : aH} {k n : Nat} (hs : S 5 = false) : WP 38 G S (f + 1) 5 ls st h k n = (oA (lget ls 0) (WP 38 G S f) 6 ls st h k n) := by rw [wp_s dd_38_5 rfl hs]; rfl
theorem dd_38_6 : decode (mB 38) 6 = .ok (.getfield 15, 3) := by decide +kernel
theorem u_38_6 {G : aG} {S : Nat → Bool} {f : Nat} {st : List Value} {ls : aL} {h : aH} {k n : Nat} {a : Nat} (hs : S 6 = false) : WP 38 G S (f + 1) 6 ls (.ref a :: st) h k n = (oV (fget h a 8 1) (WP 38 G S f) 9 ls st h k n) := by rw [wp_s dd_38_6 rfl hs]; rfl
theorem dd_38_9 : decode (mB 38) 9 = .ok (.if_icmp .ge 19, 3) := by decide +kernel
theorem u_38_9 {G : aG} {S : Nat → Bool} {f : Nat} {st : List Value} {ls : aL} {h : aH} {k n : Nat} {x y : Int32} (hs : S 9 = false) : WP 38 G S (f + 1) 9 ls (.int y :: .int x :: st) h k n = (if y ≤ x then WP 38 G S f 28 ls st h k n else WP 38 G S f 12 ls st h k n) := by rw [wp_s dd_38_9 rfl hs]; exact br_ite (c := y ≤ x)
theorem dd_38_12 : decode (mB 38) 12 = .ok (.iload_n 1, 1) := by decide +kernel
theorem u_38_12 {G : aG} {S : Nat → Bool} {f : Nat} {st : List Value} {ls : aL} {h : aH} {k n : Nat} (hs : S 12 = false) : WP 38 G S (f + 1) 12 ls st h k n = (oI (lget ls 1) (WP 38 G S f) 13 ls st h k n) := by rw [wp_s dd_38_12 rfl hs]; rfl
theorem dd_38_13 : decode (mB 38) 13 = .ok (.sipush 150, 3) := by decide +kernel
theorem u_38_13 {G : aG} {S : Nat → Bool} {f : Nat} {st : List Value} {ls : aL} {h : aH} {k n : Nat} (hs : S 13 = false) : WP 38 G S (f + 1) 13 ls st h k n = (WP 38 G S f 16 ls (.int (nI 150) :: st) h k n) := by rw [wp_s dd_38_13 rfl hs]; rfl
theorem dd_38_16 : decode (mB 38) 16 = .ok (.if_icmp .ge 12, 3) := by decide +kernel
theorem u_38_16 {G : aG} {S : Nat → Bool} {f : Nat} {st : List Value} {ls : aL} {h : aH} {k n : Nat} {x y : Int32} (hs : S 16 = false) : WP 38 G S (f + 1) 16 ls (.int y :: .int x :: st) h k n = (if y ≤ x then WP 38 G S f 28 ls st h k n else WP 38 G S f 19 ls st h k n) := by rw [wp_s dd_38_16 rfl hs]; exact br_ite (c := y ≤ x)
theorem dd_38_19 : decode (mB 38) 19 = .ok (.aload_n 0, 1) := by decide +kernel
theorem u_38_19 {G : aG} {S : Nat → Bool} {f : Nat} {st : List Value} {ls : aL} {h : aH} {k n : Nat} (hs : S 19 = false) : WP 38 G S (f + 1) 19 ls st h k n = (oA (lget ls 0) (WP 38 G S f) 20 ls st h k n) := by rw [wp_s dd_38_19 rfl hs]; rfl
theorem dd_38_20 : decode (mB 38) 20 = .ok (.getfield 9, 3) := by decide +kernel
theorem u_38_20 {G : aG} {S : Nat → Bool} {f : Nat} {st : List Value} {ls : aL} {h : aH} {k n : Nat} {a : Nat} (hs : S 20 = false) : WP 38 G S (f + 1) 20 ls (.ref a :: st) h k n = (oV (fget h a 8 0) (WP 38 G S f) 23 ls st h k n) := by rw [wp_s dd_38_20 rfl hs]; rfl
theorem dd_38_23 : decode (mB 38) 23 = .ok (.iload_n 1, 1) := by decide +kernel
theorem u_38_23 {G : aG} {S : Nat → Bool} {f : Nat} {st : List Value} {ls : aL} {h : aH} {k n : Nat} (hs : S 23 = false) : WP 38 G S (f + 1) 23 ls st h k n = (oI (lget ls 1) (WP 38 G S f) 24 ls st h k n) := by rw [wp_s dd_38_23 rfl hs]; rfl
theorem dd_38_24 : decode (mB 38) 24 = .ok (.baload, 1) := by decide +kernel
theorem u_38_24 {G : aG} {S : Nat → Bool} {f : Nat} {st : List Value} {ls : aL} {h : aH} {k n : Nat} {i : Int32} {a : Nat} (hs : S 24 = false) : WP 38 G S (f + 1) 24 ls (.int i :: .ref a :: st) h k n = (oIld (iget h a 0) i (WP 38 G S f) 25 ls st h k n) := by rw [wp_s dd_38_24 rfl hs]; rfl
theorem dd_38_25 : decode (mB 38) 25 = .ok (.goto 4, 3) := by decide +kernel
theorem u_38_25 {G : aG} {S : Nat → Bool} {f : Nat} {st : List Value} {ls : aL} {h : aH} {k n : Nat} (hs : S 25 = false) : WP 38 G S (f + 1) 25 ls st h k n = (WP 38 G S f 29 ls st h k n) := by rw [wp_s dd_38_25 rfl hs]; rfl
theorem dd_38_28 : decode (mB 38) 28 = .ok (.iconst (-1), 1) := by decide +kernel
theorem u_38_28 {G : aG} {S : Nat → Bool} {f : Nat} {st : List Value} {ls : aL} {h : aH} {k n : Nat} (hs : S 28 = false) : WP 38 G S (f + 1) 28 ls st h k n = (WP 38 G S f 29 ls (.int (-1) :: st) h k n) := by rw [wp_s dd_38_28 rfl hs]; rfl
theorem dd_38_29 : decode (mB 38) 29 = .ok (.ireturn, 1) := by decide +kernel
theorem u_38_29 {G : aG} {S : Nat → Bool} {f : Nat} {ls : aL} {h : aH} {k n : Nat} {x : Int32} (hs : S 29 = false) : WP 38 G S (f + 1) 29 ls [.int x] h k n = (RET G (some (.int x)) h k n) := by rw [wp_s dd_38_29 rfl hs]; rfl
theorem dd_52_0 : decode (mB 52) 0 = .ok (.aload_n 0, 1) := by decide +kernel
theorem u_52_0 {G : aG} {S : Nat → Bool} {f : Nat} {st : List Value} {ls : aL} {h : aH} {k n : Nat} (hs : S 0 = false) : WP 52 G S (f + 1) 0 ls st h k n = (oA (lget ls 0) (WP 52 G S f) 1 ls st h k n) := by rw [wp_s dd_52_0 rfl hs]; rfl
theorem dd_52_1 : decode (mB 52) 1 = .ok (.aload_n 0, 1) := by decide +kernel
theorem u_52_1 {G : aG} {S : Nat → Bool} {f : Nat} {st : List Value} {ls : aL} {h : aH} {k n : Nat} (hs : S 1 = false) : WP 52 G S (f + 1) 1 ls st h k n = (oA (lget ls 0) (WP 52 G S f) 2 ls st h k n) := by rw [wp_s dd_52_1 rfl hs]; rfl
theorem dd_52_2 : decode (mB 52) 2 = .ok (.getfield 18, 3) := by decide +kernel
theorem u_52_2 {G : aG} {S : Nat → Bool} {f : Nat} {st : List Value} {ls : aL} {h : aH} {k n : Nat} {a : Nat} (hs : S 2 = false) : WP 52 G S (f + 1) 2 ls (.ref a :: st) h k n = (oV (fget h a 4 2) (WP 52 G S f) 5 ls st h k n) := by rw [wp_s dd_52_2 rfl hs]; rfl
theorem dd_52_5 : decode (mB 52) 5 = .ok (.iconst 1, 1) := by decide +kernel
theorem u_52_5 {G : aG} {S : Nat → Bool} {f : Nat} {st : List Value} {ls : aL} {h : aH} {k n : Nat} (hs : S 5 = false) : WP 52 G S (f + 1) 5 ls st h k n = (WP 52 G S f 6 ls (.int (nI 1) :: st) h k n) := by rw [wp_s dd_52_5 rfl hs]; rfl
theorem dd_52_6 : decode (mB 52) 6 = .ok (.iadd, 1) := by decide +kernel
theorem u_52_6 {G : aG} {S : Nat → Bool} {f : Nat} {st : List Value} {ls : aL} {h : aH} {k n : Nat} {x y : Int32} (hs : S 6 = false) : WP 52 G S (f + 1) 6 ls (.int y :: .int x :: st) h k n = (WP 52 G S f 7 ls (.int (x + y) :: st) h k n) := by rw [wp_s dd_52_6 rfl hs]; rfl
theorem dd_52_7 : decode (mB 52) 7 = .ok (.iconst 4, 1) := by decide +kernel
theorem u_52_7 {G : aG} {S : Nat → Bool} {f : Nat} {st : List Value} {ls : aL} {h : aH} {k n : Nat} (hs : S 7 = false) : WP 52 G S (f + 1) 7 ls st h k n = (WP 52 G S f 8 ls (.int (nI 4) :: st) h k n) := by rw [wp_s dd_52_7 rfl hs]; rfl
theorem dd_52_8 : decode (mB 52) 8 = .ok (.if_icmp .ge 12, 3) := by decide +kernel
theorem u_52_8 {G : aG} {S : Nat → Bool} {f : Nat} {st : List Value} {ls : aL} {h : aH} {k n : Nat} {x y : Int32} (hs : S 8 = false) : WP 52 G S (f + 1) 8 ls (.int y :: .int x :: st) h k n = (if y ≤ x then WP 52 G S f 20 ls st h k n else WP 52 G S f 11 ls st h k n) := by rw [wp_s dd_52_8 rfl hs]; exact br_ite (c := y ≤ x)
theorem dd_52_11 : decode (mB 52) 11 = .ok (.aload_n 0, 1) := by decide +kernel
theorem u_52_11 {G : aG} {S : Nat → Bool} {f : Nat} {st : List Value} {ls : aL} {h : aH} {k n : Nat} (hs : S 11 = false) : WP 52 G S (f + 1) 11 ls st h k n = (oA (lget ls 0) (WP 52 G S f) 12 ls st h k n) := by rw [wp_s dd_52_11 rfl hs]; rfl
theorem dd_52_12 : decode (mB 52) 12 = .ok (.getfield 18, 3) := by decide +kernel
theorem u_52_12 {G : aG} {S : Nat → Bool} {f : Nat} {st : List Value} {ls : aL} {h : aH} {k n : Nat} {a : Nat} (hs : S 12 = false) : WP 52 G S (f + 1) 12 ls (.ref a :: st) h k n = (oV (fget h a 4 2) (WP 52 G S f) 15 ls st h k n) := by rw [wp_s dd_52_12 rfl hs]; rfl
theorem dd_52_15 : decode (mB 52) 15 = .ok (.iconst 1, 1) := by decide +kernel
theorem u_52_15 {G : aG} {S : Nat → Bool} {f : Nat} {st : List Value} {ls : aL} {h : aH} {k n : Nat} (hs : S 15 = false) : WP 52 G S (f + 1) 15 ls st h k n = (WP 52 G S f 16 ls (.int (nI 1) :: st) h k n) := by rw [wp_s dd_52_15 rfl hs]; rfl
theorem dd_52_16 : decode (mB 52) 16 = .ok (.iadd, 1) := by decide +kernel
theorem u_52_16 {G : aG} {S : Nat → Bool} {f : Nat} {st : List Value} {ls : aL} {h : aH} {k n : Nat} {x y : Int32} (hs : S 16 = false) : WP 52 G S (f + 1) 16 ls (.int y :: .int x :: st) h k n = (WP 52 G S f 17 ls (.int (x + y) :: st) h k n) := by rw [wp_s dd_52_16 rfl hs]; rfl
theorem dd_52_17 : decode (mB 52) 17 = .ok (.goto 4, 3) := by decide +kernel
theorem u_52_17 {G : aG} {S : Nat → Bool} {f : Nat} {st : List Value} {ls : aL} {h : aH} {k n : Nat} (hs : S 17 = false) : WP 52 G S (f + 1) 17 ls st h k n = (WP 52 G S f 21 ls st h k n) := by rw [wp_s dd_52_17 rfl hs]; rfl
theorem dd_52_20 : decode (mB 52) 20 = .ok (.iconst 0, 1) := by decide +kernel
theorem u_52_20 {G : aG} {S : Nat → Bool} {f : Nat} {st : List Value} {ls : aL} {h : aH} {k n : Nat} (hs : S 20 = false) : WP 52 G S (f + 1) 20 ls st h k n = (WP 52 G S f 21 ls (.int (nI 0) :: st) h k n) := by rw [wp_s dd_52_20 rfl hs]; rfl
theorem dd_52_21 : decode (mB 52) 21 = .ok (.putfield 18, 3) := by decide +kernel
theorem u_52_21 {G : aG} {S : Nat → Bool} {f : Nat} {st : List Value} {ls : aL} {h : aH} {k n : Nat} {a : Nat} {x : Int32} (hs : S 21 = false) : WP 52 G S (f + 1) 21 ls (.int x :: .ref a :: st) h k n = (oH (fput h a 4 2 (.int x)) (WP 52 G S f) 24 ls st k n) := by rw [wp_s dd_52_21 rfl hs]; rfl
theorem dd_52_24 : decode (mB 52) 24 = .ok (.aload_n 0, 1) := by decide +kernel
theorem u_52_24 {G : aG} {S : Nat → Bool} {f : Nat} {st : List Value} {ls : aL} {h : aH} {k n : Nat} (hs : S 24 = false) : WP 52 G S (f + 1) 24 ls st h k n = (oA (lget ls 0) (WP 52 G S f) 25 ls st h k n) := by rw [wp_s dd_52_24 rfl hs]; rfl
theorem dd_52_25 : decode (mB 52) 25 = .ok (.getfield 11, 3) := by decide +kernel
theorem u_52_25 {G : aG} {S : Nat → Bool} {f : Nat} {st : List Value} {ls : aL} {h : aH} {k n : Nat} {a : Nat} (hs : S 25 = false) : WP 52 G S (f + 1) 25 ls (.ref a :: st) h k n = (oV (fget h a 4 0) (WP 52 G S f) 28 ls st h k n) := by rw [wp_s dd_52_25 rfl hs]; rfl
theorem dd_52_28 : decode (mB 52) 28 = .ok (.aload_n 0, 1) := by decide +kernel
theorem u_52_28 {G : aG} {S : Nat → Bool} {f : Nat} {st : List Value} {ls : aL} {h : aH} {k n : Nat} (hs : S 28 = false) : WP 52 G S (f + 1) 28 ls st h k n = (oA (lget ls 0) (WP 52 G S f) 29 ls st h k n) := by rw [wp_s dd_52_28 rfl hs]; rfl
theorem dd_52_29 : decode (mB 52) 29 = .ok (.getfield 18, 3) := by decide +kernel
theorem u_52_29 {G : aG} {S : Nat → Bool} {f : Nat} {st : List Value} {ls : aL} {h : aH} {k n : Nat} {a : Nat} (hs : S 29 = false) : WP 52 G S (f + 1) 29 ls (.ref a :: st) h k n = (oV (fget h a 4 2) (WP 52 G S f) 32 ls st h k n) := by rw [wp_s dd_52_29 rfl hs]; rfl
theorem dd_52_32 : decode (mB 52) 32 = .ok (.aaload, 1) := by decide +kernel
theorem u_52_32 {G : aG} {S : Nat → Bool} {f : Nat} {st : List Value} {ls : aL} {h : aH} {k n : Nat} {i : Int32} {a : Nat} (hs : S 32 = false) : WP 52 G S (f + 1) 32 ls (.int i :: .ref a :: st) h k n = (oQld (qget h a) i (WP 52 G S f) 33 ls st h k n) := by rw [wp_s dd_52_32 rfl hs]; rfl
theorem dd_52_33 : decode (mB 52) 33 = .ok (.aload_n 1, 1) := by decide +kernel
theorem u_52_33 {G : aG} {S : Nat → Bool} {f : Nat} {st : List Value} {ls : aL} {h : aH} {k n : Nat} (hs : S 33 = false) : WP 52 G S (f + 1) 33 ls st h k n = (oA (lget ls 1) (WP 52 G S f) 34 ls st h k n) := by rw [wp_s dd_52_33 rfl hs]; rfl
theorem dd_52_34 : decode (mB 52) 34 = .ok (.invokevirtual 22, 3) := by decide +kernel
theorem u_52_34 {G : aG} {S : Nat → Bool} {f : Nat} {st : List Value} {ls : aL} {h : aH} {k n : Nat} {v1 : Value} {b : Nat} (hs : S 34 = false) : WP 52 G S (f + 1) 34 ls (v1 :: .ref b :: st) h k n = (rcv (hget h b) 7 ∧ CAL G (WP 52 G S f) 53 [.ref b, v1] 37 ls st h k n) := by rw [wp_s dd_52_34 rfl hs]; rfl
theorem dd_52_37 : decode (mB 52) 37 = .ok (.aload_n 0, 1) := by decide +kernel
theorem u_52_37 {G : aG} {S : Nat → Bool} {f : Nat} {st : List Value} {ls : aL} {h : aH} {k n : Nat} (hs : S 37 = false) : WP 52 G S (f + 1) 37 ls st h k n = (oA (lget ls 0) (WP 52 G S f) 38 ls st h k n) := by rw [wp_s dd_52_37 rfl hs]; rfl
theorem dd_52_38 : decode (mB 52) 38 = .ok (.aload_n 0, 1) := by decide +kernel
theorem u_52_38 {G : aG} {S : Nat → Bool} {f : Nat} {st : List Value} {ls : aL} {h : aH} {k n : Nat} (hs : S 38 = false) : WP 52 G S (f + 1) 38 ls st h k n = (oA (lget ls 0) (WP 52 G S f) 39 ls st h k n) := by rw [wp_s dd_52_38 rfl hs]; rfl
theorem dd_52_39 : decode (mB 52) 39 = .ok (.getfield 26, 3) := by decide +kernel
theorem u_52_39 {G : aG} {S : Nat → Bool} {f : Nat} {st : List Value} {ls : aL} {h : aH} {k n : Nat} {a : Nat} (hs : S 39 = false) : WP 52 G S (f + 1) 39 ls (.ref a :: st) h k n = (oV (fget h a 4 1) (WP 52 G S f) 42 ls st h k n) := by rw [wp_s dd_52_39 rfl hs]; rfl
theorem dd_52_42 : decode (mB 52) 42 = .ok (.iconst 1, 1) := by decide +kernel
theorem u_52_42 {G : aG} {S : Nat → Bool} {f : Nat} {st : List Value} {ls : aL} {h : aH} {k n : Nat} (hs : S 42 = false) : WP 52 G S (f + 1) 42 ls st h k n = (WP 52 G S f 43 ls (.int (nI 1) :: st) h k n) := by rw [wp_s dd_52_42 rfl hs]; rfl
theorem dd_52_43 : decode (mB 52) 43 = .ok (.iadd, 1) := by decide +kernel
theorem u_52_43 {G : aG} {S : Nat → Bool} {f : Nat} {st : List Value} {ls : aL} {h : aH} {k n : Nat} {x y : Int32} (hs : S 43 = false) : WP 52 G S (f + 1) 43 ls (.int y :: .int x :: st) h k n = (WP 52 G S f 44 ls (.int (x + y) :: st) h k n) := by rw [wp_s dd_52_43 rfl hs]; rfl
theorem dd_52_44 : decode (mB 52) 44 = .ok (.iconst 4, 1) := by decide +kernel
theorem u_52_44 {G : aG} {S : Nat → Bool} {f : Nat} {st : List Value} {ls : aL} {h : aH} {k n : Nat} (hs : S 44 = false) : WP 52 G S (f + 1) 44 ls st h k n = (WP 52 G S f 45 ls (.int (nI 4) :: st) h k n) := by rw [wp_s dd_52_44 rfl hs]; rfl
theorem dd_52_45 : decode (mB 52) 45 = .ok (.invokestatic 29, 3) := by decide +kernel
theorem u_52_45 {G : aG} {S : Nat → Bool} {f : Nat} {st : List Value} {ls : aL} {h : aH} {k n : Nat} {v1 v2 : Value} (hs : S 45 = false) : WP 52 G S (f + 1) 45 ls (v2 :: v1 :: st) h k n = (CAL G (WP 52 G S f) 12 [v1, v2] 48 ls st h k n) := by rw [wp_s dd_52_45 rfl hs]; rfl
theorem dd_52_48 : decode (mB 52) 48 = .ok (.putfield 26, 3) := by decide +kernel
theorem u_52_48 {G : aG} {S : Nat → Bool} {f : Nat} {st : List Value} {ls : aL} {h : aH} {k n : Nat} {a : Nat} {x : Int32} (hs : S 48 = false) : WP 52 G S (f + 1) 48 ls (.int x :: .ref a :: st) h k n = (oH (fput h a 4 1 (.int x)) (WP 52 G S f) 51 ls st k n) := by rw [wp_s dd_52_48 rfl hs]; rfl
theorem dd_52_51 : decode (mB 52) 51 = .ok (.return_, 1) := by decide +kernel
theorem u_52_51 {G : aG} {S : Nat → Bool} {f : Nat} {ls : aL} {h : aH} {k n : Nat} (hs : S 51 = false) : WP 52 G S (f + 1) 51 ls [] h k n = (RET G none h k n) := by rw [wp_s dd_52_51 rfl hs]; rfl
theorem dd_53_0 : decode (mB 53) 0 = .ok (.aload_n 1, 1) := by decide +kernel
theorem u_53_0 {G : aG} {S : Nat → Bool} {f : Nat} {st : List Value} {ls : aL} {h : aH} {k n : Nat} (hs : S 0 = false) : WP 53 G S (f + 1) 0 ls st h k n = (oA (lget ls 1) (WP 53 G S f) 1 ls st h k n) := by rw [wp_s dd_53_0 rfl hs]; rfl
theorem dd_53_1 : decode (mB 53) 1 = .ok (.getfield 9, 3) := by decide +kernel
theorem u_53_1 {G : aG} {S : Nat → Bool} {f : Nat} {st : List Value} {ls : aL} {h : aH} {k n : Nat} {a : Nat} (hs : S 1 = false) : WP 53 G S (f + 1) 1 ls (.ref a :: st) h k n = (oV (fget h a 7 0) (WP 53 G S f) 4 ls st h k n) := by rw [wp_s dd_53_1 rfl hs]; rfl
theorem dd_53_4 : decode (mB 53) 4 = .ok (.iconst 0, 1) := by decide +kernel
theorem u_53_4 {G : aG} {S : Nat → Bool} {f : Nat} {st : List Value} {ls : aL} {h : aH} {k n : Nat} (hs : S 4 = false) : WP 53 G S (f + 1) 4 ls st h k n = (WP 53 G S f 5 ls (.int (nI 0) :: st) h k n) := by rw [wp_s dd_53_4 rfl hs]; rfl
theorem dd_53_5 : decode (mB 53) 5 = .ok (.aload_n 0, 1) := by decide +kernel
theorem u_53_5 {G : aG} {S : Nat → Bool} {f : Nat} {st : List Value} {ls : aL} {h : aH} {k n : Nat} (hs : S 5 = false) : WP 53 G S (f + 1) 5 ls st h k n = (oA (lget ls 0) (WP 53 G S f) 6 ls st h k n) := by rw [wp_s dd_53_5 rfl hs]; rfl
theorem dd_53_6 : decode (mB 53) 6 = .ok (.getfield 9, 3) := by decide +kernel
theorem u_53_6 {G : aG} {S : Nat → Bool} {f : Nat} {st : List Value} {ls : aL} {h : aH} {k n : Nat} {a : Nat} (hs : S 6 = false) : WP 53 G S (f + 1) 6 ls (.ref a :: st) h k n = (oV (fget h a 7 0) (WP 53 G S f) 9 ls st h k n) := by rw [wp_s dd_53_6 rfl hs]; rfl
theorem dd_53_9 : decode (mB 53) 9 = .ok (.iconst 0, 1) := by decide +kernel
theorem u_53_9 {G : aG} {S : Nat → Bool} {f : Nat} {st : List Value} {ls : aL} {h : aH} {k n : Nat} (hs : S 9 = false) : WP 53 G S (f + 1) 9 ls st h k n = (WP 53 G S f 10 ls (.int (nI 0) :: st) h k n) := by rw [wp_s dd_53_9 rfl hs]; rfl
theorem dd_53_10 : decode (mB 53) 10 = .ok (.bipush 9, 2) := by decide +kernel
theorem u_53_10 {G : aG} {S : Nat → Bool} {f : Nat} {st : List Value} {ls : aL} {h : aH} {k n : Nat} (hs : S 10 = false) : WP 53 G S (f + 1) 10 ls st h k n = (WP 53 G S f 12 ls (.int (nI 9) :: st) h k n) := by rw [wp_s dd_53_10 rfl hs]; rfl
theorem dd_53_12 : decode (mB 53) 12 = .ok (.invokestatic 40, 3) := by decide +kernel
theorem u_53_12 {G : aG} {S : Nat → Bool} {f : Nat} {st : List Value} {ls : aL} {h : aH} {k n : Nat} {x sp dp : Int32} {a0 a1 : Nat} (hs : S 12 = false) : WP 53 G S (f + 1) 12 ls (.int x :: .int dp :: .ref a1 :: .int sp :: .ref a0 :: st) h k n = ((st.map fun v => v.category).sum ≤ 8 ∧ 1 ≤ gD G ∧ oCp (iget h a0 1) a0 a1 sp dp x (WP 53 G S f) 15 ls st h k n) := by rw [wp_s dd_53_12 rfl hs]; rfl
theorem dd_53_15 : decode (mB 53) 15 = .ok (.aload_n 1, 1) := by decide +kernel
theorem u_53_15 {G : aG} {S : Nat → Bool} {f : Nat} {st : List Value} {ls : aL} {h : aH} {k n : Nat} (hs : S 15 = false) : WP 53 G S (f + 1) 15 ls st h k n = (oA (lget ls 1) (WP 53 G S f) 16 ls st h k n) := by rw [wp_s dd_53_15 rfl hs]; rfl
theorem dd_53_16 : decode (mB 53) 16 = .ok (.getfield 15, 3) := by decide +kernel
theorem u_53_16 {G : aG} {S : Nat → Bool} {f : Nat} {st : List Value} {ls : aL} {h : aH} {k n : Nat} {a : Nat} (hs : S 16 = false) : WP 53 G S (f + 1) 16 ls (.ref a :: st) h k n = (oV (fget h a 7 1) (WP 53 G S f) 19 ls st h k n) := by rw [wp_s dd_53_16 rfl hs]; rfl
theorem dd_53_19 : decode (mB 53) 19 = .ok (.iconst 0, 1) := by decide +kernel
theorem u_53_19 {G : aG} {S : Nat → Bool} {f : Nat} {st : List Value} {ls : aL} {h : aH} {k n : Nat} (hs : S 19 = false) : WP 53 G S (f + 1) 19 ls st h k n = (WP 53 G S f 20 ls (.int (nI 0) :: st) h k n) := by rw [wp_s dd_53_19 rfl hs]; rfl
theorem dd_53_20 : decode (mB 53) 20 = .ok (.aload_n 0, 1) := by decide +kernel
theorem u_53_20 {G : aG} {S : Nat → Bool} {f : Nat} {st : List Value} {ls : aL} {h : aH} {k n : Nat} (hs : S 20 = false) : WP 53 G S (f + 1) 20 ls st h k n = (oA (lget ls 0) (WP 53 G S f) 21 ls st h k n) := by rw [wp_s dd_53_20 rfl hs]; rfl
theorem dd_53_21 : decode (mB 53) 21 = .ok (.getfield 15, 3) := by decide +kernel
theorem u_53_21 {G : aG} {S : Nat → Bool} {f : Nat} {st : List Value} {ls : aL} {h : aH} {k n : Nat} {a : Nat} (hs : S 21 = false) : WP 53 G S (f + 1) 21 ls (.ref a :: st) h k n = (oV (fget h a 7 1) (WP 53 G S f) 24 ls st h k n) := by rw [wp_s dd_53_21 rfl hs]; rfl
theorem dd_53_24 : decode (mB 53) 24 = .ok (.iconst 0, 1) := by decide +kernel
theorem u_53_24 {G : aG} {S : Nat → Bool} {f : Nat} {st : List Value} {ls : aL} {h : aH} {k n : Nat} (hs : S 24 = false) : WP 53 G S (f + 1) 24 ls st h k n = (WP 53 G S f 25 ls (.int (nI 0) :: st) h k n) := by rw [wp_s dd_53_24 rfl hs]; rfl
theorem dd_53_25 : decode (mB 53) 25 = .ok (.bipush 20, 2) := by decide +kernel
theorem u_53_25 {G : aG} {S : Nat → Bool} {f : Nat} {st : List Value} {ls : aL} {h : aH} {k n : Nat} (hs : S 25 = false) : WP 53 G S (f + 1) 25 ls st h k n = (WP 53 G S f 27 ls (.int (nI 20) :: st) h k n) := by rw [wp_s dd_53_25 rfl hs]; rfl
theorem dd_53_27 : decode (mB 53) 27 = .ok (.invokestatic 40, 3) := by decide +kernel
theorem u_53_27 {G : aG} {S : Nat → Bool} {f : Nat} {st : List Value} {ls : aL} {h : aH} {k n : Nat} {x sp dp : Int32} {a0 a1 : Nat} (hs : S 27 = false) : WP 53 G S (f + 1) 27 ls (.int x :: .int dp :: .ref a1 :: .int sp :: .ref a0 :: st) h k n = ((st.map fun v => v.category).sum ≤ 8 ∧ 1 ≤ gD G ∧ oCp (iget h a0 1) a0 a1 sp dp x (WP 53 G S f) 30 ls st h k n) := by rw [wp_s dd_53_27 rfl hs]; rfl
theorem dd_53_30 : decode (mB 53) 30 = .ok (.aload_n 0, 1) := by decide +kernel
theorem u_53_30 {G : aG} {S : Nat → Bool} {f : Nat} {st : List Value} {ls : aL} {h : aH} {k n : Nat} (hs : S 30 = false) : WP 53 G S (f + 1) 30 ls st h k n = (oA (lget ls 0) (WP 53 G S f) 31 ls st h k n) := by rw [wp_s dd_53_30 rfl hs]; rfl
theorem dd_53_31 : decode (mB 53) 31 = .ok (.aload_n 1, 1) := by decide +kernel
theorem u_53_31 {G : aG} {S : Nat → Bool} {f : Nat} {st : List Value} {ls : aL} {h : aH} {k n : Nat} (hs : S 31 = false) : WP 53 G S (f + 1) 31 ls st h k n = (oA (lget ls 1) (WP 53 G S f) 32 ls st h k n) := by rw [wp_s dd_53_31 rfl hs]; rfl
theorem dd_53_32 : decode (mB 53) 32 = .ok (.getfield 31, 3) := by decide +kernel
theorem u_53_32 {G : aG} {S : Nat → Bool} {f : Nat} {st : List Value} {ls : aL} {h : aH} {k n : Nat} {a : Nat} (hs : S 32 = false) : WP 53 G S (f + 1) 32 ls (.ref a :: st) h k n = (oV (fget h a 7 2) (WP 53 G S f) 35 ls st h k n) := by rw [wp_s dd_53_32 rfl hs]; rfl
theorem dd_53_35 : decode (mB 53) 35 = .ok (.putfield 31, 3) := by decide +kernel
theorem u_53_35 {G : aG} {S : Nat → Bool} {f : Nat} {st : List Value} {ls : aL} {h : aH} {k n : Nat} {a : Nat} {x : Int32} (hs : S 35 = false) : WP 53 G S (f + 1) 35 ls (.int x :: .ref a :: st) h k n = (oH (fput h a 7 2 (.int x)) (WP 53 G S f) 38 ls st k n) := by rw [wp_s dd_53_35 rfl hs]; rfl
theorem dd_53_38 : decode (mB 53) 38 = .ok (.aload_n 0, 1) := by decide +kernel
theorem u_53_38 {G : aG} {S : Nat → Bool} {f : Nat} {st : List Value} {ls : aL} {h : aH} {k n : Nat} (hs : S 38 = false) : WP 53 G S (f + 1) 38 ls st h k n = (oA (lget ls 0) (WP 53 G S f) 39 ls st h k n) := by rw [wp_s dd_53_38 rfl hs]; rfl
theorem dd_53_39 : decode (mB 53) 39 = .ok (.aload_n 1, 1) := by decide +kernel
theorem u_53_39 {G : aG} {S : Nat → Bool} {f : Nat} {st : List Value} {ls : aL} {h : aH} {k n : Nat} (hs : S 39 = false) : WP 53 G S (f + 1) 39 ls st h k n = (oA (lget ls 1) (WP 53 G S f) 40 ls st h k n) := by rw [wp_s dd_53_39 rfl hs]; rfl
theorem dd_53_40 : decode (mB 53) 40 = .ok (.getfield 19, 3) := by decide +kernel
theorem u_53_40 {G : aG} {S : Nat → Bool} {f : Nat} {st : List Value} {ls : aL} {h : aH} {k n : Nat} {a : Nat} (hs : S 40 = false) : WP 53 G S (f + 1) 40 ls (.ref a :: st) h k n = (oV (fget h a 7 3) (WP 53 G S f) 43 ls st h k n) := by rw [wp_s dd_53_40 rfl hs]; rfl
theorem dd_53_43 : decode (mB 53) 43 = .ok (.putfield 19, 3) := by decide +kernel
theorem u_53_43 {G : aG} {S : Nat → Bool} {f : Nat} {st : List Value} {ls : aL} {h : aH} {k n : Nat} {a : Nat} {x : Int32} (hs : S 43 = false) : WP 53 G S (f + 1) 43 ls (.int x :: .ref a :: st) h k n = (oH (fput h a 7 3 (.int x)) (WP 53 G S f) 46 ls st k n) := by rw [wp_s dd_53_43 rfl hs]; rfl
theorem dd_53_46 : decode (mB 53) 46 = .ok (.return_, 1) := by decide +kernel
theorem u_53_46 {G : aG} {S : Nat → Bool} {f : Nat} {ls : aL} {h : aH} {k n : Nat} (hs : S 46 = false) : WP 53 G S (f + 1) 46 ls [] h k n = (RET G none h k n) := by rw [wp_s dd_53_46 rfl hs]; rfl
theorem dd_54_0 : decode (mB 54) 0 = .ok (.aload_n 0, 1) := by decide +kernel
theorem u_54_0 {G : aG} {S : Nat → Bool} {f : Nat} {st : List Value} {ls : aL} {h : aH} {k n : Nat} (hs : S 0 = false) : WP 54 G S (f + 1) 0 ls st h k n = (oA (lget ls 0) (WP 54 G S f) 1 ls st h k n) := by rw [wp_s dd_54_0 rfl hs]; rfl
theorem dd_54_1 : decode (mB 54) 1 = .ok (.iload_n 1, 1) := by decide +kernel
theorem u_54_1 {G : aG} {S : Nat → Bool} {f : Nat} {st : List Value} {ls : aL} {h : aH} {k n : Nat} (hs : S 1 = false) : WP 54 G S (f + 1) 1 ls st h k n = (oI (lget ls 1) (WP 54 G S f) 2 ls st h k n) := by rw [wp_s dd_54_1 rfl hs]; rfl
theorem dd_54_2 : decode (mB 54) 2 = .ok (.putfield 19, 3) := by decide +kernel
theorem u_54_2 {G : aG} {S : Nat → Bool} {f : Nat} {st : List Value} {ls : aL} {h : aH} {k n : Nat} {a : Nat} {x : Int32} (hs : S 2 = false) : WP 54 G S (f + 1) 2 ls (.int x :: .ref a :: st) h k n = (oH (fput h a 7 3 (.int x)) (WP 54 G S f) 5 ls st k n) := by rw [wp_s dd_54_2 rfl hs]; rfl
theorem dd_54_5 : decode (mB 54) 5 = .ok (.aload_n 0, 1) := by decide +kernel
theorem u_54_5 {G : aG} {S : Nat → Bool} {f : Nat} {st : List Value} {ls : aL} {h : aH} {k n : Nat} (hs : S 5 = false) : WP 54 G S (f + 1) 5 ls st h k n = (oA (lget ls 0) (WP 54 G S f) 6 ls st h k n) := by rw [wp_s dd_54_5 rfl hs]; rfl
theorem dd_54_6 : decode (mB 54) 6 = .ok (.iconst 0, 1) := by decide +kernel
theorem u_54_6 {G : aG} {S : Nat → Bool} {f : Nat} {st : List Value} {ls : aL} {h : aH} {k n : Nat} (hs : S 6 = false) : WP 54 G S (f + 1) 6 ls st h k n = (WP 54 G S f 7 ls (.int (nI 0) :: st) h k n) := by rw [wp_s dd_54_6 rfl hs]; rfl
theorem dd_54_7 : decode (mB 54) 7 = .ok (.putfield 31, 3) := by decide +kernel
theorem u_54_7 {G : aG} {S : Nat → Bool} {f : Nat} {st : List Value} {ls : aL} {h : aH} {k n : Nat} {a : Nat} {x : Int32} (hs : S 7 = false) : WP 54 G S (f + 1) 7 ls (.int x :: .ref a :: st) h k n = (oH (fput h a 7 2 (.int x)) (WP 54 G S f) 10 ls st k n) := by rw [wp_s dd_54_7 rfl hs]; rfl
theorem dd_54_10 : decode (mB 54) 10 = .ok (.return_, 1) := by decide +kernel
theorem u_54_10 {G : aG} {S : Nat → Bool} {f : Nat} {ls : aL} {h : aH} {k n : Nat} (hs : S 10 = false) : WP 54 G S (f + 1) 10 ls [] h k n = (RET G none h k n) := by rw [wp_s dd_54_10 rfl hs]; rfl
theorem dd_69_0 : decode (mB 69) 0 = .ok (.iload_n 0, 1) := by decide +kernel
theorem u_69_0 {G : aG} {S : Nat → Bool} {f : Nat} {st : List Value} {ls : aL} {h : aH} {k n : Nat} (hs : S 0 = false) : WP 69 G S (f + 1) 0 ls st h k n = (oI (lget ls 0) (WP 69 G S f) 1 ls st h k n) := by rw [wp_s dd_69_0 rfl hs]; rfl
theorem dd_69_1 : decode (mB 69) 1 = .ok (.iload_n 0, 1) := by decide +kernel
theorem u_69_1 {G : aG} {S : Nat → Bool} {f : Nat} {st : List Value} {ls : aL} {h : aH} {k n : Nat} (hs : S 1 = false) : WP 69 G S (f + 1) 1 ls st h k n = (oI (lget ls 0) (WP 69 G S f) 2 ls st h k n) := by rw [wp_s dd_69_1 rfl hs]; rfl
theorem dd_69_2 : decode (mB 69) 2 = .ok (.iconst 1, 1) := by decide +kernel
theorem u_69_2 {G : aG} {S : Nat → Bool} {f : Nat} {st : List Value} {ls : aL} {h : aH} {k n : Nat} (hs : S 2 = false) : WP 69 G S (f + 1) 2 ls st h k n = (WP 69 G S f 3 ls (.int (nI 1) :: st) h k n) := by rw [wp_s dd_69_2 rfl hs]; rfl
theorem dd_69_3 : decode (mB 69) 3 = .ok (.iushr, 1) := by decide +kernel
theorem u_69_3 {G : aG} {S : Nat → Bool} {f : Nat} {st : List Value} {ls : aL} {h : aH} {k n : Nat} {x y : Int32} (hs : S 3 = false) : WP 69 G S (f + 1) 3 ls (.int y :: .int x :: st) h k n = (WP 69 G S f 4 ls (.int ((x.toUInt32 >>> (y.toUInt32 &&& Int32.toUInt32 31)).toInt32) :: st) h k n) := by rw [wp_s dd_69_3 rfl hs]; rfl
theorem dd_69_4 : decode (mB 69) 4 = .ok (.ldc_w 265, 3) := by decide +kernel
theorem u_69_4 {G : aG} {S : Nat → Bool} {f : Nat} {st : List Value} {ls : aL} {h : aH} {k n : Nat} (hs : S 4 = false) : WP 69 G S (f + 1) 4 ls st h k n = (WP 69 G S f 7 ls (.int (nI 1431655765) :: st) h k n) := by rw [wp_s dd_69_4 rfl hs]; rfl
theorem dd_69_7 : decode (mB 69) 7 = .ok (.iand, 1) := by decide +kernel
theorem u_69_7 {G : aG} {S : Nat → Bool} {f : Nat} {st : List Value} {ls : aL} {h : aH} {k n : Nat} {x y : Int32} (hs : S 7 = false) : WP 69 G S (f + 1) 7 ls (.int y :: .int x :: st) h k n = (WP 69 G S f 8 ls (.int (x &&& y) :: st) h k n) := by rw [wp_s dd_69_7 rfl hs]; rfl
theorem dd_69_8 : decode (mB 69) 8 = .ok (.isub, 1) := by decide +kernel
theorem u_69_8 {G : aG} {S : Nat → Bool} {f : Nat} {st : List Value} {ls : aL} {h : aH} {k n : Nat} {x y : Int32} (hs : S 8 = false) : WP 69 G S (f + 1) 8 ls (.int y :: .int x :: st) h k n = (WP 69 G S f 9 ls (.int (x - y) :: st) h k n) := by rw [wp_s dd_69_8 rfl hs]; rfl
theorem dd_69_9 : decode (mB 69) 9 = .ok (.istore_n 0, 1) := by decide +kernel
theorem u_69_9 {G : aG} {S : Nat → Bool} {f : Nat} {st : List Value} {ls : aL} {h : aH} {k n : Nat} {x : Int32} (hs : S 9 = false) : WP 69 G S (f + 1) 9 ls (.int x :: st) h k n = (WP 69 G S f 10 (lput1 ls 0 (.int x)) st h k n) := by rw [wp_s dd_69_9 rfl hs]; rfl
theorem dd_69_10 : decode (mB 69) 10 = .ok (.iload_n 0, 1) := by decide +kernel
theorem u_69_10 {G : aG} {S : Nat → Bool} {f : Nat} {st : List Value} {ls : aL} {h : aH} {k n : Nat} (hs : S 10 = false) : WP 69 G S (f + 1) 10 ls st h k n = (oI (lget ls 0) (WP 69 G S f) 11 ls st h k n) := by rw [wp_s dd_69_10 rfl hs]; rfl
theorem dd_69_11 : decode (mB 69) 11 = .ok (.ldc_w 266, 3) := by decide +kernel
theorem u_69_11 {G : aG} {S : Nat → Bool} {f : Nat} {st : List Value} {ls : aL} {h : aH} {k n : Nat} (hs : S 11 = false) : WP 69 G S (f + 1) 11 ls st h k n = (WP 69 G S f 14 ls (.int (nI 858993459) :: st) h k n) := by rw [wp_s dd_69_11 rfl hs]; rfl
theorem dd_69_14 : decode (mB 69) 14 = .ok (.iand, 1) := by decide +kernel
theorem u_69_14 {G : aG} {S : Nat → Bool} {f : Nat} {st : List Value} {ls : aL} {h : aH} {k n : Nat} {x y : Int32} (hs : S 14 = false) : WP 69 G S (f + 1) 14 ls (.int y :: .int x :: st) h k n = (WP 69 G S f 15 ls (.int (x &&& y) :: st) h k n) := by rw [wp_s dd_69_14 rfl hs]; rfl
theorem dd_69_15 : decode (mB 69) 15 = .ok (.iload_n 0, 1) := by decide +kernel
theorem u_69_15 {G : aG} {S : Nat → Bool} {f : Nat} {st : List Value} {ls : aL} {h : aH} {k n : Nat} (hs : S 15 = false) : WP 69 G S (f + 1) 15 ls st h k n = (oI (lget ls 0) (WP 69 G S f) 16 ls st h k n) := by rw [wp_s dd_69_15 rfl hs]; rfl
theorem dd_69_16 : decode (mB 69) 16 = .ok (.iconst 2, 1) := by decide +kernel
theorem u_69_16 {G : aG} {S : Nat → Bool} {f : Nat} {st : List Value} {ls : aL} {h : aH} {k n : Nat} (hs : S 16 = false) : WP 69 G S (f + 1) 16 ls st h k n = (WP 69 G S f 17 ls (.int (nI 2) :: st) h k n) := by rw [wp_s dd_69_16 rfl hs]; rfl
theorem dd_69_17 : decode (mB 69) 17 = .ok (.iushr, 1) := by decide +kernel
theorem u_69_17 {G : aG} {S : Nat → Bool} {f : Nat} {st : List Value} {ls : aL} {h : aH} {k n : Nat} {x y : Int32} (hs : S 17 = false) : WP 69 G S (f + 1) 17 ls (.int y :: .int x :: st) h k n = (WP 69 G S f 18 ls (.int ((x.toUInt32 >>> (y.toUInt32 &&& Int32.toUInt32 31)).toInt32) :: st) h k n) := by rw [wp_s dd_69_17 rfl hs]; rfl
theorem dd_69_18 : decode (mB 69) 18 = .ok (.ldc_w 266, 3) := by decide +kernel
theorem u_69_18 {G : aG} {S : Nat → Bool} {f : Nat} {st : List Value} {ls : aL} {h : aH} {k n : Nat} (hs : S 18 = false) : WP 69 G S (f + 1) 18 ls st h k n = (WP 69 G S f 21 ls (.int (nI 858993459) :: st) h k n) := by rw [wp_s dd_69_18 rfl hs]; rfl
theorem dd_69_21 : decode (mB 69) 21 = .ok (.iand, 1) := by decide +kernel
theorem u_69_21 {G : aG} {S : Nat → Bool} {f : Nat} {st : List Value} {ls : aL} {h : aH} {k n : Nat} {x y : Int32} (hs : S 21 = false) : WP 69 G S (f + 1) 21 ls (.int y :: .int x :: st) h k n = (WP 69 G S f 22 ls (.int (x &&& y) :: st) h k n) := by rw [wp_s dd_69_21 rfl hs]; rfl
theorem dd_69_22 : decode (mB 69) 22 = .ok (.iadd, 1) := by decide +kernel
theorem u_69_22 {G : aG} {S : Nat → Bool} {f : Nat} {st : List Value} {ls : aL} {h : aH} {k n : Nat} {x y : Int32} (hs : S 22 = false) : WP 69 G S (f + 1) 22 ls (.int y :: .int x :: st) h k n = (WP 69 G S f 23 ls (.int (x + y) :: st) h k n) := by rw [wp_s dd_69_22 rfl hs]; rfl
theorem dd_69_23 : decode (mB 69) 23 = .ok (.istore_n 0, 1) := by decide +kernel
theorem u_69_23 {G : aG} {S : Nat → Bool} {f : Nat} {st : List Value} {ls : aL} {h : aH} {k n : Nat} {x : Int32} (hs : S 23 = false) : WP 69 G S (f + 1) 23 ls (.int x :: st) h k n = (WP 69 G S f 24 (lput1 ls 0 (.int x)) st h k n) := by rw [wp_s dd_69_23 rfl hs]; rfl
theorem dd_69_24 : decode (mB 69) 24 = .ok (.iload_n 0, 1) := by decide +kernel
theorem u_69_24 {G : aG} {S : Nat → Bool} {f : Nat} {st : List Value} {ls : aL} {h : aH} {k n : Nat} (hs : S 24 = false) : WP 69 G S (f + 1) 24 ls st h k n = (oI (lget ls 0) (WP 69 G S f) 25 ls st h k n) := by rw [wp_s dd_69_24 rfl hs]; rfl
theorem dd_69_25 : decode (mB 69) 25 = .ok (.iload_n 0, 1) := by decide +kernel
theorem u_69_25 {G : aG} {S : Nat → Bool} {f : Nat} {st : List Value} {ls : aL} {h : aH} {k n : Nat} (hs : S 25 = false) : WP 69 G S (f + 1) 25 ls st h k n = (oI (lget ls 0) (WP 69 G S f) 26 ls st h k n) := by rw [wp_s dd_69_25 rfl hs]; rfl
theorem dd_69_26 : decode (mB 69) 26 = .ok (.iconst 4, 1) := by decide +kernel
theorem u_69_26 {G : aG} {S : Nat → Bool} {f : Nat} {st : List Value} {ls : aL} {h : aH} {k n : Nat} (hs : S 26 = false) : WP 69 G S (f + 1) 26 ls st h k n = (WP 69 G S f 27 ls (.int (nI 4) :: st) h k n) := by rw [wp_s dd_69_26 rfl hs]; rfl
theorem dd_69_27 : decode (mB 69) 27 = .ok (.iushr, 1) := by decide +kernel
theorem u_69_27 {G : aG} {S : Nat → Bool} {f : Nat} {st : List Value} {ls : aL} {h : aH} {k n : Nat} {x y : Int32} (hs : S 27 = false) : WP 69 G S (f + 1) 27 ls (.int y :: .int x :: st) h k n = (WP 69 G S f 28 ls (.int ((x.toUInt32 >>> (y.toUInt32 &&& Int32.toUInt32 31)).toInt32) :: st) h k n) := by rw [wp_s dd_69_27 rfl hs]; rfl
theorem dd_69_28 : decode (mB 69) 28 = .ok (.iadd, 1) := by decide +kernel
theorem u_69_28 {G : aG} {S : Nat → Bool} {f : Nat} {st : List Value} {ls : aL} {h : aH} {k n : Nat} {x y : Int32} (hs : S 28 = false) : WP 69 G S (f + 1) 28 ls (.int y :: .int x :: st) h k n = (WP 69 G S f 29 ls (.int (x + y) :: st) h k n) := by rw [wp_s dd_69_28 rfl hs]; rfl
theorem dd_69_29 : decode (mB 69) 29 = .ok (.ldc_w 267, 3) := by decide +kernel
theorem u_69_29 {G : aG} {S : Nat → Bool} {f : Nat} {st : List Value} {ls : aL} {h : aH} {k n : Nat} (hs : S 29 = false) : WP 69 G S (f + 1) 29 ls st h k n = (WP 69 G S f 32 ls (.int (nI 252645135) :: st) h k n) := by rw [wp_s dd_69_29 rfl hs]; rfl
theorem dd_69_32 : decode (mB 69) 32 = .ok (.iand, 1) := by decide +kernel
theorem u_69_32 {G : aG} {S : Nat → Bool} {f : Nat} {st : List Value} {ls : aL} {h : aH} {k n : Nat} {x y : Int32} (hs : S 32 = false) : WP 69 G S (f + 1) 32 ls (.int y :: .int x :: st) h k n = (WP 69 G S f 33 ls (.int (x &&& y) :: st) h k n) := by rw [wp_s dd_69_32 rfl hs]; rfl
theorem dd_69_33 : decode (mB 69) 33 = .ok (.istore_n 0, 1) := by decide +kernel
theorem u_69_33 {G : aG} {S : Nat → Bool} {f : Nat} {st : List Value} {ls : aL} {h : aH} {k n : Nat} {x : Int32} (hs : S 33 = false) : WP 69 G S (f + 1) 33 ls (.int x :: st) h k n = (WP 69 G S f 34 (lput1 ls 0 (.int x)) st h k n) := by rw [wp_s dd_69_33 rfl hs]; rfl
theorem dd_69_34 : decode (mB 69) 34 = .ok (.iload_n 0, 1) := by decide +kernel
theorem u_69_34 {G : aG} {S : Nat → Bool} {f : Nat} {st : List Value} {ls : aL} {h : aH} {k n : Nat} (hs : S 34 = false) : WP 69 G S (f + 1) 34 ls st h k n = (oI (lget ls 0) (WP 69 G S f) 35 ls st h k n) := by rw [wp_s dd_69_34 rfl hs]; rfl
theorem dd_69_35 : decode (mB 69) 35 = .ok (.iload_n 0, 1) := by decide +kernel
theorem u_69_35 {G : aG} {S : Nat → Bool} {f : Nat} {st : List Value} {ls : aL} {h : aH} {k n : Nat} (hs : S 35 = false) : WP 69 G S (f + 1) 35 ls st h k n = (oI (lget ls 0) (WP 69 G S f) 36 ls st h k n) := by rw [wp_s dd_69_35 rfl hs]; rfl
theorem dd_69_36 : decode (mB 69) 36 = .ok (.bipush 8, 2) := by decide +kernel
theorem u_69_36 {G : aG} {S : Nat → Bool} {f : Nat} {st : List Value} {ls : aL} {h : aH} {k n : Nat} (hs : S 36 = false) : WP 69 G S (f + 1) 36 ls st h k n = (WP 69 G S f 38 ls (.int (nI 8) :: st) h k n) := by rw [wp_s dd_69_36 rfl hs]; rfl
theorem dd_69_38 : decode (mB 69) 38 = .ok (.iushr, 1) := by decide +kernel
theorem u_69_38 {G : aG} {S : Nat → Bool} {f : Nat} {st : List Value} {ls : aL} {h : aH} {k n : Nat} {x y : Int32} (hs : S 38 = false) : WP 69 G S (f + 1) 38 ls (.int y :: .int x :: st) h k n = (WP 69 G S f 39 ls (.int ((x.toUInt32 >>> (y.toUInt32 &&& Int32.toUInt32 31)).toInt32) :: st) h k n) := by rw [wp_s dd_69_38 rfl hs]; rfl
theorem dd_69_39 : decode (mB 69) 39 = .ok (.iadd, 1) := by decide +kernel
theorem u_69_39 {G : aG} {S : Nat → Bool} {f : Nat} {st : List Value} {ls : aL} {h : aH} {k n : Nat} {x y : Int32} (hs : S 39 = false) : WP 69 G S (f + 1) 39 ls (.int y :: .int x :: st) h k n = (WP 69 G S f 40 ls (.int (x + y) :: st) h k n) := by rw [wp_s dd_69_39 rfl hs]; rfl
theorem dd_69_40 : decode (mB 69) 40 = .ok (.istore_n 0, 1) := by decide +kernel
theorem u_69_40 {G : aG} {S : Nat → Bool} {f : Nat} {st : List Value} {ls : aL} {h : aH} {k n : Nat} {x : Int32} (hs : S 40 = false) : WP 69 G S (f + 1) 40 ls (.int x :: st) h k n = (WP 69 G S f 41 (lput1 ls 0 (.int x)) st h k n) := by rw [wp_s dd_69_40 rfl hs]; rfl
theorem dd_69_41 : decode (mB 69) 41 = .ok (.iload_n 0, 1) := by decide +kernel
theorem u_69_41 {G : aG} {S : Nat → Bool} {f : Nat} {st : List Value} {ls : aL} {h : aH} {k n : Nat} (hs : S 41 = false) : WP 69 G S (f + 1) 41 ls st h k n = (oI (lget ls 0) (WP 69 G S f) 42 ls st h k n) := by rw [wp_s dd_69_41 rfl hs]; rfl
theorem dd_69_42 : decode (mB 69) 42 = .ok (.iload_n 0, 1) := by decide +kernel
theorem u_69_42 {G : aG} {S : Nat → Bool} {f : Nat} {st : List Value} {ls : aL} {h : aH} {k n : Nat} (hs : S 42 = false) : WP 69 G S (f + 1) 42 ls st h k n = (oI (lget ls 0) (WP 69 G S f) 43 ls st h k n) := by rw [wp_s dd_69_42 rfl hs]; rfl
theorem dd_69_43 : decode (mB 69) 43 = .ok (.bipush 16, 2) := by decide +kernel
theorem u_69_43 {G : aG} {S : Nat → Bool} {f : Nat} {st : List Value} {ls : aL} {h : aH} {k n : Nat} (hs : S 43 = false) : WP 69 G S (f + 1) 43 ls st h k n = (WP 69 G S f 45 ls (.int (nI 16) :: st) h k n) := by rw [wp_s dd_69_43 rfl hs]; rfl
theorem dd_69_45 : decode (mB 69) 45 = .ok (.iushr, 1) := by decide +kernel
theorem u_69_45 {G : aG} {S : Nat → Bool} {f : Nat} {st : List Value} {ls : aL} {h : aH} {k n : Nat} {x y : Int32} (hs : S 45 = false) : WP 69 G S (f + 1) 45 ls (.int y :: .int x :: st) h k n = (WP 69 G S f 46 ls (.int ((x.toUInt32 >>> (y.toUInt32 &&& Int32.toUInt32 31)).toInt32) :: st) h k n) := by rw [wp_s dd_69_45 rfl hs]; rfl
theorem dd_69_46 : decode (mB 69) 46 = .ok (.iadd, 1) := by decide +kernel
theorem u_69_46 {G : aG} {S : Nat → Bool} {f : Nat} {st : List Value} {ls : aL} {h : aH} {k n : Nat} {x y : Int32} (hs : S 46 = false) : WP 69 G S (f + 1) 46 ls (.int y :: .int x :: st) h k n = (WP 69 G S f 47 ls (.int (x + y) :: st) h k n) := by rw [wp_s dd_69_46 rfl hs]; rfl
theorem dd_69_47 : decode (mB 69) 47 = .ok (.istore_n 0, 1) := by decide +kernel
theorem u_69_47 {G : aG} {S : Nat → Bool} {f : Nat} {st : List Value} {ls : aL} {h : aH} {k n : Nat} {x : Int32} (hs : S 47 = false) : WP 69 G S (f + 1) 47 ls (.int x :: st) h k n = (WP 69 G S f 48 (lput1 ls 0 (.int x)) st h k n) := by rw [wp_s dd_69_47 rfl hs]; rfl
theorem dd_69_48 : decode (mB 69) 48 = .ok (.iload_n 0, 1) := by decide +kernel
theorem u_69_48 {G : aG} {S : Nat → Bool} {f : Nat} {st : List Value} {ls : aL} {h : aH} {k n : Nat} (hs : S 48 = false) : WP 69 G S (f + 1) 48 ls st h k n = (oI (lget ls 0) (WP 69 G S f) 49 ls st h k n) := by rw [wp_s dd_69_48 rfl hs]; rfl
theorem dd_69_49 : decode (mB 69) 49 = .ok (.bipush 63, 2) := by decide +kernel
theorem u_69_49 {G : aG} {S : Nat → Bool} {f : Nat} {st : List Value} {ls : aL} {h : aH} {k n : Nat} (hs : S 49 = false) : WP 69 G S (f + 1) 49 ls st h k n = (WP 69 G S f 51 ls (.int (nI 63) :: st) h k n) := by rw [wp_s dd_69_49 rfl hs]; rfl
theorem dd_69_51 : decode (mB 69) 51 = .ok (.iand, 1) := by decide +kernel
theorem u_69_51 {G : aG} {S : Nat → Bool} {f : Nat} {st : List Value} {ls : aL} {h : aH} {k n : Nat} {x y : Int32} (hs : S 51 = false) : WP 69 G S (f + 1) 51 ls (.int y :: .int x :: st) h k n = (WP 69 G S f 52 ls (.int (x &&& y) :: st) h k n) := by rw [wp_s dd_69_51 rfl hs]; rfl
theorem dd_69_52 : decode (mB 69) 52 = .ok (.ireturn, 1) := by decide +kernel
theorem u_69_52 {G : aG} {S : Nat → Bool} {f : Nat} {ls : aL} {h : aH} {k n : Nat} {x : Int32} (hs : S 52 = false) : WP 69 G S (f + 1) 52 ls [.int x] h k n = (RET G (some (.int x)) h k n) := by rw [wp_s dd_69_52 rfl hs]; rfl
theorem dd_73_0 : decode (mB 73) 0 = .ok (.lload_n 0, 1) := by decide +kernel
theorem u_73_0 {G : aG} {S : Nat → Bool} {f : Nat} {st : List Value} {ls : aL} {h : aH} {k n : Nat} (hs : S 0 = false) : WP 73 G S (f + 1) 0 ls st h k n = (oJ (lget ls 0) (WP 73 G S f) 1 ls st h k n) := by rw [wp_s dd_73_0 rfl hs]; rfl
theorem dd_73_1 : decode (mB 73) 1 = .ok (.lload_n 0, 1) := by decide +kernel
theorem u_73_1 {G : aG} {S : Nat → Bool} {f : Nat} {st : List Value} {ls : aL} {h : aH} {k n : Nat} (hs : S 1 = false) : WP 73 G S (f + 1) 1 ls st h k n = (oJ (lget ls 0) (WP 73 G S f) 2 ls st h k n) := by rw [wp_s dd_73_1 rfl hs]; rfl
theorem dd_73_2 : decode (mB 73) 2 = .ok (.iconst 1, 1) := by decide +kernel
theorem u_73_2 {G : aG} {S : Nat → Bool} {f : Nat} {st : List Value} {ls : aL} {h : aH} {k n : Nat} (hs : S 2 = false) : WP 73 G S (f + 1) 2 ls st h k n = (WP 73 G S f 3 ls (.int (nI 1) :: st) h k n) := by rw [wp_s dd_73_2 rfl hs]; rfl
theorem dd_73_3 : decode (mB 73) 3 = .ok (.lushr, 1) := by decide +kernel
theorem u_73_3 {G : aG} {S : Nat → Bool} {f : Nat} {st : List Value} {ls : aL} {h : aH} {k n : Nat} {x : Int64} {y : Int32} (hs : S 3 = false) : WP 73 G S (f + 1) 3 ls (.int y :: .long x :: st) h k n = (WP 73 G S f 4 ls (.long ((x.toUInt64 >>> (y.toInt64.toUInt64 &&& Int64.toUInt64 63)).toInt64) :: st) h k n) := by rw [wp_s dd_73_3 rfl hs]; rfl
theorem dd_73_4 : decode (mB 73) 4 = .ok (.ldc2_w 314, 3) := by decide +kernel
theorem u_73_4 {G : aG} {S : Nat → Bool} {f : Nat} {st : List Value} {ls : aL} {h : aH} {k n : Nat} (hs : S 4 = false) : WP 73 G S (f + 1) 4 ls st h k n = (WP 73 G S f 7 ls (.long (lN 6148914691236517205) :: st) h k n) := by rw [wp_s dd_73_4 rfl hs]; rfl
theorem dd_73_7 : decode (mB 73) 7 = .ok (.land, 1) := by decide +kernel
theorem u_73_7 {G : aG} {S : Nat → Bool} {f : Nat} {st : List Value} {ls : aL} {h : aH} {k n : Nat} {x y : Int64} (hs : S 7 = false) : WP 73 G S (f + 1) 7 ls (.long y :: .long x :: st) h k n = (WP 73 G S f 8 ls (.long (x &&& y) :: st) h k n) := by rw [wp_s dd_73_7 rfl hs]; rfl
theorem dd_73_8 : decode (mB 73) 8 = .ok (.lsub, 1) := by decide +kernel
theorem u_73_8 {G : aG} {S : Nat → Bool} {f : Nat} {st : List Value} {ls : aL} {h : aH} {k n : Nat} {x y : Int64} (hs : S 8 = false) : WP 73 G S (f + 1) 8 ls (.long y :: .long x :: st) h k n = (WP 73 G S f 9 ls (.long (x - y) :: st) h k n) := by rw [wp_s dd_73_8 rfl hs]; rfl
theorem dd_73_9 : decode (mB 73) 9 = .ok (.lstore_n 0, 1) := by decide +kernel
theorem u_73_9 {G : aG} {S : Nat → Bool} {f : Nat} {st : List Value} {ls : aL} {h : aH} {k n : Nat} {x : Int64} (hs : S 9 = false) : WP 73 G S (f + 1) 9 ls (.long x :: st) h k n = (WP 73 G S f 10 (lput2 ls 0 (.long x)) st h k n) := by rw [wp_s dd_73_9 rfl hs]; rfl
theorem dd_73_10 : decode (mB 73) 10 = .ok (.lload_n 0, 1) := by decide +kernel
theorem u_73_10 {G : aG} {S : Nat → Bool} {f : Nat} {st : List Value} {ls : aL} {h : aH} {k n : Nat} (hs : S 10 = false) : WP 73 G S (f + 1) 10 ls st h k n = (oJ (lget ls 0) (WP 73 G S f) 11 ls st h k n) := by rw [wp_s dd_73_10 rfl hs]; rfl
theorem dd_73_11 : decode (mB 73) 11 = .ok (.ldc2_w 316, 3) := by decide +kernel
theorem u_73_11 {G : aG} {S : Nat → Bool} {f : Nat} {st : List Value} {ls : aL} {h : aH} {k n : Nat} (hs : S 11 = false) : WP 73 G S (f + 1) 11 ls st h k n = (WP 73 G S f 14 ls (.long (lN 3689348814741910323) :: st) h k n) := by rw [wp_s dd_73_11 rfl hs]; rfl
theorem dd_73_14 : decode (mB 73) 14 = .ok (.land, 1) := by decide +kernel
theorem u_73_14 {G : aG} {S : Nat → Bool} {f : Nat} {st : List Value} {ls : aL} {h : aH} {k n : Nat} {x y : Int64} (hs : S 14 = false) : WP 73 G S (f + 1) 14 ls (.long y :: .long x :: st) h k n = (WP 73 G S f 15 ls (.long (x &&& y) :: st) h k n) := by rw [wp_s dd_73_14 rfl hs]; rfl
theorem dd_73_15 : decode (mB 73) 15 = .ok (.lload_n 0, 1) := by decide +kernel
theorem u_73_15 {G : aG} {S : Nat → Bool} {f : Nat} {st : List Value} {ls : aL} {h : aH} {k n : Nat} (hs : S 15 = false) : WP 73 G S (f + 1) 15 ls st h k n = (oJ (lget ls 0) (WP 73 G S f) 16 ls st h k n) := by rw [wp_s dd_73_15 rfl hs]; rfl
theorem dd_73_16 : decode (mB 73) 16 = .ok (.iconst 2, 1) := by decide +kernel
theorem u_73_16 {G : aG} {S : Nat → Bool} {f : Nat} {st : List Value} {ls : aL} {h : aH} {k n : Nat} (hs : S 16 = false) : WP 73 G S (f + 1) 16 ls st h k n = (WP 73 G S f 17 ls (.int (nI 2) :: st) h k n) := by rw [wp_s dd_73_16 rfl hs]; rfl
theorem dd_73_17 : decode (mB 73) 17 = .ok (.lushr, 1) := by decide +kernel
theorem u_73_17 {G : aG} {S : Nat → Bool} {f : Nat} {st : List Value} {ls : aL} {h : aH} {k n : Nat} {x : Int64} {y : Int32} (hs : S 17 = false) : WP 73 G S (f + 1) 17 ls (.int y :: .long x :: st) h k n = (WP 73 G S f 18 ls (.long ((x.toUInt64 >>> (y.toInt64.toUInt64 &&& Int64.toUInt64 63)).toInt64) :: st) h k n) := by rw [wp_s dd_73_17 rfl hs]; rfl
theorem dd_73_18 : decode (mB 73) 18 = .ok (.ldc2_w 316, 3) := by decide +kernel
theorem u_73_18 {G : aG} {S : Nat → Bool} {f : Nat} {st : List Value} {ls : aL} {h : aH} {k n : Nat} (hs : S 18 = false) : WP 73 G S (f + 1) 18 ls st h k n = (WP 73 G S f 21 ls (.long (lN 3689348814741910323) :: st) h k n) := by rw [wp_s dd_73_18 rfl hs]; rfl
theorem dd_73_21 : decode (mB 73) 21 = .ok (.land, 1) := by decide +kernel
theorem u_73_21 {G : aG} {S : Nat → Bool} {f : Nat} {st : List Value} {ls : aL} {h : aH} {k n : Nat} {x y : Int64} (hs : S 21 = false) : WP 73 G S (f + 1) 21 ls (.long y :: .long x :: st) h k n = (WP 73 G S f 22 ls (.long (x &&& y) :: st) h k n) := by rw [wp_s dd_73_21 rfl hs]; rfl
theorem dd_73_22 : decode (mB 73) 22 = .ok (.ladd, 1) := by decide +kernel
theorem u_73_22 {G : aG} {S : Nat → Bool} {f : Nat} {st : List Value} {ls : aL} {h : aH} {k n : Nat} {x y : Int64} (hs : S 22 = false) : WP 73 G S (f + 1) 22 ls (.long y :: .long x :: st) h k n = (WP 73 G S f 23 ls (.long (x + y) :: st) h k n) := by rw [wp_s dd_73_22 rfl hs]; rfl
theorem dd_73_23 : decode (mB 73) 23 = .ok (.lstore_n 0, 1) := by decide +kernel
theorem u_73_23 {G : aG} {S : Nat → Bool} {f : Nat} {st : List Value} {ls : aL} {h : aH} {k n : Nat} {x : Int64} (hs : S 23 = false) : WP 73 G S (f + 1) 23 ls (.long x :: st) h k n = (WP 73 G S f 24 (lput2 ls 0 (.long x)) st h k n) := by rw [wp_s dd_73_23 rfl hs]; rfl
theorem dd_73_24 : decode (mB 73) 24 = .ok (.lload_n 0, 1) := by decide +kernel
theorem u_73_24 {G : aG} {S : Nat → Bool} {f : Nat} {st : List Value} {ls : aL} {h : aH} {k n : Nat} (hs : S 24 = false) : WP 73 G S (f + 1) 24 ls st h k n = (oJ (lget ls 0) (WP 73 G S f) 25 ls st h k n) := by rw [wp_s dd_73_24 rfl hs]; rfl
theorem dd_73_25 : decode (mB 73) 25 = .ok (.lload_n 0, 1) := by decide +kernel
theorem u_73_25 {G : aG} {S : Nat → Bool} {f : Nat} {st : List Value} {ls : aL} {h : aH} {k n : Nat} (hs : S 25 = false) : WP 73 G S (f + 1) 25 ls st h k n = (oJ (lget ls 0) (WP 73 G S f) 26 ls st h k n) := by rw [wp_s dd_73_25 rfl hs]; rfl
theorem dd_73_26 : decode (mB 73) 26 = .ok (.iconst 4, 1) := by decide +kernel
theorem u_73_26 {G : aG} {S : Nat → Bool} {f : Nat} {st : List Value} {ls : aL} {h : aH} {k n : Nat} (hs : S 26 = false) : WP 73 G S (f + 1) 26 ls st h k n = (WP 73 G S f 27 ls (.int (nI 4) :: st) h k n) := by rw [wp_s dd_73_26 rfl hs]; rfl
theorem dd_73_27 : decode (mB 73) 27 = .ok (.lushr, 1) := by decide +kernel
theorem u_73_27 {G : aG} {S : Nat → Bool} {f : Nat} {st : List Value} {ls : aL} {h : aH} {k n : Nat} {x : Int64} {y : Int32} (hs : S 27 = false) : WP 73 G S (f + 1) 27 ls (.int y :: .long x :: st) h k n = (WP 73 G S f 28 ls (.long ((x.toUInt64 >>> (y.toInt64.toUInt64 &&& Int64.toUInt64 63)).toInt64) :: st) h k n) := by rw [wp_s dd_73_27 rfl hs]; rfl
theorem dd_73_28 : decode (mB 73) 28 = .ok (.ladd, 1) := by decide +kernel
theorem u_73_28 {G : aG} {S : Nat → Bool} {f : Nat} {st : List Value} {ls : aL} {h : aH} {k n : Nat} {x y : Int64} (hs : S 28 = false) : WP 73 G S (f + 1) 28 ls (.long y :: .long x :: st) h k n = (WP 73 G S f 29 ls (.long (x + y) :: st) h k n) := by rw [wp_s dd_73_28 rfl hs]; rfl
theorem dd_73_29 : decode (mB 73) 29 = .ok (.ldc2_w 318, 3) := by decide +kernel
theorem u_73_29 {G : aG} {S : Nat → Bool} {f : Nat} {st : List Value} {ls : aL} {h : aH} {k n : Nat} (hs : S 29 = false) : WP 73 G S (f + 1) 29 ls st h k n = (WP 73 G S f 32 ls (.long (lN 1085102592571150095) :: st) h k n) := by rw [wp_s dd_73_29 rfl hs]; rfl
theorem dd_73_32 : decode (mB 73) 32 = .ok (.land, 1) := by decide +kernel
theorem u_73_32 {G : aG} {S : Nat → Bool} {f : Nat} {st : List Value} {ls : aL} {h : aH} {k n : Nat} {x y : Int64} (hs : S 32 = false) : WP 73 G S (f + 1) 32 ls (.long y :: .long x :: st) h k n = (WP 73 G S f 33 ls (.long (x &&& y) :: st) h k n) := by rw [wp_s dd_73_32 rfl hs]; rfl
theorem dd_73_33 : decode (mB 73) 33 = .ok (.lstore_n 0, 1) := by decide +kernel
theorem u_73_33 {G : aG} {S : Nat → Bool} {f : Nat} {st : List Value} {ls : aL} {h : aH} {k n : Nat} {x : Int64} (hs : S 33 = false) : WP 73 G S (f + 1) 33 ls (.long x :: st) h k n = (WP 73 G S f 34 (lput2 ls 0 (.long x)) st h k n) := by rw [wp_s dd_73_33 rfl hs]; rfl
theorem dd_73_34 : decode (mB 73) 34 = .ok (.lload_n 0, 1) := by decide +kernel
theorem u_73_34 {G : aG} {S : Nat → Bool} {f : Nat} {st : List Value} {ls : aL} {h : aH} {k n : Nat} (hs : S 34 = false) : WP 73 G S (f + 1) 34 ls st h k n = (oJ (lget ls 0) (WP 73 G S f) 35 ls st h k n) := by rw [wp_s dd_73_34 rfl hs]; rfl
theorem dd_73_35 : decode (mB 73) 35 = .ok (.lload_n 0, 1) := by decide +kernel
theorem u_73_35 {G : aG} {S : Nat → Bool} {f : Nat} {st : List Value} {ls : aL} {h : aH} {k n : Nat} (hs : S 35 = false) : WP 73 G S (f + 1) 35 ls st h k n = (oJ (lget ls 0) (WP 73 G S f) 36 ls st h k n) := by rw [wp_s dd_73_35 rfl hs]; rfl
theorem dd_73_36 : decode (mB 73) 36 = .ok (.bipush 8, 2) := by decide +kernel
theorem u_73_36 {G : aG} {S : Nat → Bool} {f : Nat} {st : List Value} {ls : aL} {h : aH} {k n : Nat} (hs : S 36 = false) : WP 73 G S (f + 1) 36 ls st h k n = (WP 73 G S f 38 ls (.int (nI 8) :: st) h k n) := by rw [wp_s dd_73_36 rfl hs]; rfl
theorem dd_73_38 : decode (mB 73) 38 = .ok (.lushr, 1) := by decide +kernel
theorem u_73_38 {G : aG} {S : Nat → Bool} {f : Nat} {st : List Value} {ls : aL} {h : aH} {k n : Nat} {x : Int64} {y : Int32} (hs : S 38 = false) : WP 73 G S (f + 1) 38 ls (.int y :: .long x :: st) h k n = (WP 73 G S f 39 ls (.long ((x.toUInt64 >>> (y.toInt64.toUInt64 &&& Int64.toUInt64 63)).toInt64) :: st) h k n) := by rw [wp_s dd_73_38 rfl hs]; rfl
theorem dd_73_39 : decode (mB 73) 39 = .ok (.ladd, 1) := by decide +kernel
theorem u_73_39 {G : aG} {S : Nat → Bool} {f : Nat} {st : List Value} {ls : aL} {h : aH} {k n : Nat} {x y : Int64} (hs : S 39 = false) : WP 73 G S (f + 1) 39 ls (.long y :: .long x :: st) h k n = (WP 73 G S f 40 ls (.long (x + y) :: st) h k n) := by rw [wp_s dd_73_39 rfl hs]; rfl
theorem dd_73_40 : decode (mB 73) 40 = .ok (.lstore_n 0, 1) := by decide +kernel
theorem u_73_40 {G : aG} {S : Nat → Bool} {f : Nat} {st : List Value} {ls : aL} {h : aH} {k n : Nat} {x : Int64} (hs : S 40 = false) : WP 73 G S (f + 1) 40 ls (.long x :: st) h k n = (WP 73 G S f 41 (lput2 ls 0 (.long x)) st h k n) := by rw [wp_s dd_73_40 rfl hs]; rfl
theorem dd_73_41 : decode (mB 73) 41 = .ok (.lload_n 0, 1) := by decide +kernel
theorem u_73_41 {G : aG} {S : Nat → Bool} {f : Nat} {st : List Value} {ls : aL} {h : aH} {k n : Nat} (hs : S 41 = false) : WP 73 G S (f + 1) 41 ls st h k n = (oJ (lget ls 0) (WP 73 G S f) 42 ls st h k n) := by rw [wp_s dd_73_41 rfl hs]; rfl
theorem dd_73_42 : decode (mB 73) 42 = .ok (.lload_n 0, 1) := by decide +kernel
theorem u_73_42 {G : aG} {S : Nat → Bool} {f : Nat} {st : List Value} {ls : aL} {h : aH} {k n : Nat} (hs : S 42 = false) : WP 73 G S (f + 1) 42 ls st h k n = (oJ (lget ls 0) (WP 73 G S f) 43 ls st h k n) := by rw [wp_s dd_73_42 rfl hs]; rfl
theorem dd_73_43 : decode (mB 73) 43 = .ok (.bipush 16, 2) := by decide +kernel
theorem u_73_43 {G : aG} {S : Nat → Bool} {f : Nat} {st : List Value} {ls : aL} {h : aH} {k n : Nat} (hs : S 43 = false) : WP 73 G S (f + 1) 43 ls st h k n = (WP 73 G S f 45 ls (.int (nI 16) :: st) h k n) := by rw [wp_s dd_73_43 rfl hs]; rfl
theorem dd_73_45 : decode (mB 73) 45 = .ok (.lushr, 1) := by decide +kernel
theorem u_73_45 {G : aG} {S : Nat → Bool} {f : Nat} {st : List Value} {ls : aL} {h : aH} {k n : Nat} {x : Int64} {y : Int32} (hs : S 45 = false) : WP 73 G S (f + 1) 45 ls (.int y :: .long x :: st) h k n = (WP 73 G S f 46 ls (.long ((x.toUInt64 >>> (y.toInt64.toUInt64 &&& Int64.toUInt64 63)).toInt64) :: st) h k n) := by rw [wp_s dd_73_45 rfl hs]; rfl
theorem dd_73_46 : decode (mB 73) 46 = .ok (.ladd, 1) := by decide +kernel
theorem u_73_46 {G : aG} {S : Nat → Bool} {f : Nat} {st : List Value} {ls : aL} {h : aH} {k n : Nat} {x y : Int64} (hs : S 46 = false) : WP 73 G S (f + 1) 46 ls (.long y :: .long x :: st) h k n = (WP 73 G S f 47 ls (.long (x + y) :: st) h k n) := by rw [wp_s dd_73_46 rfl hs]; rfl
theorem dd_73_47 : decode (mB 73) 47 = .ok (.lstore_n 0, 1) := by decide +kernel
theorem u_73_47 {G : aG} {S : Nat → Bool} {f : Nat} {st : List Value} {ls : aL} {h : aH} {k n : Nat} {x : Int64} (hs : S 47 = false) : WP 73 G S (f + 1) 47 ls (.long x :: st) h k n = (WP 73 G S f 48 (lput2 ls 0 (.long x)) st h k n) := by rw [wp_s dd_73_47 rfl hs]; rfl
theorem dd_73_48 : decode (mB 73) 48 = .ok (.lload_n 0, 1) := by decide +kernel
theorem u_73_48 {G : aG} {S : Nat → Bool} {f : Nat} {st : List Value} {ls : aL} {h : aH} {k n : Nat} (hs : S 48 = false) : WP 73 G S (f + 1) 48 ls st h k n = (oJ (lget ls 0) (WP 73 G S f) 49 ls st h k n) := by rw [wp_s dd_73_48 rfl hs]; rfl
theorem dd_73_49 : decode (mB 73) 49 = .ok (.lload_n 0, 1) := by decide +kernel
theorem u_73_49 {G : aG} {S : Nat → Bool} {f : Nat} {st : List Value} {ls : aL} {h : aH} {k n : Nat} (hs : S 49 = false) : WP 73 G S (f + 1) 49 ls st h k n = (oJ (lget ls 0) (WP 73 G S f) 50 ls st h k n) := by rw [wp_s dd_73_49 rfl hs]; rfl
theorem dd_73_50 : decode (mB 73) 50 = .ok (.bipush 32, 2) := by decide +kernel
theorem u_73_50 {G : aG} {S : Nat → Bool} {f : Nat} {st : List Value} {ls : aL} {h : aH} {k n : Nat} (hs : S 50 = false) : WP 73 G S (f + 1) 50 ls st h k n = (WP 73 G S f 52 ls (.int (nI 32) :: st) h k n) := by rw [wp_s dd_73_50 rfl hs]; rfl
theorem dd_73_52 : decode (mB 73) 52 = .ok (.lushr, 1) := by decide +kernel
theorem u_73_52 {G : aG} {S : Nat → Bool} {f : Nat} {st : List Value} {ls : aL} {h : aH} {k n : Nat} {x : Int64} {y : Int32} (hs : S 52 = false) : WP 73 G S (f + 1) 52 ls (.int y :: .long x :: st) h k n = (WP 73 G S f 53 ls (.long ((x.toUInt64 >>> (y.toInt64.toUInt64 &&& Int64.toUInt64 63)).toInt64) :: st) h k n) := by rw [wp_s dd_73_52 rfl hs]; rfl
theorem dd_73_53 : decode (mB 73) 53 = .ok (.ladd, 1) := by decide +kernel
theorem u_73_53 {G : aG} {S : Nat → Bool} {f : Nat} {st : List Value} {ls : aL} {h : aH} {k n : Nat} {x y : Int64} (hs : S 53 = false) : WP 73 G S (f + 1) 53 ls (.long y :: .long x :: st) h k n = (WP 73 G S f 54 ls (.long (x + y) :: st) h k n) := by rw [wp_s dd_73_53 rfl hs]; rfl
theorem dd_73_54 : decode (mB 73) 54 = .ok (.lstore_n 0, 1) := by decide +kernel
theorem u_73_54 {G : aG} {S : Nat → Bool} {f : Nat} {st : List Value} {ls : aL} {h : aH} {k n : Nat} {x : Int64} (hs : S 54 = false) : WP 73 G S (f + 1) 54 ls (.long x :: st) h k n = (WP 73 G S f 55 (lput2 ls 0 (.long x)) st h k n) := by rw [wp_s dd_73_54 rfl hs]; rfl
theorem dd_73_55 : decode (mB 73) 55 = .ok (.lload_n 0, 1) := by decide +kernel
theorem u_73_55 {G : aG} {S : Nat → Bool} {f : Nat} {st : List Value} {ls : aL} {h : aH} {k n : Nat} (hs : S 55 = false) : WP 73 G S (f + 1) 55 ls st h k n = (oJ (lget ls 0) (WP 73 G S f) 56 ls st h k n) := by rw [wp_s dd_73_55 rfl hs]; rfl
theorem dd_73_56 : decode (mB 73) 56 = .ok (.l2i, 1) := by decide +kernel
theorem u_73_56 {G : aG} {S : Nat → Bool} {f : Nat} {st : List Value} {ls : aL} {h : aH} {k n : Nat} {x : Int64} (hs : S 56 = false) : WP 73 G S (f + 1) 56 ls (.long x :: st) h k n = (WP 73 G S f 57 ls (.int x.toInt32 :: st) h k n) := by rw [wp_s dd_73_56 rfl hs]; rfl
theorem dd_73_57 : decode (mB 73) 57 = .ok (.bipush 127, 2) := by decide +kernel
theorem u_73_57 {G : aG} {S : Nat → Bool} {f : Nat} {st : List Value} {ls : aL} {h : aH} {k n : Nat} (hs : S 57 = false) : WP 73 G S (f + 1) 57 ls st h k n = (WP 73 G S f 59 ls (.int (nI 127) :: st) h k n) := by rw [wp_s dd_73_57 rfl hs]; rfl
theorem dd_73_59 : decode (mB 73) 59 = .ok (.iand, 1) := by decide +kernel
theorem u_73_59 {G : aG} {S : Nat → Bool} {f : Nat} {st : List Value} {ls : aL} {h : aH} {k n : Nat} {x y : Int32} (hs : S 59 = false) : WP 73 G S (f + 1) 59 ls (.int y :: .int x :: st) h k n = (WP 73 G S f 60 ls (.int (x &&& y) :: st) h k n) := by rw [wp_s dd_73_59 rfl hs]; rfl
theorem dd_73_60 : decode (mB 73) 60 = .ok (.ireturn, 1) := by decide +kernel
theorem u_73_60 {G : aG} {S : Nat → Bool} {f : Nat} {ls : aL} {h : aH} {k n : Nat} {x : Int32} (hs : S 60 = false) : WP 73 G S (f + 1) 60 ls [.int x] h k n = (RET G (some (.int x)) h k n) := by rw [wp_s dd_73_60 rfl hs]; rfl
theorem dd_91_0 : decode (mB 91) 0 = .ok (.iconst 0, 1) := by decide +kernel
theorem u_91_0 {G : aG} {S : Nat → Bool} {f : Nat} {st : List Value} {ls : aL} {h : aH} {k n : Nat} (hs : S 0 = false) : WP 91 G S (f + 1) 0 ls st h k n = (WP 91 G S f 1 ls (.int (nI 0) :: st) h k n) := by rw [wp_s dd_91_0 rfl hs]; rfl
theorem dd_91_1 : decode (mB 91) 1 = .ok (.istore_n 2, 1) := by decide +kernel
theorem u_91_1 {G : aG} {S : Nat → Bool} {f : Nat} {st : List Value} {ls : aL} {h : aH} {k n : Nat} {x : Int32} (hs : S 1 = false) : WP 91 G S (f + 1) 1 ls (.int x :: st) h k n = (WP 91 G S f 2 (lput1 ls 2 (.int x)) st h k n) := by rw [wp_s dd_91_1 rfl hs]; rfl
theorem dd_91_2 : decode (mB 91) 2 = .ok (.iconst 0, 1) := by decide +kernel
theorem u_91_2 {G : aG} {S : Nat → Bool} {f : Nat} {st : List Value} {ls : aL} {h : aH} {k n : Nat} (hs : S 2 = false) : WP 91 G S (f + 1) 2 ls st h k n = (WP 91 G S f 3 ls (.int (nI 0) :: st) h k n) := by rw [wp_s dd_91_2 rfl hs]; rfl
theorem dd_91_3 : decode (mB 91) 3 = .ok (.istore_n 3, 1) := by decide +kernel
theorem u_91_3 {G : aG} {S : Nat → Bool} {f : Nat} {st : List Value} {ls : aL} {h : aH} {k n : Nat} {x : Int32} (hs : S 3 = false) : WP 91 G S (f + 1) 3 ls (.int x :: st) h k n = (WP 91 G S f 4 (lput1 ls 3 (.int x)) st h k n) := by rw [wp_s dd_91_3 rfl hs]; rfl
theorem dd_91_4 : decode (mB 91) 4 = .ok (.iload_n 3, 1) := by decide +kernel
theorem u_91_4 {G : aG} {S : Nat → Bool} {f : Nat} {st : List Value} {ls : aL} {h : aH} {k n : Nat} (hs : S 4 = false) : WP 91 G S (f + 1) 4 ls st h k n = (oI (lget ls 3) (WP 91 G S f) 5 ls st h k n) := by rw [wp_s dd_91_4 rfl hs]; rfl
theorem v_91_4 {G : aG} {S : Nat → Bool} {f : Nat} {st : List Value} {ls : aL} {h : aH} {k n : Nat} : WQ 91 G S f 4 ls st h k n = (oI (lget ls 3) (WP 91 G S f) 5 ls st h k n) := by rw [wq_s dd_91_4 rfl]; rfl
theorem dd_91_5 : decode (mB 91) 5 = .ok (.aload_n 0, 1) := by decide +kernel
theorem u_91_5 {G : aG} {S : Nat → Bool} {f : Nat} {st : List Value} {ls : aL} {h : aH} {k n : Nat} (hs : S 5 = false) : WP 91 G S (f + 1) 5 ls st h k n = (oA (lget ls 0) (WP 91 G S f) 6 ls st h k n) := by rw [wp_s dd_91_5 rfl hs]; rfl
theorem dd_91_6 : decode (mB 91) 6 = .ok (.getfield 31, 3) := by decide +kernel
theorem u_91_6 {G : aG} {S : Nat → Bool} {f : Nat} {st : List Value} {ls : aL} {h : aH} {k n : Nat} {a : Nat} (hs : S 6 = false) : WP 91 G S (f + 1) 6 ls (.ref a :: st) h k n = (oV (fget h a 7 2) (WP 91 G S f) 9 ls st h k n) := by rw [wp_s dd_91_6 rfl hs]; rfl
theorem dd_91_9 : decode (mB 91) 9 = .ok (.if_icmp .ge 27, 3) := by decide +kernel
theorem u_91_9 {G : aG} {S : Nat → Bool} {f : Nat} {st : List Value} {ls : aL} {h : aH} {k n : Nat} {x y : Int32} (hs : S 9 = false) : WP 91 G S (f + 1) 9 ls (.int y :: .int x :: st) h k n = (if y ≤ x then WP 91 G S f 36 ls st h k n else WP 91 G S f 12 ls st h k n) := by rw [wp_s dd_91_9 rfl hs]; exact br_ite (c := y ≤ x)
theorem dd_91_12 : decode (mB 91) 12 = .ok (.iload_n 3, 1) := by decide +kernel
theorem u_91_12 {G : aG} {S : Nat → Bool} {f : Nat} {st : List Value} {ls : aL} {h : aH} {k n : Nat} (hs : S 12 = false) : WP 91 G S (f + 1) 12 ls st h k n = (oI (lget ls 3) (WP 91 G S f) 13 ls st h k n) := by rw [wp_s dd_91_12 rfl hs]; rfl
theorem dd_91_13 : decode (mB 91) 13 = .ok (.bipush 20, 2) := by decide +kernel
theorem u_91_13 {G : aG} {S : Nat → Bool} {f : Nat} {st : List Value} {ls : aL} {h : aH} {k n : Nat} (hs : S 13 = false) : WP 91 G S (f + 1) 13 ls st h k n = (WP 91 G S f 15 ls (.int (nI 20) :: st) h k n) := by rw [wp_s dd_91_13 rfl hs]; rfl
theorem dd_91_15 : decode (mB 91) 15 = .ok (.if_icmp .ge 21, 3) := by decide +kernel
theorem u_91_15 {G : aG} {S : Nat → Bool} {f : Nat} {st : List Value} {ls : aL} {h : aH} {k n : Nat} {x y : Int32} (hs : S 15 = false) : WP 91 G S (f + 1) 15 ls (.int y :: .int x :: st) h k n = (if y ≤ x then WP 91 G S f 36 ls st h k n else WP 91 G S f 18 ls st h k n) := by rw [wp_s dd_91_15 rfl hs]; exact br_ite (c := y ≤ x)
theorem dd_91_18 : decode (mB 91) 18 = .ok (.aload_n 1, 1) := by decide +kernel
theorem u_91_18 {G : aG} {S : Nat → Bool} {f : Nat} {st : List Value} {ls : aL} {h : aH} {k n : Nat} (hs : S 18 = false) : WP 91 G S (f + 1) 18 ls st h k n = (oA (lget ls 1) (WP 91 G S f) 19 ls st h k n) := by rw [wp_s dd_91_18 rfl hs]; rfl
theorem dd_91_19 : decode (mB 91) 19 = .ok (.iload_n 2, 1) := by decide +kernel
theorem u_91_19 {G : aG} {S : Nat → Bool} {f : Nat} {st : List Value} {ls : aL} {h : aH} {k n : Nat} (hs : S 19 = false) : WP 91 G S (f + 1) 19 ls st h k n = (oI (lget ls 2) (WP 91 G S f) 20 ls st h k n) := by rw [wp_s dd_91_19 rfl hs]; rfl
theorem dd_91_20 : decode (mB 91) 20 = .ok (.aload_n 0, 1) := by decide +kernel
theorem u_91_20 {G : aG} {S : Nat → Bool} {f : Nat} {st : List Value} {ls : aL} {h : aH} {k n : Nat} (hs : S 20 = false) : WP 91 G S (f + 1) 20 ls st h k n = (oA (lget ls 0) (WP 91 G S f) 21 ls st h k n) := by rw [wp_s dd_91_20 rfl hs]; rfl
theorem dd_91_21 : decode (mB 91) 21 = .ok (.getfield 15, 3) := by decide +kernel
theorem u_91_21 {G : aG} {S : Nat → Bool} {f : Nat} {st : List Value} {ls : aL} {h : aH} {k n : Nat} {a : Nat} (hs : S 21 = false) : WP 91 G S (f + 1) 21 ls (.ref a :: st) h k n = (oV (fget h a 7 1) (WP 91 G S f) 24 ls st h k n) := by rw [wp_s dd_91_21 rfl hs]; rfl
theorem dd_91_24 : decode (mB 91) 24 = .ok (.iload_n 3, 1) := by decide +kernel
theorem u_91_24 {G : aG} {S : Nat → Bool} {f : Nat} {st : List Value} {ls : aL} {h : aH} {k n : Nat} (hs : S 24 = false) : WP 91 G S (f + 1) 24 ls st h k n = (oI (lget ls 3) (WP 91 G S f) 25 ls st h k n) := by rw [wp_s dd_91_24 rfl hs]; rfl
theorem dd_91_25 : decode (mB 91) 25 = .ok (.iaload, 1) := by decide +kernel
theorem u_91_25 {G : aG} {S : Nat → Bool} {f : Nat} {st : List Value} {ls : aL} {h : aH} {k n : Nat} {i : Int32} {a : Nat} (hs : S 25 = false) : WP 91 G S (f + 1) 25 ls (.int i :: .ref a :: st) h k n = (oIld (iget h a 1) i (WP 91 G S f) 26 ls st h k n) := by rw [wp_s dd_91_25 rfl hs]; rfl
theorem dd_91_26 : decode (mB 91) 26 = .ok (.invokevirtual 36, 3) := by decide +kernel
theorem u_91_26 {G : aG} {S : Nat → Bool} {f : Nat} {st : List Value} {ls : aL} {h : aH} {k n : Nat} {v1 v2 : Value} {b : Nat} (hs : S 26 = false) : WP 91 G S (f + 1) 26 ls (v2 :: v1 :: .ref b :: st) h k n = (rcv (hget h b) 2 ∧ CAL G (WP 91 G S f) 71 [.ref b, v1, v2] 29 ls st h k n) := by rw [wp_s dd_91_26 rfl hs]; rfl
theorem dd_91_29 : decode (mB 91) 29 = .ok (.istore_n 2, 1) := by decide +kernel
theorem u_91_29 {G : aG} {S : Nat → Bool} {f : Nat} {st : List Value} {ls : aL} {h : aH} {k n : Nat} {x : Int32} (hs : S 29 = false) : WP 91 G S (f + 1) 29 ls (.int x :: st) h k n = (WP 91 G S f 30 (lput1 ls 2 (.int x)) st h k n) := by rw [wp_s dd_91_29 rfl hs]; rfl
theorem dd_91_30 : decode (mB 91) 30 = .ok (.iinc 3 1, 3) := by decide +kernel
theorem u_91_30 {G : aG} {S : Nat → Bool} {f : Nat} {st : List Value} {ls : aL} {h : aH} {k n : Nat} (hs : S 30 = false) : WP 91 G S (f + 1) 30 ls st h k n = (oInc (lget ls 3) (nI 1) (WP 91 G S f) 3 33 ls st h k n) := by rw [wp_s dd_91_30 rfl hs]; rfl
theorem dd_91_33 : decode (mB 91) 33 = .ok (.goto (-29), 3) := by decide +kernel
theorem u_91_33 {G : aG} {S : Nat → Bool} {f : Nat} {st : List Value} {ls : aL} {h : aH} {k n : Nat} (hs : S 33 = false) : WP 91 G S (f + 1) 33 ls st h k n = (WP 91 G S f 4 ls st h k n) := by rw [wp_s dd_91_33 rfl hs]; rfl
theorem dd_91_36 : decode (mB 91) 36 = .ok (.iload_n 2, 1) := by decide +kernel
theorem u_91_36 {G : aG} {S : Nat → Bool} {f : Nat} {st : List Value} {ls : aL} {h : aH} {k n : Nat} (hs : S 36 = false) : WP 91 G S (f + 1) 36 ls st h k n = (oI (lget ls 2) (WP 91 G S f) 37 ls st h k n) := by rw [wp_s dd_91_36 rfl hs]; rfl
theorem dd_91_37 : decode (mB 91) 37 = .ok (.ireturn, 1) := by decide +kernel
theorem u_91_37 {G : aG} {S : Nat → Bool} {f : Nat} {ls : aL} {h : aH} {k n : Nat} {x : Int32} (hs : S 37 = false) : WP 91 G S (f + 1) 37 ls [.int x] h k n = (RET G (some (.int x)) h k n) := by rw [wp_s dd_91_37 rfl hs]; rfl
theorem dd_93_0 : decode (mB 93) 0 = .ok (.aload_n 0, 1) := by decide +kernel
theorem u_93_0 {G : aG} {S : Nat → Bool} {f : Nat} {st : List Value} {ls : aL} {h : aH} {k n : Nat} (hs : S 0 = false) : WP 93 G S (f + 1) 0 ls st h k n = (oA (lget ls 0) (WP 93 G S f) 1 ls st h k n) := by rw [wp_s dd_93_0 rfl hs]; rfl
theorem dd_93_1 : decode (mB 93) 1 = .ok (.getfield 31, 3) := by decide +kernel
theorem u_93_1 {G : aG} {S : Nat → Bool} {f : Nat} {st : List Value} {ls : aL} {h : aH} {k n : Nat} {a : Nat} (hs : S 1 = false) : WP 93 G S (f + 1) 1 ls (.ref a :: st) h k n = (oV (fget h a 7 2) (WP 93 G S f) 4 ls st h k n) := by rw [wp_s dd_93_1 rfl hs]; rfl
theorem dd_93_4 : decode (mB 93) 4 = .ok (.bipush 20, 2) := by decide +kernel
theorem u_93_4 {G : aG} {S : Nat → Bool} {f : Nat} {st : List Value} {ls : aL} {h : aH} {k n : Nat} (hs : S 4 = false) : WP 93 G S (f + 1) 4 ls st h k n = (WP 93 G S f 6 ls (.int (nI 20) :: st) h k n) := by rw [wp_s dd_93_4 rfl hs]; rfl
theorem dd_93_6 : decode (mB 93) 6 = .ok (.if_icmp .ge 23, 3) := by decide +kernel
theorem u_93_6 {G : aG} {S : Nat → Bool} {f : Nat} {st : List Value} {ls : aL} {h : aH} {k n : Nat} {x y : Int32} (hs : S 6 = false) : WP 93 G S (f + 1) 6 ls (.int y :: .int x :: st) h k n = (if y ≤ x then WP 93 G S f 29 ls st h k n else WP 93 G S f 9 ls st h k n) := by rw [wp_s dd_93_6 rfl hs]; exact br_ite (c := y ≤ x)
theorem dd_93_9 : decode (mB 93) 9 = .ok (.aload_n 0, 1) := by decide +kernel
theorem u_93_9 {G : aG} {S : Nat → Bool} {f : Nat} {st : List Value} {ls : aL} {h : aH} {k n : Nat} (hs : S 9 = false) : WP 93 G S (f + 1) 9 ls st h k n = (oA (lget ls 0) (WP 93 G S f) 10 ls st h k n) := by rw [wp_s dd_93_9 rfl hs]; rfl
theorem dd_93_10 : decode (mB 93) 10 = .ok (.getfield 15, 3) := by decide +kernel
theorem u_93_10 {G : aG} {S : Nat → Bool} {f : Nat} {st : List Value} {ls : aL} {h : aH} {k n : Nat} {a : Nat} (hs : S 10 = false) : WP 93 G S (f + 1) 10 ls (.ref a :: st) h k n = (oV (fget h a 7 1) (WP 93 G S f) 13 ls st h k n) := by rw [wp_s dd_93_10 rfl hs]; rfl
theorem dd_93_13 : decode (mB 93) 13 = .ok (.aload_n 0, 1) := by decide +kernel
theorem u_93_13 {G : aG} {S : Nat → Bool} {f : Nat} {st : List Value} {ls : aL} {h : aH} {k n : Nat} (hs : S 13 = false) : WP 93 G S (f + 1) 13 ls st h k n = (oA (lget ls 0) (WP 93 G S f) 14 ls st h k n) := by rw [wp_s dd_93_13 rfl hs]; rfl
theorem dd_93_14 : decode (mB 93) 14 = .ok (.getfield 31, 3) := by decide +kernel
theorem u_93_14 {G : aG} {S : Nat → Bool} {f : Nat} {st : List Value} {ls : aL} {h : aH} {k n : Nat} {a : Nat} (hs : S 14 = false) : WP 93 G S (f + 1) 14 ls (.ref a :: st) h k n = (oV (fget h a 7 2) (WP 93 G S f) 17 ls st h k n) := by rw [wp_s dd_93_14 rfl hs]; rfl
theorem dd_93_17 : decode (mB 93) 17 = .ok (.iload_n 1, 1) := by decide +kernel
theorem u_93_17 {G : aG} {S : Nat → Bool} {f : Nat} {st : List Value} {ls : aL} {h : aH} {k n : Nat} (hs : S 17 = false) : WP 93 G S (f + 1) 17 ls st h k n = (oI (lget ls 1) (WP 93 G S f) 18 ls st h k n) := by rw [wp_s dd_93_17 rfl hs]; rfl
theorem dd_93_18 : decode (mB 93) 18 = .ok (.iastore, 1) := by decide +kernel
theorem u_93_18 {G : aG} {S : Nat → Bool} {f : Nat} {st : List Value} {ls : aL} {h : aH} {k n : Nat} {i x : Int32} {a : Nat} (hs : S 18 = false) : WP 93 G S (f + 1) 18 ls (.int x :: .int i :: .ref a :: st) h k n = (oIst (iget h a 1) a i x (WP 93 G S f) 19 ls st h k n) := by rw [wp_s dd_93_18 rfl hs]; rfl
theorem dd_93_19 : decode (mB 93) 19 = .ok (.aload_n 0, 1) := by decide +kernel
theorem u_93_19 {G : aG} {S : Nat → Bool} {f : Nat} {st : List Value} {ls : aL} {h : aH} {k n : Nat} (hs : S 19 = false) : WP 93 G S (f + 1) 19 ls st h k n = (oA (lget ls 0) (WP 93 G S f) 20 ls st h k n) := by rw [wp_s dd_93_19 rfl hs]; rfl
theorem dd_93_20 : decode (mB 93) 20 = .ok (.dup, 1) := by decide +kernel
theorem u_93_20 {G : aG} {S : Nat → Bool} {f : Nat} {st : List Value} {ls : aL} {h : aH} {k n : Nat} {v : Value} (hs : S 20 = false) : WP 93 G S (f + 1) 20 ls (v :: st) h k n = (cond (cat1 v) (WP 93 G S f 21 ls (v :: v :: st) h k n) False) := by rw [wp_s dd_93_20 rfl hs]; rfl
theorem dd_93_21 : decode (mB 93) 21 = .ok (.getfield 31, 3) := by decide +kernel
theorem u_93_21 {G : aG} {S : Nat → Bool} {f : Nat} {st : List Value} {ls : aL} {h : aH} {k n : Nat} {a : Nat} (hs : S 21 = false) : WP 93 G S (f + 1) 21 ls (.ref a :: st) h k n = (oV (fget h a 7 2) (WP 93 G S f) 24 ls st h k n) := by rw [wp_s dd_93_21 rfl hs]; rfl
theorem dd_93_24 : decode (mB 93) 24 = .ok (.iconst 1, 1) := by decide +kernel
theorem u_93_24 {G : aG} {S : Nat → Bool} {f : Nat} {st : List Value} {ls : aL} {h : aH} {k n : Nat} (hs : S 24 = false) : WP 93 G S (f + 1) 24 ls st h k n = (WP 93 G S f 25 ls (.int (nI 1) :: st) h k n) := by rw [wp_s dd_93_24 rfl hs]; rfl
theorem dd_93_25 : decode (mB 93) 25 = .ok (.iadd, 1) := by decide +kernel
theorem u_93_25 {G : aG} {S : Nat → Bool} {f : Nat} {st : List Value} {ls : aL} {h : aH} {k n : Nat} {x y : Int32} (hs : S 25 = false) : WP 93 G S (f + 1) 25 ls (.int y :: .int x :: st) h k n = (WP 93 G S f 26 ls (.int (x + y) :: st) h k n) := by rw [wp_s dd_93_25 rfl hs]; rfl
theorem dd_93_26 : decode (mB 93) 26 = .ok (.putfield 31, 3) := by decide +kernel
theorem u_93_26 {G : aG} {S : Nat → Bool} {f : Nat} {st : List Value} {ls : aL} {h : aH} {k n : Nat} {a : Nat} {x : Int32} (hs : S 26 = false) : WP 93 G S (f + 1) 26 ls (.int x :: .ref a :: st) h k n = (oH (fput h a 7 2 (.int x)) (WP 93 G S f) 29 ls st k n) := by rw [wp_s dd_93_26 rfl hs]; rfl
theorem dd_93_29 : decode (mB 93) 29 = .ok (.return_, 1) := by decide +kernel
theorem u_93_29 {G : aG} {S : Nat → Bool} {f : Nat} {ls : aL} {h : aH} {k n : Nat} (hs : S 29 = false) : WP 93 G S (f + 1) 29 ls [] h k n = (RET G none h k n) := by rw [wp_s dd_93_29 rfl hs]; rfl
theorem dd_96_0 : decode (mB 96) 0 = .ok (.aload_n 0, 1) := by decide +kernel
theorem u_96_0 {G : aG} {S : Nat → Bool} {f : Nat} {st : List Value} {ls : aL} {h : aH} {k n : Nat} (hs : S 0 = false) : WP 96 G S (f + 1) 0 ls st h k n = (oA (lget ls 0) (WP 96 G S f) 1 ls st h k n) := by rw [wp_s dd_96_0 rfl hs]; rfl
theorem dd_96_1 : decode (mB 96) 1 = .ok (.getfield 26, 3) := by decide +kernel
theorem u_96_1 {G : aG} {S : Nat → Bool} {f : Nat} {st : List Value} {ls : aL} {h : aH} {k n : Nat} {a : Nat} (hs : S 1 = false) : WP 96 G S (f + 1) 1 ls (.ref a :: st) h k n = (oV (fget h a 4 1) (WP 96 G S f) 4 ls st h k n) := by rw [wp_s dd_96_1 rfl hs]; rfl
theorem dd_96_4 : decode (mB 96) 4 = .ok (.ifCond .le 47, 3) := by decide +kernel
theorem u_96_4 {G : aG} {S : Nat → Bool} {f : Nat} {st : List Value} {ls : aL} {h : aH} {k n : Nat} {x : Int32} (hs : S 4 = false) : WP 96 G S (f + 1) 4 ls (.int x :: st) h k n = (if x ≤ nI 0 then WP 96 G S f 51 ls st h k n else WP 96 G S f 7 ls st h k n) := by rw [wp_s dd_96_4 rfl hs]; exact br_ite (c := x ≤ nI 0)
theorem dd_96_7 : decode (mB 96) 7 = .ok (.aload_n 1, 1) := by decide +kernel
theorem u_96_7 {G : aG} {S : Nat → Bool} {f : Nat} {st : List Value} {ls : aL} {h : aH} {k n : Nat} (hs : S 7 = false) : WP 96 G S (f + 1) 7 ls st h k n = (oA (lget ls 1) (WP 96 G S f) 8 ls st h k n) := by rw [wp_s dd_96_7 rfl hs]; rfl
theorem dd_96_8 : decode (mB 96) 8 = .ok (.aload_n 0, 1) := by decide +kernel
theorem u_96_8 {G : aG} {S : Nat → Bool} {f : Nat} {st : List Value} {ls : aL} {h : aH} {k n : Nat} (hs : S 8 = false) : WP 96 G S (f + 1) 8 ls st h k n = (oA (lget ls 0) (WP 96 G S f) 9 ls st h k n) := by rw [wp_s dd_96_8 rfl hs]; rfl
theorem dd_96_9 : decode (mB 96) 9 = .ok (.getfield 11, 3) := by decide +kernel
theorem u_96_9 {G : aG} {S : Nat → Bool} {f : Nat} {st : List Value} {ls : aL} {h : aH} {k n : Nat} {a : Nat} (hs : S 9 = false) : WP 96 G S (f + 1) 9 ls (.ref a :: st) h k n = (oV (fget h a 4 0) (WP 96 G S f) 12 ls st h k n) := by rw [wp_s dd_96_9 rfl hs]; rfl
theorem dd_96_12 : decode (mB 96) 12 = .ok (.aload_n 0, 1) := by decide +kernel
theorem u_96_12 {G : aG} {S : Nat → Bool} {f : Nat} {st : List Value} {ls : aL} {h : aH} {k n : Nat} (hs : S 12 = false) : WP 96 G S (f + 1) 12 ls st h k n = (oA (lget ls 0) (WP 96 G S f) 13 ls st h k n) := by rw [wp_s dd_96_12 rfl hs]; rfl
theorem dd_96_13 : decode (mB 96) 13 = .ok (.getfield 18, 3) := by decide +kernel
theorem u_96_13 {G : aG} {S : Nat → Bool} {f : Nat} {st : List Value} {ls : aL} {h : aH} {k n : Nat} {a : Nat} (hs : S 13 = false) : WP 96 G S (f + 1) 13 ls (.ref a :: st) h k n = (oV (fget h a 4 2) (WP 96 G S f) 16 ls st h k n) := by rw [wp_s dd_96_13 rfl hs]; rfl
theorem dd_96_16 : decode (mB 96) 16 = .ok (.aaload, 1) := by decide +kernel
theorem u_96_16 {G : aG} {S : Nat → Bool} {f : Nat} {st : List Value} {ls : aL} {h : aH} {k n : Nat} {i : Int32} {a : Nat} (hs : S 16 = false) : WP 96 G S (f + 1) 16 ls (.int i :: .ref a :: st) h k n = (oQld (qget h a) i (WP 96 G S f) 17 ls st h k n) := by rw [wp_s dd_96_16 rfl hs]; rfl
theorem dd_96_17 : decode (mB 96) 17 = .ok (.invokevirtual 22, 3) := by decide +kernel
theorem u_96_17 {G : aG} {S : Nat → Bool} {f : Nat} {st : List Value} {ls : aL} {h : aH} {k n : Nat} {v1 : Value} {b : Nat} (hs : S 17 = false) : WP 96 G S (f + 1) 17 ls (v1 :: .ref b :: st) h k n = (rcv (hget h b) 7 ∧ CAL G (WP 96 G S f) 53 [.ref b, v1] 20 ls st h k n) := by rw [wp_s dd_96_17 rfl hs]; rfl
theorem dd_96_20 : decode (mB 96) 20 = .ok (.aload_n 0, 1) := by decide +kernel
theorem u_96_20 {G : aG} {S : Nat → Bool} {f : Nat} {st : List Value} {ls : aL} {h : aH} {k n : Nat} (hs : S 20 = false) : WP 96 G S (f + 1) 20 ls st h k n = (oA (lget ls 0) (WP 96 G S f) 21 ls st h k n) := by rw [wp_s dd_96_20 rfl hs]; rfl
theorem dd_96_21 : decode (mB 96) 21 = .ok (.aload_n 0, 1) := by decide +kernel
theorem u_96_21 {G : aG} {S : Nat → Bool} {f : Nat} {st : List Value} {ls : aL} {h : aH} {k n : Nat} (hs : S 21 = false) : WP 96 G S (f + 1) 21 ls st h k n = (oA (lget ls 0) (WP 96 G S f) 22 ls st h k n) := by rw [wp_s dd_96_21 rfl hs]; rfl
theorem dd_96_22 : decode (mB 96) 22 = .ok (.getfield 18, 3) := by decide +kernel
theorem u_96_22 {G : aG} {S : Nat → Bool} {f : Nat} {st : List Value} {ls : aL} {h : aH} {k n : Nat} {a : Nat} (hs : S 22 = false) : WP 96 G S (f + 1) 22 ls (.ref a :: st) h k n = (oV (fget h a 4 2) (WP 96 G S f) 25 ls st h k n) := by rw [wp_s dd_96_22 rfl hs]; rfl
theorem dd_96_25 : decode (mB 96) 25 = .ok (.ifCond .le 12, 3) := by decide +kernel
theorem u_96_25 {G : aG} {S : Nat → Bool} {f : Nat} {st : List Value} {ls : aL} {h : aH} {k n : Nat} {x : Int32} (hs : S 25 = false) : WP 96 G S (f + 1) 25 ls (.int x :: st) h k n = (if x ≤ nI 0 then WP 96 G S f 37 ls st h k n else WP 96 G S f 28 ls st h k n) := by rw [wp_s dd_96_25 rfl hs]; exact br_ite (c := x ≤ nI 0)
theorem dd_96_28 : decode (mB 96) 28 = .ok (.aload_n 0, 1) := by decide +kernel
theorem u_96_28 {G : aG} {S : Nat → Bool} {f : Nat} {st : List Value} {ls : aL} {h : aH} {k n : Nat} (hs : S 28 = false) : WP 96 G S (f + 1) 28 ls st h k n = (oA (lget ls 0) (WP 96 G S f) 29 ls st h k n) := by rw [wp_s dd_96_28 rfl hs]; rfl
theorem dd_96_29 : decode (mB 96) 29 = .ok (.getfield 18, 3) := by decide +kernel
theorem u_96_29 {G : aG} {S : Nat → Bool} {f : Nat} {st : List Value} {ls : aL} {h : aH} {k n : Nat} {a : Nat} (hs : S 29 = false) : WP 96 G S (f + 1) 29 ls (.ref a :: st) h k n = (oV (fget h a 4 2) (WP 96 G S f) 32 ls st h k n) := by rw [wp_s dd_96_29 rfl hs]; rfl
theorem dd_96_32 : decode (mB 96) 32 = .ok (.iconst 1, 1) := by decide +kernel
theorem u_96_32 {G : aG} {S : Nat → Bool} {f : Nat} {st : List Value} {ls : aL} {h : aH} {k n : Nat} (hs : S 32 = false) : WP 96 G S (f + 1) 32 ls st h k n = (WP 96 G S f 33 ls (.int (nI 1) :: st) h k n) := by rw [wp_s dd_96_32 rfl hs]; rfl
theorem dd_96_33 : decode (mB 96) 33 = .ok (.isub, 1) := by decide +kernel
theorem u_96_33 {G : aG} {S : Nat → Bool} {f : Nat} {st : List Value} {ls : aL} {h : aH} {k n : Nat} {x y : Int32} (hs : S 33 = false) : WP 96 G S (f + 1) 33 ls (.int y :: .int x :: st) h k n = (WP 96 G S f 34 ls (.int (x - y) :: st) h k n) := by rw [wp_s dd_96_33 rfl hs]; rfl
theorem dd_96_34 : decode (mB 96) 34 = .ok (.goto 4, 3) := by decide +kernel
theorem u_96_34 {G : aG} {S : Nat → Bool} {f : Nat} {st : List Value} {ls : aL} {h : aH} {k n : Nat} (hs : S 34 = false) : WP 96 G S (f + 1) 34 ls st h k n = (WP 96 G S f 38 ls st h k n) := by rw [wp_s dd_96_34 rfl hs]; rfl
theorem dd_96_37 : decode (mB 96) 37 = .ok (.iconst 3, 1) := by decide +kernel
theorem u_96_37 {G : aG} {S : Nat → Bool} {f : Nat} {st : List Value} {ls : aL} {h : aH} {k n : Nat} (hs : S 37 = false) : WP 96 G S (f + 1) 37 ls st h k n = (WP 96 G S f 38 ls (.int (nI 3) :: st) h k n) := by rw [wp_s dd_96_37 rfl hs]; rfl
theorem dd_96_38 : decode (mB 96) 38 = .ok (.putfield 18, 3) := by decide +kernel
theorem u_96_38 {G : aG} {S : Nat → Bool} {f : Nat} {st : List Value} {ls : aL} {h : aH} {k n : Nat} {a : Nat} {x : Int32} (hs : S 38 = false) : WP 96 G S (f + 1) 38 ls (.int x :: .ref a :: st) h k n = (oH (fput h a 4 2 (.int x)) (WP 96 G S f) 41 ls st k n) := by rw [wp_s dd_96_38 rfl hs]; rfl
theorem dd_96_41 : decode (mB 96) 41 = .ok (.aload_n 0, 1) := by decide +kernel
theorem u_96_41 {G : aG} {S : Nat → Bool} {f : Nat} {st : List Value} {ls : aL} {h : aH} {k n : Nat} (hs : S 41 = false) : WP 96 G S (f + 1) 41 ls st h k n = (oA (lget ls 0) (WP 96 G S f) 42 ls st h k n) := by rw [wp_s dd_96_41 rfl hs]; rfl
theorem dd_96_42 : decode (mB 96) 42 = .ok (.dup, 1) := by decide +kernel
theorem u_96_42 {G : aG} {S : Nat → Bool} {f : Nat} {st : List Value} {ls : aL} {h : aH} {k n : Nat} {v : Value} (hs : S 42 = false) : WP 96 G S (f + 1) 42 ls (v :: st) h k n = (cond (cat1 v) (WP 96 G S f 43 ls (v :: v :: st) h k n) False) := by rw [wp_s dd_96_42 rfl hs]; rfl
theorem dd_96_43 : decode (mB 96) 43 = .ok (.getfield 26, 3) := by decide +kernel
theorem u_96_43 {G : aG} {S : Nat → Bool} {f : Nat} {st : List Value} {ls : aL} {h : aH} {k n : Nat} {a : Nat} (hs : S 43 = false) : WP 96 G S (f + 1) 43 ls (.ref a :: st) h k n = (oV (fget h a 4 1) (WP 96 G S f) 46 ls st h k n) := by rw [wp_s dd_96_43 rfl hs]; rfl
theorem dd_96_46 : decode (mB 96) 46 = .ok (.iconst 1, 1) := by decide +kernel
theorem u_96_46 {G : aG} {S : Nat → Bool} {f : Nat} {st : List Value} {ls : aL} {h : aH} {k n : Nat} (hs : S 46 = false) : WP 96 G S (f + 1) 46 ls st h k n = (WP 96 G S f 47 ls (.int (nI 1) :: st) h k n) := by rw [wp_s dd_96_46 rfl hs]; rfl
theorem dd_96_47 : decode (mB 96) 47 = .ok (.isub, 1) := by decide +kernel
theorem u_96_47 {G : aG} {S : Nat → Bool} {f : Nat} {st : List Value} {ls : aL} {h : aH} {k n : Nat} {x y : Int32} (hs : S 47 = false) : WP 96 G S (f + 1) 47 ls (.int y :: .int x :: st) h k n = (WP 96 G S f 48 ls (.int (x - y) :: st) h k n) := by rw [wp_s dd_96_47 rfl hs]; rfl
theorem dd_96_48 : decode (mB 96) 48 = .ok (.putfield 26, 3) := by decide +kernel
theorem u_96_48 {G : aG} {S : Nat → Bool} {f : Nat} {st : List Value} {ls : aL} {h : aH} {k n : Nat} {a : Nat} {x : Int32} (hs : S 48 = false) : WP 96 G S (f + 1) 48 ls (.int x :: .ref a :: st) h k n = (oH (fput h a 4 1 (.int x)) (WP 96 G S f) 51 ls st k n) := by rw [wp_s dd_96_48 rfl hs]; rfl
theorem dd_96_51 : decode (mB 96) 51 = .ok (.return_, 1) := by decide +kernel
theorem u_96_51 {G : aG} {S : Nat → Bool} {f : Nat} {ls : aL} {h : aH} {k n : Nat} (hs : S 51 = false) : WP 96 G S (f + 1) 51 ls [] h k n = (RET G none h k n) := by rw [wp_s dd_96_51 rfl hs]; rfl
theorem dd_144_0 : decode (mB 144) 0 = .ok (.fload_n 0, 1) := by decide +kernel
theorem u_144_0 {G : aG} {S : Nat → Bool} {f : Nat} {st : List Value} {ls : aL} {h : aH} {k n : Nat} (hs : S 0 = false) : WP 144 G S (f + 1) 0 ls st h k n = (oF (lget ls 0) (WP 144 G S f) 1 ls st h k n) := by rw [wp_s dd_144_0 rfl hs]; rfl
theorem dd_144_1 : decode (mB 144) 1 = .ok (.invokestatic 59, 3) := by decide +kernel
theorem u_144_1 {G : aG} {S : Nat → Bool} {f : Nat} {st : List Value} {ls : aL} {h : aH} {k n : Nat} {v1 : Value} (hs : S 1 = false) : WP 144 G S (f + 1) 1 ls (v1 :: st) h k n = (CAL G (WP 144 G S f) 145 [v1] 4 ls st h k n) := by rw [wp_s dd_144_1 rfl hs]; rfl
theorem dd_144_4 : decode (mB 144) 4 = .ok (.ifCond .ne 8, 3) := by decide +kernel
theorem u_144_4 {G : aG} {S : Nat → Bool} {f : Nat} {st : List Value} {ls : aL} {h : aH} {k n : Nat} {x : Int32} (hs : S 4 = false) : WP 144 G S (f + 1) 4 ls (.int x :: st) h k n = (if x = nI 0 then WP 144 G S f 7 ls st h k n else WP 144 G S f 12 ls st h k n) := by rw [wp_s dd_144_4 rfl hs]; exact br_iten (c := x = nI 0)
theorem dd_144_7 : decode (mB 144) 7 = .ok (.fload_n 0, 1) := by decide +kernel
theorem u_144_7 {G : aG} {S : Nat → Bool} {f : Nat} {st : List Value} {ls : aL} {h : aH} {k n : Nat} (hs : S 7 = false) : WP 144 G S (f + 1) 7 ls st h k n = (oF (lget ls 0) (WP 144 G S f) 8 ls st h k n) := by rw [wp_s dd_144_7 rfl hs]; rfl
theorem dd_144_8 : decode (mB 144) 8 = .ok (.invokestatic 74, 3) := by decide +kernel
theorem u_144_8 {G : aG} {S : Nat → Bool} {f : Nat} {st : List Value} {ls : aL} {h : aH} {k n : Nat} {b : UInt32} (hs : S 8 = false) : WP 144 G S (f + 1) 8 ls (.float b :: st) h k n = ((st.map fun v => v.category).sum ≤ 8 ∧ 1 ≤ gD G ∧ WP 144 G S f 11 ls (.int b.toInt32 :: st) h k n) := by rw [wp_s dd_144_8 rfl hs]; rfl
theorem dd_144_11 : decode (mB 144) 11 = .ok (.ireturn, 1) := by decide +kernel
theorem u_144_11 {G : aG} {S : Nat → Bool} {f : Nat} {ls : aL} {h : aH} {k n : Nat} {x : Int32} (hs : S 11 = false) : WP 144 G S (f + 1) 11 ls [.int x] h k n = (RET G (some (.int x)) h k n) := by rw [wp_s dd_144_11 rfl hs]; rfl
theorem dd_144_12 : decode (mB 144) 12 = .ok (.ldc 77, 2) := by decide +kernel
theorem u_144_12 {G : aG} {S : Nat → Bool} {f : Nat} {st : List Value} {ls : aL} {h : aH} {k n : Nat} (hs : S 12 = false) : WP 144 G S (f + 1) 12 ls st h k n = (WP 144 G S f 14 ls (.int (nI 2143289344) :: st) h k n) := by rw [wp_s dd_144_12 rfl hs]; rfl
theorem dd_144_14 : decode (mB 144) 14 = .ok (.ireturn, 1) := by decide +kernel
theorem u_144_14 {G : aG} {S : Nat → Bool} {f : Nat} {ls : aL} {h : aH} {k n : Nat} {x : Int32} (hs : S 14 = false) : WP 144 G S (f + 1) 14 ls [.int x] h k n = (RET G (some (.int x)) h k n) := by rw [wp_s dd_144_14 rfl hs]; rfl
theorem dd_145_0 : decode (mB 145) 0 = .ok (.fload_n 0, 1) := by decide +kernel
theorem u_145_0 {G : aG} {S : Nat → Bool} {f : Nat} {st : List Value} {ls : aL} {h : aH} {k n : Nat} (hs : S 0 = false) : WP 145 G S (f + 1) 0 ls st h k n = (oF (lget ls 0) (WP 145 G S f) 1 ls st h k n) := by rw [wp_s dd_145_0 rfl hs]; rfl
theorem dd_145_1 : decode (mB 145) 1 = .ok (.fload_n 0, 1) := by decide +kernel
theorem u_145_1 {G : aG} {S : Nat → Bool} {f : Nat} {st : List Value} {ls : aL} {h : aH} {k n : Nat} (hs : S 1 = false) : WP 145 G S (f + 1) 1 ls st h k n = (oF (lget ls 0) (WP 145 G S f) 2 ls st h k n) := by rw [wp_s dd_145_1 rfl hs]; rfl
theorem dd_145_2 : decode (mB 145) 2 = .ok (.fcmp .l, 1) := by decide +kernel
theorem u_145_2 {G : aG} {S : Nat → Bool} {f : Nat} {st : List Value} {ls : aL} {h : aH} {k n : Nat} {x y : UInt32} (hs : S 2 = false) : WP 145 G S (f + 1) 2 ls (.float y :: .float x :: st) h k n = (WP 145 G S f 3 ls (.int (Op.cmpValue (FP.fcmp x y) .l) :: st) h k n) := by rw [wp_s dd_145_2 rfl hs]; rfl
theorem dd_145_3 : decode (mB 145) 3 = .ok (.ifCond .eq 7, 3) := by decide +kernel
theorem u_145_3 {G : aG} {S : Nat → Bool} {f : Nat} {st : List Value} {ls : aL} {h : aH} {k n : Nat} {x : Int32} (hs : S 3 = false) : WP 145 G S (f + 1) 3 ls (.int x :: st) h k n = (if x = nI 0 then WP 145 G S f 10 ls st h k n else WP 145 G S f 6 ls st h k n) := by rw [wp_s dd_145_3 rfl hs]; exact br_ite (c := x = nI 0)
theorem dd_145_6 : decode (mB 145) 6 = .ok (.iconst 1, 1) := by decide +kernel
theorem u_145_6 {G : aG} {S : Nat → Bool} {f : Nat} {st : List Value} {ls : aL} {h : aH} {k n : Nat} (hs : S 6 = false) : WP 145 G S (f + 1) 6 ls st h k n = (WP 145 G S f 7 ls (.int (nI 1) :: st) h k n) := by rw [wp_s dd_145_6 rfl hs]; rfl
theorem dd_145_7 : decode (mB 145) 7 = .ok (.goto 4, 3) := by decide +kernel
theorem u_145_7 {G : aG} {S : Nat → Bool} {f : Nat} {st : List Value} {ls : aL} {h : aH} {k n : Nat} (hs : S 7 = false) : WP 145 G S (f + 1) 7 ls st h k n = (WP 145 G S f 11 ls st h k n) := by rw [wp_s dd_145_7 rfl hs]; rfl
theorem dd_145_10 : decode (mB 145) 10 = .ok (.iconst 0, 1) := by decide +kernel
theorem u_145_10 {G : aG} {S : Nat → Bool} {f : Nat} {st : List Value} {ls : aL} {h : aH} {k n : Nat} (hs : S 10 = false) : WP 145 G S (f + 1) 10 ls st h k n = (WP 145 G S f 11 ls (.int (nI 0) :: st) h k n) := by rw [wp_s dd_145_10 rfl hs]; rfl
theorem dd_145_11 : decode (mB 145) 11 = .ok (.ireturn, 1) := by decide +kernel
theorem u_145_11 {G : aG} {S : Nat → Bool} {f : Nat} {ls : aL} {h : aH} {k n : Nat} {x : Int32} (hs : S 11 = false) : WP 145 G S (f + 1) 11 ls [.int x] h k n = (cond (x == nI 0 || x == nI 1) (RET G (some (.int x)) h k n) False) := by rw [wp_s dd_145_11 rfl hs]; rfl
