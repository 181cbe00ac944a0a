/-! rows of 124 Model.isEmptyBy, 125 Model.leastLong, 126 Model.starts, 127 Model.due, 128 Model.goes, 129 Model.ends, 130 Model.readsLetter, 131 Model.isFirst, 132 Model.adds, 133 Model.rows, 134 Model.rowsOf -/
theorem dd_124_0 : decode (mB 124) 0 = .ok (.aload_n 0, 1) := by decide +kernel
theorem u_124_0 {G : aG} {S : Nat → Bool} {f : Nat} {st : List Value} {ls : aL} {h : aH} {k n : Nat} (hs : S 0 = false) : WP 124 G S (f + 1) 0 ls st h k n = (oA (lget ls 0) (WP 124 G S f) 1 ls st h k n) := by rw [wp_s dd_124_0 rfl hs]; rfl
theorem dd_124_1 : decode (mB 124) 1 = .ok (.getfield 19, 3) := by decide +kernel
theorem u_124_1 {G : aG} {S : Nat → Bool} {f : Nat} {st : List Value} {ls : aL} {h : aH} {k n : Nat} {a : Nat} (hs : S 1 = false) : WP 124 G S (f + 1) 1 ls (.ref a :: st) h k n = (oV (fget h a 10 5) (WP 124 G S f) 4 ls st h k n) := by rw [wp_s dd_124_1 rfl hs]; rfl
theorem dd_124_4 : decode (mB 124) 4 = .ok (.iload_n 1, 1) := by decide +kernel
theorem u_124_4 {G : aG} {S : Nat → Bool} {f : Nat} {st : List Value} {ls : aL} {h : aH} {k n : Nat} (hs : S 4 = false) : WP 124 G S (f + 1) 4 ls st h k n = (oI (lget ls 1) (WP 124 G S f) 5 ls st h k n) := by rw [wp_s dd_124_4 rfl hs]; rfl
theorem dd_124_5 : decode (mB 124) 5 = .ok (.iaload, 1) := by decide +kernel
theorem u_124_5 {G : aG} {S : Nat → Bool} {f : Nat} {st : List Value} {ls : aL} {h : aH} {k n : Nat} {i : Int32} {a : Nat} (hs : S 5 = false) : WP 124 G S (f + 1) 5 ls (.int i :: .ref a :: st) h k n = (oIld (iget h a 1) i (WP 124 G S f) 6 ls st h k n) := by rw [wp_s dd_124_5 rfl hs]; rfl
theorem dd_124_6 : decode (mB 124) 6 = .ok (.tableswitch 144 0 14 #[74, 144, 144, 144, 144, 144, 144, 144, 144, 76, 102, 76, 74, 74, 128], 74) := by decide +kernel
theorem u_124_6 {G : aG} {S : Nat → Bool} {f : Nat} {st : List Value} {ls : aL} {h : aH} {k n : Nat} {x : Int32} (hs : S 6 = false) : WP 124 G S (f + 1) 6 ls (.int x :: st) h k n = (if x = nI 0 then WP 124 G S f 80 ls st h k n else (if x = nI 1 then WP 124 G S f 150 ls st h k n else (if x = nI 2 then WP 124 G S f 150 ls st h k n else (if x = nI 3 then WP 124 G S f 150 ls st h k n else (if x = nI 4 then WP 124 G S f 150 ls st h k n else (if x = nI 5 then WP 124 G S f 150 ls st h k n else (if x = nI 6 then WP 124 G S f 150 ls st h k n else (if x = nI 7 then WP 124 G S f 150 ls st h k n else (if x = nI 8 then WP 124 G S f 150 ls st h k n else (if x = nI 9 then WP 124 G S f 82 ls st h k n else (if x = nI 10 then WP 124 G S f 108 ls st h k n else (if x = nI 11 then WP 124 G S f 82 ls st h k n else (if x = nI 12 then WP 124 G S f 80 ls st h k n else (if x = nI 13 then WP 124 G S f 80 ls st h k n else (if x = nI 14 then WP 124 G S f 134 ls st h k n else (WP 124 G S f 150 ls st h k n)))))))))))))))) := by rw [wp_s dd_124_6 rfl hs]; show WP 124 G S f (tgtT 6 0 14 [74, 144, 144, 144, 144, 144, 144, 144, 144, 76, 102, 76, 74, 74, 128] 144 x) ls st h k n = _; refine (ts_ite (K := fun q => WP 124 G S f q ls st h k n) (nI 0) rfl (by decide)).trans (if_cg ?_); refine (ts_ite (K := fun q => WP 124 G S f q ls st h k n) (nI 1) rfl (by decide)).trans (if_cg ?_); refine (ts_ite (K := fun q => WP 124 G S f q ls st h k n) (nI 2) rfl (by decide)).trans (if_cg ?_); refine (ts_ite (K := fun q => WP 124 G S f q ls st h k n) (nI 3) rfl (by decide)).trans (if_cg ?_); refine (ts_ite (K := fun q => WP 124 G S f q ls st h k n) (nI 4) rfl (by decide)).trans (if_cg ?_); refine (ts_ite (K := fun q => WP 124 G S f q ls st h k n) (nI 5) rfl (by decide)).trans (if_cg ?_); refine (ts_ite (K := fun q => WP 124 G S f q ls st h k n) (nI 6) rfl (by decide)).trans (if_cg ?_); refine (ts_ite (K := fun q => WP 124 G S f q ls st h k n) (nI 7) rfl (by decide)).trans (if_cg ?_); refine (ts_ite (K := fun q => WP 124 G S f q ls st h k n) (nI 8) rfl (by decide)).trans (if_cg ?_); refine (ts_ite (K := fun q => WP 124 G S f q ls st h k n) (nI 9) rfl (by decide)).trans (if_cg ?_); refine (ts_ite (K := fun q => WP 124 G S f q ls st h k n) (nI 10) rfl (by decide)).trans (if_cg ?_); refine (ts_ite (K := fun q => WP 124 G S f q ls st h k n) (nI 11) rfl (by decide)).trans (if_cg ?_); refine (ts_ite (K := fun q => WP 124 G S f q ls st h k n) (nI 12) rfl (by decide)).trans (if_cg ?_); refine (ts_ite (K := fun q => WP 124 G S f q ls st h k n) (nI 13) rfl (by decide)).trans (if_cg ?_); refine (ts_ite (K := fun q => WP 124 G S f q ls st h k n) (nI 14) rfl (by decide)).trans (if_cg ?_); exact ts_nil (K := fun q => WP 124 G S f q ls st h k n) (by decide)
theorem dd_124_80 : decode (mB 124) 80 = .ok (.iconst 1, 1) := by decide +kernel
theorem u_124_80 {G : aG} {S : Nat → Bool} {f : Nat} {st : List Value} {ls : aL} {h : aH} {k n : Nat} (hs : S 80 = false) : WP 124 G S (f + 1) 80 ls st h k n = (WP 124 G S f 81 ls (.int (nI 1) :: st) h k n) := by rw [wp_s dd_124_80 rfl hs]; rfl
theorem dd_124_81 : decode (mB 124) 81 = .ok (.ireturn, 1) := by decide +kernel
theorem u_124_81 {G : aG} {S : Nat → Bool} {f : Nat} {ls : aL} {h : aH} {k n : Nat} {x : Int32} (hs : S 81 = false) : WP 124 G S (f + 1) 81 ls [.int x] h k n = (cond (x == nI 0 || x == nI 1) (RET G (some (.int x)) h k n) False) := by rw [wp_s dd_124_81 rfl hs]; rfl
theorem dd_124_82 : decode (mB 124) 82 = .ok (.aload_n 0, 1) := by decide +kernel
theorem u_124_82 {G : aG} {S : Nat → Bool} {f : Nat} {st : List Value} {ls : aL} {h : aH} {k n : Nat} (hs : S 82 = false) : WP 124 G S (f + 1) 82 ls st h k n = (oA (lget ls 0) (WP 124 G S f) 83 ls st h k n) := by rw [wp_s dd_124_82 rfl hs]; rfl
theorem dd_124_83 : decode (mB 124) 83 = .ok (.getfield 37, 3) := by decide +kernel
theorem u_124_83 {G : aG} {S : Nat → Bool} {f : Nat} {st : List Value} {ls : aL} {h : aH} {k n : Nat} {a : Nat} (hs : S 83 = false) : WP 124 G S (f + 1) 83 ls (.ref a :: st) h k n = (oV (fget h a 10 11) (WP 124 G S f) 86 ls st h k n) := by rw [wp_s dd_124_83 rfl hs]; rfl
theorem dd_124_86 : decode (mB 124) 86 = .ok (.iload_n 2, 1) := by decide +kernel
theorem u_124_86 {G : aG} {S : Nat → Bool} {f : Nat} {st : List Value} {ls : aL} {h : aH} {k n : Nat} (hs : S 86 = false) : WP 124 G S (f + 1) 86 ls st h k n = (oI (lget ls 2) (WP 124 G S f) 87 ls st h k n) := by rw [wp_s dd_124_86 rfl hs]; rfl
theorem dd_124_87 : decode (mB 124) 87 = .ok (.iaload, 1) := by decide +kernel
theorem u_124_87 {G : aG} {S : Nat → Bool} {f : Nat} {st : List Value} {ls : aL} {h : aH} {k n : Nat} {i : Int32} {a : Nat} (hs : S 87 = false) : WP 124 G S (f + 1) 87 ls (.int i :: .ref a :: st) h k n = (oIld (iget h a 1) i (WP 124 G S f) 88 ls st h k n) := by rw [wp_s dd_124_87 rfl hs]; rfl
theorem dd_124_88 : decode (mB 124) 88 = .ok (.iconst 1, 1) := by decide +kernel
theorem u_124_88 {G : aG} {S : Nat → Bool} {f : Nat} {st : List Value} {ls : aL} {h : aH} {k n : Nat} (hs : S 88 = false) : WP 124 G S (f + 1) 88 ls st h k n = (WP 124 G S f 89 ls (.int (nI 1) :: st) h k n) := by rw [wp_s dd_124_88 rfl hs]; rfl
theorem dd_124_89 : decode (mB 124) 89 = .ok (.if_icmp .ne 17, 3) := by decide +kernel
theorem u_124_89 {G : aG} {S : Nat → Bool} {f : Nat} {st : List Value} {ls : aL} {h : aH} {k n : Nat} {x y : Int32} (hs : S 89 = false) : WP 124 G S (f + 1) 89 ls (.int y :: .int x :: st) h k n = (if x = y then WP 124 G S f 92 ls st h k n else WP 124 G S f 106 ls st h k n) := by rw [wp_s dd_124_89 rfl hs]; exact br_iten (c := x = y)
theorem dd_124_92 : decode (mB 124) 92 = .ok (.aload_n 0, 1) := by decide +kernel
theorem u_124_92 {G : aG} {S : Nat → Bool} {f : Nat} {st : List Value} {ls : aL} {h : aH} {k n : Nat} (hs : S 92 = false) : WP 124 G S (f + 1) 92 ls st h k n = (oA (lget ls 0) (WP 124 G S f) 93 ls st h k n) := by rw [wp_s dd_124_92 rfl hs]; rfl
theorem dd_124_93 : decode (mB 124) 93 = .ok (.getfield 37, 3) := by decide +kernel
theorem u_124_93 {G : aG} {S : Nat → Bool} {f : Nat} {st : List Value} {ls : aL} {h : aH} {k n : Nat} {a : Nat} (hs : S 93 = false) : WP 124 G S (f + 1) 93 ls (.ref a :: st) h k n = (oV (fget h a 10 11) (WP 124 G S f) 96 ls st h k n) := by rw [wp_s dd_124_93 rfl hs]; rfl
theorem dd_124_96 : decode (mB 124) 96 = .ok (.iload_n 3, 1) := by decide +kernel
theorem u_124_96 {G : aG} {S : Nat → Bool} {f : Nat} {st : List Value} {ls : aL} {h : aH} {k n : Nat} (hs : S 96 = false) : WP 124 G S (f + 1) 96 ls st h k n = (oI (lget ls 3) (WP 124 G S f) 97 ls st h k n) := by rw [wp_s dd_124_96 rfl hs]; rfl
theorem dd_124_97 : decode (mB 124) 97 = .ok (.iaload, 1) := by decide +kernel
theorem u_124_97 {G : aG} {S : Nat → Bool} {f : Nat} {st : List Value} {ls : aL} {h : aH} {k n : Nat} {i : Int32} {a : Nat} (hs : S 97 = false) : WP 124 G S (f + 1) 97 ls (.int i :: .ref a :: st) h k n = (oIld (iget h a 1) i (WP 124 G S f) 98 ls st h k n) := by rw [wp_s dd_124_97 rfl hs]; rfl
theorem dd_124_98 : decode (mB 124) 98 = .ok (.iconst 1, 1) := by decide +kernel
theorem u_124_98 {G : aG} {S : Nat → Bool} {f : Nat} {st : List Value} {ls : aL} {h : aH} {k n : Nat} (hs : S 98 = false) : WP 124 G S (f + 1) 98 ls st h k n = (WP 124 G S f 99 ls (.int (nI 1) :: st) h k n) := by rw [wp_s dd_124_98 rfl hs]; rfl
theorem dd_124_99 : decode (mB 124) 99 = .ok (.if_icmp .ne 7, 3) := by decide +kernel
theorem u_124_99 {G : aG} {S : Nat → Bool} {f : Nat} {st : List Value} {ls : aL} {h : aH} {k n : Nat} {x y : Int32} (hs : S 99 = false) : WP 124 G S (f + 1) 99 ls (.int y :: .int x :: st) h k n = (if x = y then WP 124 G S f 102 ls st h k n else WP 124 G S f 106 ls st h k n) := by rw [wp_s dd_124_99 rfl hs]; exact br_iten (c := x = y)
theorem dd_124_102 : decode (mB 124) 102 = .ok (.iconst 1, 1) := by decide +kernel
theorem u_124_102 {G : aG} {S : Nat → Bool} {f : Nat} {st : List Value} {ls : aL} {h : aH} {k n : Nat} (hs : S 102 = false) : WP 124 G S (f + 1) 102 ls st h k n = (WP 124 G S f 103 ls (.int (nI 1) :: st) h k n) := by rw [wp_s dd_124_102 rfl hs]; rfl
theorem dd_124_103 : decode (mB 124) 103 = .ok (.goto 4, 3) := by decide +kernel
theorem u_124_103 {G : aG} {S : Nat → Bool} {f : Nat} {st : List Value} {ls : aL} {h : aH} {k n : Nat} (hs : S 103 = false) : WP 124 G S (f + 1) 103 ls st h k n = (WP 124 G S f 107 ls st h k n) := by rw [wp_s dd_124_103 rfl hs]; rfl
theorem dd_124_106 : decode (mB 124) 106 = .ok (.iconst 0, 1) := by decide +kernel
theorem u_124_106 {G : aG} {S : Nat → Bool} {f : Nat} {st : List Value} {ls : aL} {h : aH} {k n : Nat} (hs : S 106 = false) : WP 124 G S (f + 1) 106 ls st h k n = (WP 124 G S f 107 ls (.int (nI 0) :: st) h k n) := by rw [wp_s dd_124_106 rfl hs]; rfl
theorem dd_124_107 : decode (mB 124) 107 = .ok (.ireturn, 1) := by decide +kernel
theorem u_124_107 {G : aG} {S : Nat → Bool} {f : Nat} {ls : aL} {h : aH} {k n : Nat} {x : Int32} (hs : S 107 = false) : WP 124 G S (f + 1) 107 ls [.int x] h k n = (cond (x == nI 0 || x == nI 1) (RET G (some (.int x)) h k n) False) := by rw [wp_s dd_124_107 rfl hs]; rfl
theorem dd_124_108 : decode (mB 124) 108 = .ok (.aload_n 0, 1) := by decide +kernel
theorem u_124_108 {G : aG} {S : Nat → Bool} {f : Nat} {st : List Value} {ls : aL} {h : aH} {k n : Nat} (hs : S 108 = false) : WP 124 G S (f + 1) 108 ls st h k n = (oA (lget ls 0) (WP 124 G S f) 109 ls st h k n) := by rw [wp_s dd_124_108 rfl hs]; rfl
theorem dd_124_109 : decode (mB 124) 109 = .ok (.getfield 37, 3) := by decide +kernel
theorem u_124_109 {G : aG} {S : Nat → Bool} {f : Nat} {st : List Value} {ls : aL} {h : aH} {k n : Nat} {a : Nat} (hs : S 109 = false) : WP 124 G S (f + 1) 109 ls (.ref a :: st) h k n = (oV (fget h a 10 11) (WP 124 G S f) 112 ls st h k n) := by rw [wp_s dd_124_109 rfl hs]; rfl
theorem dd_124_112 : decode (mB 124) 112 = .ok (.iload_n 2, 1) := by decide +kernel
theorem u_124_112 {G : aG} {S : Nat → Bool} {f : Nat} {st : List Value} {ls : aL} {h : aH} {k n : Nat} (hs : S 112 = false) : WP 124 G S (f + 1) 112 ls st h k n = (oI (lget ls 2) (WP 124 G S f) 113 ls st h k n) := by rw [wp_s dd_124_112 rfl hs]; rfl
theorem dd_124_113 : decode (mB 124) 113 = .ok (.iaload, 1) := by decide +kernel
theorem u_124_113 {G : aG} {S : Nat → Bool} {f : Nat} {st : List Value} {ls : aL} {h : aH} {k n : Nat} {i : Int32} {a : Nat} (hs : S 113 = false) : WP 124 G S (f + 1) 113 ls (.int i :: .ref a :: st) h k n = (oIld (iget h a 1) i (WP 124 G S f) 114 ls st h k n) := by rw [wp_s dd_124_113 rfl hs]; rfl
theorem dd_124_114 : decode (mB 124) 114 = .ok (.iconst 1, 1) := by decide +kernel
theorem u_124_114 {G : aG} {S : Nat → Bool} {f : Nat} {st : List Value} {ls : aL} {h : aH} {k n : Nat} (hs : S 114 = false) : WP 124 G S (f + 1) 114 ls st h k n = (WP 124 G S f 115 ls (.int (nI 1) :: st) h k n) := by rw [wp_s dd_124_114 rfl hs]; rfl
theorem dd_124_115 : decode (mB 124) 115 = .ok (.if_icmp .eq 13, 3) := by decide +kernel
theorem u_124_115 {G : aG} {S : Nat → Bool} {f : Nat} {st : List Value} {ls : aL} {h : aH} {k n : Nat} {x y : Int32} (hs : S 115 = false) : WP 124 G S (f + 1) 115 ls (.int y :: .int x :: st) h k n = (if x = y then WP 124 G S f 128 ls st h k n else WP 124 G S f 118 ls st h k n) := by rw [wp_s dd_124_115 rfl hs]; exact br_ite (c := x = y)
theorem dd_124_118 : decode (mB 124) 118 = .ok (.aload_n 0, 1) := by decide +kernel
theorem u_124_118 {G : aG} {S : Nat → Bool} {f : Nat} {st : List Value} {ls : aL} {h : aH} {k n : Nat} (hs : S 118 = false) : WP 124 G S (f + 1) 118 ls st h k n = (oA (lget ls 0) (WP 124 G S f) 119 ls st h k n) := by rw [wp_s dd_124_118 rfl hs]; rfl
theorem dd_124_119 : decode (mB 124) 119 = .ok (.getfield 37, 3) := by decide +kernel
theorem u_124_119 {G : aG} {S : Nat → Bool} {f : Nat} {st : List Value} {ls : aL} {h : aH} {k n : Nat} {a : Nat} (hs : S 119 = false) : WP 124 G S (f + 1) 119 ls (.ref a :: st) h k n = (oV (fget h a 10 11) (WP 124 G S f) 122 ls st h k n) := by rw [wp_s dd_124_119 rfl hs]; rfl
theorem dd_124_122 : decode (mB 124) 122 = .ok (.iload_n 3, 1) := by decide +kernel
theorem u_124_122 {G : aG} {S : Nat → Bool} {f : Nat} {st : List Value} {ls : aL} {h : aH} {k n : Nat} (hs : S 122 = false) : WP 124 G S (f + 1) 122 ls st h k n = (oI (lget ls 3) (WP 124 G S f) 123 ls st h k n) := by rw [wp_s dd_124_122 rfl hs]; rfl
theorem dd_124_123 : decode (mB 124) 123 = .ok (.iaload, 1) := by decide +kernel
theorem u_124_123 {G : aG} {S : Nat → Bool} {f : Nat} {st : List Value} {ls : aL} {h : aH} {k n : Nat} {i : Int32} {a : Nat} (hs : S 123 = false) : WP 124 G S (f + 1) 123 ls (.int i :: .ref a :: st) h k n = (oIld (iget h a 1) i (WP 124 G S f) 124 ls st h k n) := by rw [wp_s dd_124_123 rfl hs]; rfl
theorem dd_124_124 : decode (mB 124) 124 = .ok (.iconst 1, 1) := by decide +kernel
theorem u_124_124 {G : aG} {S : Nat → Bool} {f : Nat} {st : List Value} {ls : aL} {h : aH} {k n : Nat} (hs : S 124 = false) : WP 124 G S (f + 1) 124 ls st h k n = (WP 124 G S f 125 ls (.int (nI 1) :: st) h k n) := by rw [wp_s dd_124_124 rfl hs]; rfl
theorem dd_124_125 : decode (mB 124) 125 = .ok (.if_icmp .ne 7, 3) := by decide +kernel
theorem u_124_125 {G : aG} {S : Nat → Bool} {f : Nat} {st : List Value} {ls : aL} {h : aH} {k n : Nat} {x y : Int32} (hs : S 125 = false) : WP 124 G S (f + 1) 125 ls (.int y :: .int x :: st) h k n = (if x = y then WP 124 G S f 128 ls st h k n else WP 124 G S f 132 ls st h k n) := by rw [wp_s dd_124_125 rfl hs]; exact br_iten (c := x = y)
theorem dd_124_128 : decode (mB 124) 128 = .ok (.iconst 1, 1) := by decide +kernel
theorem u_124_128 {G : aG} {S : Nat → Bool} {f : Nat} {st : List Value} {ls : aL} {h : aH} {k n : Nat} (hs : S 128 = false) : WP 124 G S (f + 1) 128 ls st h k n = (WP 124 G S f 129 ls (.int (nI 1) :: st) h k n) := by rw [wp_s dd_124_128 rfl hs]; rfl
theorem dd_124_129 : decode (mB 124) 129 = .ok (.goto 4, 3) := by decide +kernel
theorem u_124_129 {G : aG} {S : Nat → Bool} {f : Nat} {st : List Value} {ls : aL} {h : aH} {k n : Nat} (hs : S 129 = false) : WP 124 G S (f + 1) 129 ls st h k n = (WP 124 G S f 133 ls st h k n) := by rw [wp_s dd_124_129 rfl hs]; rfl
theorem dd_124_132 : decode (mB 124) 132 = .ok (.iconst 0, 1) := by decide +kernel
theorem u_124_132 {G : aG} {S : Nat → Bool} {f : Nat} {st : List Value} {ls : aL} {h : aH} {k n : Nat} (hs : S 132 = false) : WP 124 G S (f + 1) 132 ls st h k n = (WP 124 G S f 133 ls (.int (nI 0) :: st) h k n) := by rw [wp_s dd_124_132 rfl hs]; rfl
theorem dd_124_133 : decode (mB 124) 133 = .ok (.ireturn, 1) := by decide +kernel
theorem u_124_133 {G : aG} {S : Nat → Bool} {f : Nat} {ls : aL} {h : aH} {k n : Nat} {x : Int32} (hs : S 133 = false) : WP 124 G S (f + 1) 133 ls [.int x] h k n = (cond (x == nI 0 || x == nI 1) (RET G (some (.int x)) h k n) False) := by rw [wp_s dd_124_133 rfl hs]; rfl
theorem dd_124_134 : decode (mB 124) 134 = .ok (.aload_n 0, 1) := by decide +kernel
theorem u_124_134 {G : aG} {S : Nat → Bool} {f : Nat} {st : List Value} {ls : aL} {h : aH} {k n : Nat} (hs : S 134 = false) : WP 124 G S (f + 1) 134 ls st h k n = (oA (lget ls 0) (WP 124 G S f) 135 ls st h k n) := by rw [wp_s dd_124_134 rfl hs]; rfl
theorem dd_124_135 : decode (mB 124) 135 = .ok (.getfield 37, 3) := by decide +kernel
theorem u_124_135 {G : aG} {S : Nat → Bool} {f : Nat} {st : List Value} {ls : aL} {h : aH} {k n : Nat} {a : Nat} (hs : S 135 = false) : WP 124 G S (f + 1) 135 ls (.ref a :: st) h k n = (oV (fget h a 10 11) (WP 124 G S f) 138 ls st h k n) := by rw [wp_s dd_124_135 rfl hs]; rfl
theorem dd_124_138 : decode (mB 124) 138 = .ok (.iload_n 2, 1) := by decide +kernel
theorem u_124_138 {G : aG} {S : Nat → Bool} {f : Nat} {st : List Value} {ls : aL} {h : aH} {k n : Nat} (hs : S 138 = false) : WP 124 G S (f + 1) 138 ls st h k n = (oI (lget ls 2) (WP 124 G S f) 139 ls st h k n) := by rw [wp_s dd_124_138 rfl hs]; rfl
theorem dd_124_139 : decode (mB 124) 139 = .ok (.iaload, 1) := by decide +kernel
theorem u_124_139 {G : aG} {S : Nat → Bool} {f : Nat} {st : List Value} {ls : aL} {h : aH} {k n : Nat} {i : Int32} {a : Nat} (hs : S 139 = false) : WP 124 G S (f + 1) 139 ls (.int i :: .ref a :: st) h k n = (oIld (iget h a 1) i (WP 124 G S f) 140 ls st h k n) := by rw [wp_s dd_124_139 rfl hs]; rfl
theorem dd_124_140 : decode (mB 124) 140 = .ok (.iconst 1, 1) := by decide +kernel
theorem u_124_140 {G : aG} {S : Nat → Bool} {f : Nat} {st : List Value} {ls : aL} {h : aH} {k n : Nat} (hs : S 140 = false) : WP 124 G S (f + 1) 140 ls st h k n = (WP 124 G S f 141 ls (.int (nI 1) :: st) h k n) := by rw [wp_s dd_124_140 rfl hs]; rfl
theorem dd_124_141 : decode (mB 124) 141 = .ok (.if_icmp .ne 7, 3) := by decide +kernel
theorem u_124_141 {G : aG} {S : Nat → Bool} {f : Nat} {st : List Value} {ls : aL} {h : aH} {k n : Nat} {x y : Int32} (hs : S 141 = false) : WP 124 G S (f + 1) 141 ls (.int y :: .int x :: st) h k n = (if x = y then WP 124 G S f 144 ls st h k n else WP 124 G S f 148 ls st h k n) := by rw [wp_s dd_124_141 rfl hs]; exact br_iten (c := x = y)
theorem dd_124_144 : decode (mB 124) 144 = .ok (.iconst 1, 1) := by decide +kernel
theorem u_124_144 {G : aG} {S : Nat → Bool} {f : Nat} {st : List Value} {ls : aL} {h : aH} {k n : Nat} (hs : S 144 = false) : WP 124 G S (f + 1) 144 ls st h k n = (WP 124 G S f 145 ls (.int (nI 1) :: st) h k n) := by rw [wp_s dd_124_144 rfl hs]; rfl
theorem dd_124_145 : decode (mB 124) 145 = .ok (.goto 4, 3) := by decide +kernel
theorem u_124_145 {G : aG} {S : Nat → Bool} {f : Nat} {st : List Value} {ls : aL} {h : aH} {k n : Nat} (hs : S 145 = false) : WP 124 G S (f + 1) 145 ls st h k n = (WP 124 G S f 149 ls st h k n) := by rw [wp_s dd_124_145 rfl hs]; rfl
theorem dd_124_148 : decode (mB 124) 148 = .ok (.iconst 0, 1) := by decide +kernel
theorem u_124_148 {G : aG} {S : Nat → Bool} {f : Nat} {st : List Value} {ls : aL} {h : aH} {k n : Nat} (hs : S 148 = false) : WP 124 G S (f + 1) 148 ls st h k n = (WP 124 G S f 149 ls (.int (nI 0) :: st) h k n) := by rw [wp_s dd_124_148 rfl hs]; rfl
theorem dd_124_149 : decode (mB 124) 149 = .ok (.ireturn, 1) := by decide +kernel
theorem u_124_149 {G : aG} {S : Nat → Bool} {f : Nat} {ls : aL} {h : aH} {k n : Nat} {x : Int32} (hs : S 149 = false) : WP 124 G S (f + 1) 149 ls [.int x] h k n = (cond (x == nI 0 || x == nI 1) (RET G (some (.int x)) h k n) False) := by rw [wp_s dd_124_149 rfl hs]; rfl
theorem dd_124_150 : decode (mB 124) 150 = .ok (.iconst 0, 1) := by decide +kernel
theorem u_124_150 {G : aG} {S : Nat → Bool} {f : Nat} {st : List Value} {ls : aL} {h : aH} {k n : Nat} (hs : S 150 = false) : WP 124 G S (f + 1) 150 ls st h k n = (WP 124 G S f 151 ls (.int (nI 0) :: st) h k n) := by rw [wp_s dd_124_150 rfl hs]; rfl
theorem dd_124_151 : decode (mB 124) 151 = .ok (.ireturn, 1) := by decide +kernel
theorem u_124_151 {G : aG} {S : Nat → Bool} {f : Nat} {ls : aL} {h : aH} {k n : Nat} {x : Int32} (hs : S 151 = false) : WP 124 G S (f + 1) 151 ls [.int x] h k n = (cond (x == nI 0 || x == nI 1) (RET G (some (.int x)) h k n) False) := by rw [wp_s dd_124_151 rfl hs]; rfl
theorem dd_125_0 : decode (mB 125) 0 = .ok (.iconst 0, 1) := by decide +kernel
theorem u_125_0 {G : aG} {S : Nat → Bool} {f : Nat} {st : List Value} {ls : aL} {h : aH} {k n : Nat} (hs : S 0 = false) : WP 125 G S (f + 1) 0 ls st h k n = (WP 125 G S f 1 ls (.int (nI 0) :: st) h k n) := by rw [wp_s dd_125_0 rfl hs]; rfl
theorem dd_125_1 : decode (mB 125) 1 = .ok (.istore_n 1, 1) := by decide +kernel
theorem u_125_1 {G : aG} {S : Nat → Bool} {f : Nat} {st : List Value} {ls : aL} {h : aH} {k n : Nat} {x : Int32} (hs : S 1 = false) : WP 125 G S (f + 1) 1 ls (.int x :: st) h k n = (WP 125 G S f 2 (lput1 ls 1 (.int x)) st h k n) := by rw [wp_s dd_125_1 rfl hs]; rfl
theorem dd_125_2 : decode (mB 125) 2 = .ok (.iload_n 1, 1) := by decide +kernel
theorem u_125_2 {G : aG} {S : Nat → Bool} {f : Nat} {st : List Value} {ls : aL} {h : aH} {k n : Nat} (hs : S 2 = false) : WP 125 G S (f + 1) 2 ls st h k n = (oI (lget ls 1) (WP 125 G S f) 3 ls st h k n) := by rw [wp_s dd_125_2 rfl hs]; rfl
theorem v_125_2 {G : aG} {S : Nat → Bool} {f : Nat} {st : List Value} {ls : aL} {h : aH} {k n : Nat} : WQ 125 G S f 2 ls st h k n = (oI (lget ls 1) (WP 125 G S f) 3 ls st h k n) := by rw [wq_s dd_125_2 rfl]; rfl
theorem dd_125_3 : decode (mB 125) 3 = .ok (.aload_n 0, 1) := by decide +kernel
theorem u_125_3 {G : aG} {S : Nat → Bool} {f : Nat} {st : List Value} {ls : aL} {h : aH} {k n : Nat} (hs : S 3 = false) : WP 125 G S (f + 1) 3 ls st h k n = (oA (lget ls 0) (WP 125 G S f) 4 ls st h k n) := by rw [wp_s dd_125_3 rfl hs]; rfl
theorem dd_125_4 : decode (mB 125) 4 = .ok (.getfield 81, 3) := by decide +kernel
theorem u_125_4 {G : aG} {S : Nat → Bool} {f : Nat} {st : List Value} {ls : aL} {h : aH} {k n : Nat} {a : Nat} (hs : S 4 = false) : WP 125 G S (f + 1) 4 ls (.ref a :: st) h k n = (oV (fget h a 10 4) (WP 125 G S f) 7 ls st h k n) := by rw [wp_s dd_125_4 rfl hs]; rfl
theorem dd_125_7 : decode (mB 125) 7 = .ok (.if_icmp .ge 201, 3) := by decide +kernel
theorem u_125_7 {G : aG} {S : Nat → Bool} {f : Nat} {st : List Value} {ls : aL} {h : aH} {k n : Nat} {x y : Int32} (hs : S 7 = false) : WP 125 G S (f + 1) 7 ls (.int y :: .int x :: st) h k n = (if y ≤ x then WP 125 G S f 208 ls st h k n else WP 125 G S f 10 ls st h k n) := by rw [wp_s dd_125_7 rfl hs]; exact br_ite (c := y ≤ x)
theorem dd_125_10 : decode (mB 125) 10 = .ok (.aload_n 0, 1) := by decide +kernel
theorem u_125_10 {G : aG} {S : Nat → Bool} {f : Nat} {st : List Value} {ls : aL} {h : aH} {k n : Nat} (hs : S 10 = false) : WP 125 G S (f + 1) 10 ls st h k n = (oA (lget ls 0) (WP 125 G S f) 11 ls st h k n) := by rw [wp_s dd_125_10 rfl hs]; rfl
theorem dd_125_11 : decode (mB 125) 11 = .ok (.getfield 22, 3) := by decide +kernel
theorem u_125_11 {G : aG} {S : Nat → Bool} {f : Nat} {st : List Value} {ls : aL} {h : aH} {k n : Nat} {a : Nat} (hs : S 11 = false) : WP 125 G S (f + 1) 11 ls (.ref a :: st) h k n = (oV (fget h a 10 6) (WP 125 G S f) 14 ls st h k n) := by rw [wp_s dd_125_11 rfl hs]; rfl
theorem dd_125_14 : decode (mB 125) 14 = .ok (.iload_n 1, 1) := by decide +kernel
theorem u_125_14 {G : aG} {S : Nat → Bool} {f : Nat} {st : List Value} {ls : aL} {h : aH} {k n : Nat} (hs : S 14 = false) : WP 125 G S (f + 1) 14 ls st h k n = (oI (lget ls 1) (WP 125 G S f) 15 ls st h k n) := by rw [wp_s dd_125_14 rfl hs]; rfl
theorem dd_125_15 : decode (mB 125) 15 = .ok (.iaload, 1) := by decide +kernel
theorem u_125_15 {G : aG} {S : Nat → Bool} {f : Nat} {st : List Value} {ls : aL} {h : aH} {k n : Nat} {i : Int32} {a : Nat} (hs : S 15 = false) : WP 125 G S (f + 1) 15 ls (.int i :: .ref a :: st) h k n = (oIld (iget h a 1) i (WP 125 G S f) 16 ls st h k n) := by rw [wp_s dd_125_15 rfl hs]; rfl
theorem dd_125_16 : decode (mB 125) 16 = .ok (.iconst (-1), 1) := by decide +kernel
theorem u_125_16 {G : aG} {S : Nat → Bool} {f : Nat} {st : List Value} {ls : aL} {h : aH} {k n : Nat} (hs : S 16 = false) : WP 125 G S (f + 1) 16 ls st h k n = (WP 125 G S f 17 ls (.int (-1) :: st) h k n) := by rw [wp_s dd_125_16 rfl hs]; rfl
theorem dd_125_17 : decode (mB 125) 17 = .ok (.if_icmp .ne 7, 3) := by decide +kernel
theorem u_125_17 {G : aG} {S : Nat → Bool} {f : Nat} {st : List Value} {ls : aL} {h : aH} {k n : Nat} {x y : Int32} (hs : S 17 = false) : WP 125 G S (f + 1) 17 ls (.int y :: .int x :: st) h k n = (if x = y then WP 125 G S f 20 ls st h k n else WP 125 G S f 24 ls st h k n) := by rw [wp_s dd_125_17 rfl hs]; exact br_iten (c := x = y)
theorem dd_125_20 : decode (mB 125) 20 = .ok (.iconst 0, 1) := by decide +kernel
theorem u_125_20 {G : aG} {S : Nat → Bool} {f : Nat} {st : List Value} {ls : aL} {h : aH} {k n : Nat} (hs : S 20 = false) : WP 125 G S (f + 1) 20 ls st h k n = (WP 125 G S f 21 ls (.int (nI 0) :: st) h k n) := by rw [wp_s dd_125_20 rfl hs]; rfl
theorem dd_125_21 : decode (mB 125) 21 = .ok (.goto 14, 3) := by decide +kernel
theorem u_125_21 {G : aG} {S : Nat → Bool} {f : Nat} {st : List Value} {ls : aL} {h : aH} {k n : Nat} (hs : S 21 = false) : WP 125 G S (f + 1) 21 ls st h k n = (WP 125 G S f 35 ls st h k n) := by rw [wp_s dd_125_21 rfl hs]; rfl
theorem dd_125_24 : decode (mB 125) 24 = .ok (.aload_n 0, 1) := by decide +kernel
theorem u_125_24 {G : aG} {S : Nat → Bool} {f : Nat} {st : List Value} {ls : aL} {h : aH} {k n : Nat} (hs : S 24 = false) : WP 125 G S (f + 1) 24 ls st h k n = (oA (lget ls 0) (WP 125 G S f) 25 ls st h k n) := by rw [wp_s dd_125_24 rfl hs]; rfl
theorem dd_125_25 : decode (mB 125) 25 = .ok (.getfield 61, 3) := by decide +kernel
theorem u_125_25 {G : aG} {S : Nat → Bool} {f : Nat} {st : List Value} {ls : aL} {h : aH} {k n : Nat} {a : Nat} (hs : S 25 = false) : WP 125 G S (f + 1) 25 ls (.ref a :: st) h k n = (oV (fget h a 10 25) (WP 125 G S f) 28 ls st h k n) := by rw [wp_s dd_125_25 rfl hs]; rfl
theorem dd_125_28 : decode (mB 125) 28 = .ok (.aload_n 0, 1) := by decide +kernel
theorem u_125_28 {G : aG} {S : Nat → Bool} {f : Nat} {st : List Value} {ls : aL} {h : aH} {k n : Nat} (hs : S 28 = false) : WP 125 G S (f + 1) 28 ls st h k n = (oA (lget ls 0) (WP 125 G S f) 29 ls st h k n) := by rw [wp_s dd_125_28 rfl hs]; rfl
theorem dd_125_29 : decode (mB 125) 29 = .ok (.getfield 22, 3) := by decide +kernel
theorem u_125_29 {G : aG} {S : Nat → Bool} {f : Nat} {st : List Value} {ls : aL} {h : aH} {k n : Nat} {a : Nat} (hs : S 29 = false) : WP 125 G S (f + 1) 29 ls (.ref a :: st) h k n = (oV (fget h a 10 6) (WP 125 G S f) 32 ls st h k n) := by rw [wp_s dd_125_29 rfl hs]; rfl
theorem dd_125_32 : decode (mB 125) 32 = .ok (.iload_n 1, 1) := by decide +kernel
theorem u_125_32 {G : aG} {S : Nat → Bool} {f : Nat} {st : List Value} {ls : aL} {h : aH} {k n : Nat} (hs : S 32 = false) : WP 125 G S (f + 1) 32 ls st h k n = (oI (lget ls 1) (WP 125 G S f) 33 ls st h k n) := by rw [wp_s dd_125_32 rfl hs]; rfl
theorem dd_125_33 : decode (mB 125) 33 = .ok (.iaload, 1) := by decide +kernel
theorem u_125_33 {G : aG} {S : Nat → Bool} {f : Nat} {st : List Value} {ls : aL} {h : aH} {k n : Nat} {i : Int32} {a : Nat} (hs : S 33 = false) : WP 125 G S (f + 1) 33 ls (.int i :: .ref a :: st) h k n = (oIld (iget h a 1) i (WP 125 G S f) 34 ls st h k n) := by rw [wp_s dd_125_33 rfl hs]; rfl
theorem dd_125_34 : decode (mB 125) 34 = .ok (.iaload, 1) := by decide +kernel
theorem u_125_34 {G : aG} {S : Nat → Bool} {f : Nat} {st : List Value} {ls : aL} {h : aH} {k n : Nat} {i : Int32} {a : Nat} (hs : S 34 = false) : WP 125 G S (f + 1) 34 ls (.int i :: .ref a :: st) h k n = (oIld (iget h a 1) i (WP 125 G S f) 35 ls st h k n) := by rw [wp_s dd_125_34 rfl hs]; rfl
theorem dd_125_35 : decode (mB 125) 35 = .ok (.istore_n 2, 1) := by decide +kernel
theorem u_125_35 {G : aG} {S : Nat → Bool} {f : Nat} {st : List Value} {ls : aL} {h : aH} {k n : Nat} {x : Int32} (hs : S 35 = false) : WP 125 G S (f + 1) 35 ls (.int x :: st) h k n = (WP 125 G S f 36 (lput1 ls 2 (.int x)) st h k n) := by rw [wp_s dd_125_35 rfl hs]; rfl
theorem dd_125_36 : decode (mB 125) 36 = .ok (.aload_n 0, 1) := by decide +kernel
theorem u_125_36 {G : aG} {S : Nat → Bool} {f : Nat} {st : List Value} {ls : aL} {h : aH} {k n : Nat} (hs : S 36 = false) : WP 125 G S (f + 1) 36 ls st h k n = (oA (lget ls 0) (WP 125 G S f) 37 ls st h k n) := by rw [wp_s dd_125_36 rfl hs]; rfl
theorem dd_125_37 : decode (mB 125) 37 = .ok (.getfield 25, 3) := by decide +kernel
theorem u_125_37 {G : aG} {S : Nat → Bool} {f : Nat} {st : List Value} {ls : aL} {h : aH} {k n : Nat} {a : Nat} (hs : S 37 = false) : WP 125 G S (f + 1) 37 ls (.ref a :: st) h k n = (oV (fget h a 10 7) (WP 125 G S f) 40 ls st h k n) := by rw [wp_s dd_125_37 rfl hs]; rfl
theorem dd_125_40 : decode (mB 125) 40 = .ok (.iload_n 1, 1) := by decide +kernel
theorem u_125_40 {G : aG} {S : Nat → Bool} {f : Nat} {st : List Value} {ls : aL} {h : aH} {k n : Nat} (hs : S 40 = false) : WP 125 G S (f + 1) 40 ls st h k n = (oI (lget ls 1) (WP 125 G S f) 41 ls st h k n) := by rw [wp_s dd_125_40 rfl hs]; rfl
theorem dd_125_41 : decode (mB 125) 41 = .ok (.iaload, 1) := by decide +kernel
theorem u_125_41 {G : aG} {S : Nat → Bool} {f : Nat} {st : List Value} {ls : aL} {h : aH} {k n : Nat} {i : Int32} {a : Nat} (hs : S 41 = false) : WP 125 G S (f + 1) 41 ls (.int i :: .ref a :: st) h k n = (oIld (iget h a 1) i (WP 125 G S f) 42 ls st h k n) := by rw [wp_s dd_125_41 rfl hs]; rfl
theorem dd_125_42 : decode (mB 125) 42 = .ok (.iconst (-1), 1) := by decide +kernel
theorem u_125_42 {G : aG} {S : Nat → Bool} {f : Nat} {st : List Value} {ls : aL} {h : aH} {k n : Nat} (hs : S 42 = false) : WP 125 G S (f + 1) 42 ls st h k n = (WP 125 G S f 43 ls (.int (-1) :: st) h k n) := by rw [wp_s dd_125_42 rfl hs]; rfl
theorem dd_125_43 : decode (mB 125) 43 = .ok (.if_icmp .ne 7, 3) := by decide +kernel
theorem u_125_43 {G : aG} {S : Nat → Bool} {f : Nat} {st : List Value} {ls : aL} {h : aH} {k n : Nat} {x y : Int32} (hs : S 43 = false) : WP 125 G S (f + 1) 43 ls (.int y :: .int x :: st) h k n = (if x = y then WP 125 G S f 46 ls st h k n else WP 125 G S f 50 ls st h k n) := by rw [wp_s dd_125_43 rfl hs]; exact br_iten (c := x = y)
theorem dd_125_46 : decode (mB 125) 46 = .ok (.iconst 0, 1) := by decide +kernel
theorem u_125_46 {G : aG} {S : Nat → Bool} {f : Nat} {st : List Value} {ls : aL} {h : aH} {k n : Nat} (hs : S 46 = false) : WP 125 G S (f + 1) 46 ls st h k n = (WP 125 G S f 47 ls (.int (nI 0) :: st) h k n) := by rw [wp_s dd_125_46 rfl hs]; rfl
theorem dd_125_47 : decode (mB 125) 47 = .ok (.goto 14, 3) := by decide +kernel
theorem u_125_47 {G : aG} {S : Nat → Bool} {f : Nat} {st : List Value} {ls : aL} {h : aH} {k n : Nat} (hs : S 47 = false) : WP 125 G S (f + 1) 47 ls st h k n = (WP 125 G S f 61 ls st h k n) := by rw [wp_s dd_125_47 rfl hs]; rfl
theorem dd_125_50 : decode (mB 125) 50 = .ok (.aload_n 0, 1) := by decide +kernel
theorem u_125_50 {G : aG} {S : Nat → Bool} {f : Nat} {st : List Value} {ls : aL} {h : aH} {k n : Nat} (hs : S 50 = false) : WP 125 G S (f + 1) 50 ls st h k n = (oA (lget ls 0) (WP 125 G S f) 51 ls st h k n) := by rw [wp_s dd_125_50 rfl hs]; rfl
theorem dd_125_51 : decode (mB 125) 51 = .ok (.getfield 61, 3) := by decide +kernel
theorem u_125_51 {G : aG} {S : Nat → Bool} {f : Nat} {st : List Value} {ls : aL} {h : aH} {k n : Nat} {a : Nat} (hs : S 51 = false) : WP 125 G S (f + 1) 51 ls (.ref a :: st) h k n = (oV (fget h a 10 25) (WP 125 G S f) 54 ls st h k n) := by rw [wp_s dd_125_51 rfl hs]; rfl
theorem dd_125_54 : decode (mB 125) 54 = .ok (.aload_n 0, 1) := by decide +kernel
theorem u_125_54 {G : aG} {S : Nat → Bool} {f : Nat} {st : List Value} {ls : aL} {h : aH} {k n : Nat} (hs : S 54 = false) : WP 125 G S (f + 1) 54 ls st h k n = (oA (lget ls 0) (WP 125 G S f) 55 ls st h k n) := by rw [wp_s dd_125_54 rfl hs]; rfl
theorem dd_125_55 : decode (mB 125) 55 = .ok (.getfield 25, 3) := by decide +kernel
theorem u_125_55 {G : aG} {S : Nat → Bool} {f : Nat} {st : List Value} {ls : aL} {h : aH} {k n : Nat} {a : Nat} (hs : S 55 = false) : WP 125 G S (f + 1) 55 ls (.ref a :: st) h k n = (oV (fget h a 10 7) (WP 125 G S f) 58 ls st h k n) := by rw [wp_s dd_125_55 rfl hs]; rfl
theorem dd_125_58 : decode (mB 125) 58 = .ok (.iload_n 1, 1) := by decide +kernel
theorem u_125_58 {G : aG} {S : Nat → Bool} {f : Nat} {st : List Value} {ls : aL} {h : aH} {k n : Nat} (hs : S 58 = false) : WP 125 G S (f + 1) 58 ls st h k n = (oI (lget ls 1) (WP 125 G S f) 59 ls st h k n) := by rw [wp_s dd_125_58 rfl hs]; rfl
theorem dd_125_59 : decode (mB 125) 59 = .ok (.iaload, 1) := by decide +kernel
theorem u_125_59 {G : aG} {S : Nat → Bool} {f : Nat} {st : List Value} {ls : aL} {h : aH} {k n : Nat} {i : Int32} {a : Nat} (hs : S 59 = false) : WP 125 G S (f + 1) 59 ls (.int i :: .ref a :: st) h k n = (oIld (iget h a 1) i (WP 125 G S f) 60 ls st h k n) := by rw [wp_s dd_125_59 rfl hs]; rfl
theorem dd_125_60 : decode (mB 125) 60 = .ok (.iaload, 1) := by decide +kernel
theorem u_125_60 {G : aG} {S : Nat → Bool} {f : Nat} {st : List Value} {ls : aL} {h : aH} {k n : Nat} {i : Int32} {a : Nat} (hs : S 60 = false) : WP 125 G S (f + 1) 60 ls (.int i :: .ref a :: st) h k n = (oIld (iget h a 1) i (WP 125 G S f) 61 ls st h k n) := by rw [wp_s dd_125_60 rfl hs]; rfl
theorem dd_125_61 : decode (mB 125) 61 = .ok (.istore_n 3, 1) := by decide +kernel
theorem u_125_61 {G : aG} {S : Nat → Bool} {f : Nat} {st : List Value} {ls : aL} {h : aH} {k n : Nat} {x : Int32} (hs : S 61 = false) : WP 125 G S (f + 1) 61 ls (.int x :: st) h k n = (WP 125 G S f 62 (lput1 ls 3 (.int x)) st h k n) := by rw [wp_s dd_125_61 rfl hs]; rfl
theorem dd_125_62 : decode (mB 125) 62 = .ok (.aload_n 0, 1) := by decide +kernel
theorem u_125_62 {G : aG} {S : Nat → Bool} {f : Nat} {st : List Value} {ls : aL} {h : aH} {k n : Nat} (hs : S 62 = false) : WP 125 G S (f + 1) 62 ls st h k n = (oA (lget ls 0) (WP 125 G S f) 63 ls st h k n) := by rw [wp_s dd_125_62 rfl hs]; rfl
theorem dd_125_63 : decode (mB 125) 63 = .ok (.getfield 19, 3) := by decide +kernel
theorem u_125_63 {G : aG} {S : Nat → Bool} {f : Nat} {st : List Value} {ls : aL} {h : aH} {k n : Nat} {a : Nat} (hs : S 63 = false) : WP 125 G S (f + 1) 63 ls (.ref a :: st) h k n = (oV (fget h a 10 5) (WP 125 G S f) 66 ls st h k n) := by rw [wp_s dd_125_63 rfl hs]; rfl
theorem dd_125_66 : decode (mB 125) 66 = .ok (.iload_n 1, 1) := by decide +kernel
theorem u_125_66 {G : aG} {S : Nat → Bool} {f : Nat} {st : List Value} {ls : aL} {h : aH} {k n : Nat} (hs : S 66 = false) : WP 125 G S (f + 1) 66 ls st h k n = (oI (lget ls 1) (WP 125 G S f) 67 ls st h k n) := by rw [wp_s dd_125_66 rfl hs]; rfl
theorem dd_125_67 : decode (mB 125) 67 = .ok (.iaload, 1) := by decide +kernel
theorem u_125_67 {G : aG} {S : Nat → Bool} {f : Nat} {st : List Value} {ls : aL} {h : aH} {k n : Nat} {i : Int32} {a : Nat} (hs : S 67 = false) : WP 125 G S (f + 1) 67 ls (.int i :: .ref a :: st) h k n = (oIld (iget h a 1) i (WP 125 G S f) 68 ls st h k n) := by rw [wp_s dd_125_67 rfl hs]; rfl
theorem dd_125_68 : decode (mB 125) 68 = .ok (.tableswitch 127 0 14 #[117, 127, 127, 127, 127, 127, 127, 127, 127, 76, 88, 76, 117, 117, 107], 76) := by decide +kernel
theorem u_125_68 {G : aG} {S : Nat → Bool} {f : Nat} {st : List Value} {ls : aL} {h : aH} {k n : Nat} {x : Int32} (hs : S 68 = false) : WP 125 G S (f + 1) 68 ls (.int x :: st) h k n = (if x = nI 0 then WP 125 G S f 185 ls st h k n else (if x = nI 1 then WP 125 G S f 195 ls st h k n else (if x = nI 2 then WP 125 G S f 195 ls st h k n else (if x = nI 3 then WP 125 G S f 195 ls st h k n else (if x = nI 4 then WP 125 G S f 195 ls st h k n else (if x = nI 5 then WP 125 G S f 195 ls st h k n else (if x = nI 6 then WP 125 G S f 195 ls st h k n else (if x = nI 7 then WP 125 G S f 195 ls st h k n else (if x = nI 8 then WP 125 G S f 195 ls st h k n else (if x = nI 9 then WP 125 G S f 144 ls st h k n else (if x = nI 10 then WP 125 G S f 156 ls st h k n else (if x = nI 11 then WP 125 G S f 144 ls st h k n else (if x = nI 12 then WP 125 G S f 185 ls st h k n else (if x = nI 13 then WP 125 G S f 185 ls st h k n else (if x = nI 14 then WP 125 G S f 175 ls st h k n else (WP 125 G S f 195 ls st h k n)))))))))))))))) := by rw [wp_s dd_125_68 rfl hs]; show WP 125 G S f (tgtT 68 0 14 [117, 127, 127, 127, 127, 127, 127, 127, 127, 76, 88, 76, 117, 117, 107] 127 x) ls st h k n = _; refine (ts_ite (K := fun q => WP 125 G S f q ls st h k n) (nI 0) rfl (by decide)).trans (if_cg ?_); refine (ts_ite (K := fun q => WP 125 G S f q ls st h k n) (nI 1) rfl (by decide)).trans (if_cg ?_); refine (ts_ite (K := fun q => WP 125 G S f q ls st h k n) (nI 2) rfl (by decide)).trans (if_cg ?_); refine (ts_ite (K := fun q => WP 125 G S f q ls st h k n) (nI 3) rfl (by decide)).trans (if_cg ?_); refine (ts_ite (K := fun q => WP 125 G S f q ls st h k n) (nI 4) rfl (by decide)).trans (if_cg ?_); refine (ts_ite (K := fun q => WP 125 G S f q ls st h k n) (nI 5) rfl (by decide)).trans (if_cg ?_); refine (ts_ite (K := fun q => WP 125 G S f q ls st h k n) (nI 6) rfl (by decide)).trans (if_cg ?_); refine (ts_ite (K := fun q => WP 125 G S f q ls st h k n) (nI 7) rfl (by decide)).trans (if_cg ?_); refine (ts_ite (K := fun q => WP 125 G S f q ls st h k n) (nI 8) rfl (by decide)).trans (if_cg ?_); refine (ts_ite (K := fun q => WP 125 G S f q ls st h k n) (nI 9) rfl (by decide)).trans (if_cg ?_); refine (ts_ite (K := fun q => WP 125 G S f q ls st h k n) (nI 10) rfl (by decide)).trans (if_cg ?_); refine (ts_ite (K := fun q => WP 125 G S f q ls st h k n) (nI 11) rfl (by decide)).trans (if_cg ?_); refine (ts_ite (K := fun q => WP 125 G S f q ls st h k n) (nI 12) rfl (by decide)).trans (if_cg ?_); refine (ts_ite (K := fun q => WP 125 G S f q ls st h k n) (nI 13) rfl (by decide)).trans (if_cg ?_); refine (ts_ite (K := fun q => WP 125 G S f q ls st h k n) (nI 14) rfl (by decide)).trans (if_cg ?_); exact ts_nil (K := fun q => WP 125 G S f q ls st h k n) (by decide)
theorem dd_125_144 : decode (mB 125) 144 = .ok (.aload_n 0, 1) := by decide +kernel
theorem u_125_144 {G : aG} {S : Nat → Bool} {f : Nat} {st : List Value} {ls : aL} {h : aH} {k n : Nat} (hs : S 144 = false) : WP 125 G S (f + 1) 144 ls st h k n = (oA (lget ls 0) (WP 125 G S f) 145 ls st h k n) := by rw [wp_s dd_125_144 rfl hs]; rfl
theorem dd_125_145 : decode (mB 125) 145 = .ok (.getfield 61, 3) := by decide +kernel
theorem u_125_145 {G : aG} {S : Nat → Bool} {f : Nat} {st : List Value} {ls : aL} {h : aH} {k n : Nat} {a : Nat} (hs : S 145 = false) : WP 125 G S (f + 1) 145 ls (.ref a :: st) h k n = (oV (fget h a 10 25) (WP 125 G S f) 148 ls st h k n) := by rw [wp_s dd_125_145 rfl hs]; rfl
theorem dd_125_148 : decode (mB 125) 148 = .ok (.iload_n 1, 1) := by decide +kernel
theorem u_125_148 {G : aG} {S : Nat → Bool} {f : Nat} {st : List Value} {ls : aL} {h : aH} {k n : Nat} (hs : S 148 = false) : WP 125 G S (f + 1) 148 ls st h k n = (oI (lget ls 1) (WP 125 G S f) 149 ls st h k n) := by rw [wp_s dd_125_148 rfl hs]; rfl
theorem dd_125_149 : decode (mB 125) 149 = .ok (.iload_n 2, 1) := by decide +kernel
theorem u_125_149 {G : aG} {S : Nat → Bool} {f : Nat} {st : List Value} {ls : aL} {h : aH} {k n : Nat} (hs : S 149 = false) : WP 125 G S (f + 1) 149 ls st h k n = (oI (lget ls 2) (WP 125 G S f) 150 ls st h k n) := by rw [wp_s dd_125_149 rfl hs]; rfl
theorem dd_125_150 : decode (mB 125) 150 = .ok (.iload_n 3, 1) := by decide +kernel
theorem u_125_150 {G : aG} {S : Nat → Bool} {f : Nat} {st : List Value} {ls : aL} {h : aH} {k n : Nat} (hs : S 150 = false) : WP 125 G S (f + 1) 150 ls st h k n = (oI (lget ls 3) (WP 125 G S f) 151 ls st h k n) := by rw [wp_s dd_125_150 rfl hs]; rfl
theorem dd_125_151 : decode (mB 125) 151 = .ok (.iadd, 1) := by decide +kernel
theorem u_125_151 {G : aG} {S : Nat → Bool} {f : Nat} {st : List Value} {ls : aL} {h : aH} {k n : Nat} {x y : Int32} (hs : S 151 = false) : WP 125 G S (f + 1) 151 ls (.int y :: .int x :: st) h k n = (WP 125 G S f 152 ls (.int (x + y) :: st) h k n) := by rw [wp_s dd_125_151 rfl hs]; rfl
theorem dd_125_152 : decode (mB 125) 152 = .ok (.iastore, 1) := by decide +kernel
theorem u_125_152 {G : aG} {S : Nat → Bool} {f : Nat} {st : List Value} {ls : aL} {h : aH} {k n : Nat} {i x : Int32} {a : Nat} (hs : S 152 = false) : WP 125 G S (f + 1) 152 ls (.int x :: .int i :: .ref a :: st) h k n = (oIst (iget h a 1) a i x (WP 125 G S f) 153 ls st h k n) := by rw [wp_s dd_125_152 rfl hs]; rfl
theorem dd_125_153 : decode (mB 125) 153 = .ok (.goto 49, 3) := by decide +kernel
theorem u_125_153 {G : aG} {S : Nat → Bool} {f : Nat} {st : List Value} {ls : aL} {h : aH} {k n : Nat} (hs : S 153 = false) : WP 125 G S (f + 1) 153 ls st h k n = (WP 125 G S f 202 ls st h k n) := by rw [wp_s dd_125_153 rfl hs]; rfl
theorem dd_125_156 : decode (mB 125) 156 = .ok (.aload_n 0, 1) := by decide +kernel
theorem u_125_156 {G : aG} {S : Nat → Bool} {f : Nat} {st : List Value} {ls : aL} {h : aH} {k n : Nat} (hs : S 156 = false) : WP 125 G S (f + 1) 156 ls st h k n = (oA (lget ls 0) (WP 125 G S f) 157 ls st h k n) := by rw [wp_s dd_125_156 rfl hs]; rfl
theorem dd_125_157 : decode (mB 125) 157 = .ok (.getfield 61, 3) := by decide +kernel
theorem u_125_157 {G : aG} {S : Nat → Bool} {f : Nat} {st : List Value} {ls : aL} {h : aH} {k n : Nat} {a : Nat} (hs : S 157 = false) : WP 125 G S (f + 1) 157 ls (.ref a :: st) h k n = (oV (fget h a 10 25) (WP 125 G S f) 160 ls st h k n) := by rw [wp_s dd_125_157 rfl hs]; rfl
theorem dd_125_160 : decode (mB 125) 160 = .ok (.iload_n 1, 1) := by decide +kernel
theorem u_125_160 {G : aG} {S : Nat → Bool} {f : Nat} {st : List Value} {ls : aL} {h : aH} {k n : Nat} (hs : S 160 = false) : WP 125 G S (f + 1) 160 ls st h k n = (oI (lget ls 1) (WP 125 G S f) 161 ls st h k n) := by rw [wp_s dd_125_160 rfl hs]; rfl
theorem dd_125_161 : decode (mB 125) 161 = .ok (.iload_n 2, 1) := by decide +kernel
theorem u_125_161 {G : aG} {S : Nat → Bool} {f : Nat} {st : List Value} {ls : aL} {h : aH} {k n : Nat} (hs : S 161 = false) : WP 125 G S (f + 1) 161 ls st h k n = (oI (lget ls 2) (WP 125 G S f) 162 ls st h k n) := by rw [wp_s dd_125_161 rfl hs]; rfl
theorem dd_125_162 : decode (mB 125) 162 = .ok (.iload_n 3, 1) := by decide +kernel
theorem u_125_162 {G : aG} {S : Nat → Bool} {f : Nat} {st : List Value} {ls : aL} {h : aH} {k n : Nat} (hs : S 162 = false) : WP 125 G S (f + 1) 162 ls st h k n = (oI (lget ls 3) (WP 125 G S f) 163 ls st h k n) := by rw [wp_s dd_125_162 rfl hs]; rfl
theorem dd_125_163 : decode (mB 125) 163 = .ok (.if_icmp .ge 7, 3) := by decide +kernel
theorem u_125_163 {G : aG} {S : Nat → Bool} {f : Nat} {st : List Value} {ls : aL} {h : aH} {k n : Nat} {x y : Int32} (hs : S 163 = false) : WP 125 G S (f + 1) 163 ls (.int y :: .int x :: st) h k n = (if y ≤ x then WP 125 G S f 170 ls st h k n else WP 125 G S f 166 ls st h k n) := by rw [wp_s dd_125_163 rfl hs]; exact br_ite (c := y ≤ x)
theorem dd_125_166 : decode (mB 125) 166 = .ok (.iload_n 2, 1) := by decide +kernel
theorem u_125_166 {G : aG} {S : Nat → Bool} {f : Nat} {st : List Value} {ls : aL} {h : aH} {k n : Nat} (hs : S 166 = false) : WP 125 G S (f + 1) 166 ls st h k n = (oI (lget ls 2) (WP 125 G S f) 167 ls st h k n) := by rw [wp_s dd_125_166 rfl hs]; rfl
theorem dd_125_167 : decode (mB 125) 167 = .ok (.goto 4, 3) := by decide +kernel
theorem u_125_167 {G : aG} {S : Nat → Bool} {f : Nat} {st : List Value} {ls : aL} {h : aH} {k n : Nat} (hs : S 167 = false) : WP 125 G S (f + 1) 167 ls st h k n = (WP 125 G S f 171 ls st h k n) := by rw [wp_s dd_125_167 rfl hs]; rfl
theorem dd_125_170 : decode (mB 125) 170 = .ok (.iload_n 3, 1) := by decide +kernel
theorem u_125_170 {G : aG} {S : Nat → Bool} {f : Nat} {st : List Value} {ls : aL} {h : aH} {k n : Nat} (hs : S 170 = false) : WP 125 G S (f + 1) 170 ls st h k n = (oI (lget ls 3) (WP 125 G S f) 171 ls st h k n) := by rw [wp_s dd_125_170 rfl hs]; rfl
theorem dd_125_171 : decode (mB 125) 171 = .ok (.iastore, 1) := by decide +kernel
theorem u_125_171 {G : aG} {S : Nat → Bool} {f : Nat} {st : List Value} {ls : aL} {h : aH} {k n : Nat} {i x : Int32} {a : Nat} (hs : S 171 = false) : WP 125 G S (f + 1) 171 ls (.int x :: .int i :: .ref a :: st) h k n = (oIst (iget h a 1) a i x (WP 125 G S f) 172 ls st h k n) := by rw [wp_s dd_125_171 rfl hs]; rfl
theorem dd_125_172 : decode (mB 125) 172 = .ok (.goto 30, 3) := by decide +kernel
theorem u_125_172 {G : aG} {S : Nat → Bool} {f : Nat} {st : List Value} {ls : aL} {h : aH} {k n : Nat} (hs : S 172 = false) : WP 125 G S (f + 1) 172 ls st h k n = (WP 125 G S f 202 ls st h k n) := by rw [wp_s dd_125_172 rfl hs]; rfl
theorem dd_125_175 : decode (mB 125) 175 = .ok (.aload_n 0, 1) := by decide +kernel
theorem u_125_175 {G : aG} {S : Nat → Bool} {f : Nat} {st : List Value} {ls : aL} {h : aH} {k n : Nat} (hs : S 175 = false) : WP 125 G S (f + 1) 175 ls st h k n = (oA (lget ls 0) (WP 125 G S f) 176 ls st h k n) := by rw [wp_s dd_125_175 rfl hs]; rfl
theorem dd_125_176 : decode (mB 125) 176 = .ok (.getfield 61, 3) := by decide +kernel
theorem u_125_176 {G : aG} {S : Nat → Bool} {f : Nat} {st : List Value} {ls : aL} {h : aH} {k n : Nat} {a : Nat} (hs : S 176 = false) : WP 125 G S (f + 1) 176 ls (.ref a :: st) h k n = (oV (fget h a 10 25) (WP 125 G S f) 179 ls st h k n) := by rw [wp_s dd_125_176 rfl hs]; rfl
theorem dd_125_179 : decode (mB 125) 179 = .ok (.iload_n 1, 1) := by decide +kernel
theorem u_125_179 {G : aG} {S : Nat → Bool} {f : Nat} {st : List Value} {ls : aL} {h : aH} {k n : Nat} (hs : S 179 = false) : WP 125 G S (f + 1) 179 ls st h k n = (oI (lget ls 1) (WP 125 G S f) 180 ls st h k n) := by rw [wp_s dd_125_179 rfl hs]; rfl
theorem dd_125_180 : decode (mB 125) 180 = .ok (.iload_n 2, 1) := by decide +kernel
theorem u_125_180 {G : aG} {S : Nat → Bool} {f : Nat} {st : List Value} {ls : aL} {h : aH} {k n : Nat} (hs : S 180 = false) : WP 125 G S (f + 1) 180 ls st h k n = (oI (lget ls 2) (WP 125 G S f) 181 ls st h k n) := by rw [wp_s dd_125_180 rfl hs]; rfl
theorem dd_125_181 : decode (mB 125) 181 = .ok (.iastore, 1) := by decide +kernel
theorem u_125_181 {G : aG} {S : Nat → Bool} {f : Nat} {st : List Value} {ls : aL} {h : aH} {k n : Nat} {i x : Int32} {a : Nat} (hs : S 181 = false) : WP 125 G S (f + 1) 181 ls (.int x :: .int i :: .ref a :: st) h k n = (oIst (iget h a 1) a i x (WP 125 G S f) 182 ls st h k n) := by rw [wp_s dd_125_181 rfl hs]; rfl
theorem dd_125_182 : decode (mB 125) 182 = .ok (.goto 20, 3) := by decide +kernel
theorem u_125_182 {G : aG} {S : Nat → Bool} {f : Nat} {st : List Value} {ls : aL} {h : aH} {k n : Nat} (hs : S 182 = false) : WP 125 G S (f + 1) 182 ls st h k n = (WP 125 G S f 202 ls st h k n) := by rw [wp_s dd_125_182 rfl hs]; rfl
theorem dd_125_185 : decode (mB 125) 185 = .ok (.aload_n 0, 1) := by decide +kernel
theorem u_125_185 {G : aG} {S : Nat → Bool} {f : Nat} {st : List Value} {ls : aL} {h : aH} {k n : Nat} (hs : S 185 = false) : WP 125 G S (f + 1) 185 ls st h k n = (oA (lget ls 0) (WP 125 G S f) 186 ls st h k n) := by rw [wp_s dd_125_185 rfl hs]; rfl
theorem dd_125_186 : decode (mB 125) 186 = .ok (.getfield 61, 3) := by decide +kernel
theorem u_125_186 {G : aG} {S : Nat → Bool} {f : Nat} {st : List Value} {ls : aL} {h : aH} {k n : Nat} {a : Nat} (hs : S 186 = false) : WP 125 G S (f + 1) 186 ls (.ref a :: st) h k n = (oV (fget h a 10 25) (WP 125 G S f) 189 ls st h k n) := by rw [wp_s dd_125_186 rfl hs]; rfl
theorem dd_125_189 : decode (mB 125) 189 = .ok (.iload_n 1, 1) := by decide +kernel
theorem u_125_189 {G : aG} {S : Nat → Bool} {f : Nat} {st : List Value} {ls : aL} {h : aH} {k n : Nat} (hs : S 189 = false) : WP 125 G S (f + 1) 189 ls st h k n = (oI (lget ls 1) (WP 125 G S f) 190 ls st h k n) := by rw [wp_s dd_125_189 rfl hs]; rfl
theorem dd_125_190 : decode (mB 125) 190 = .ok (.iconst 0, 1) := by decide +kernel
theorem u_125_190 {G : aG} {S : Nat → Bool} {f : Nat} {st : List Value} {ls : aL} {h : aH} {k n : Nat} (hs : S 190 = false) : WP 125 G S (f + 1) 190 ls st h k n = (WP 125 G S f 191 ls (.int (nI 0) :: st) h k n) := by rw [wp_s dd_125_190 rfl hs]; rfl
theorem dd_125_191 : decode (mB 125) 191 = .ok (.iastore, 1) := by decide +kernel
theorem u_125_191 {G : aG} {S : Nat → Bool} {f : Nat} {st : List Value} {ls : aL} {h : aH} {k n : Nat} {i x : Int32} {a : Nat} (hs : S 191 = false) : WP 125 G S (f + 1) 191 ls (.int x :: .int i :: .ref a :: st) h k n = (oIst (iget h a 1) a i x (WP 125 G S f) 192 ls st h k n) := by rw [wp_s dd_125_191 rfl hs]; rfl
theorem dd_125_192 : decode (mB 125) 192 = .ok (.goto 10, 3) := by decide +kernel
theorem u_125_192 {G : aG} {S : Nat → Bool} {f : Nat} {st : List Value} {ls : aL} {h : aH} {k n : Nat} (hs : S 192 = false) : WP 125 G S (f + 1) 192 ls st h k n = (WP 125 G S f 202 ls st h k n) := by rw [wp_s dd_125_192 rfl hs]; rfl
theorem dd_125_195 : decode (mB 125) 195 = .ok (.aload_n 0, 1) := by decide +kernel
theorem u_125_195 {G : aG} {S : Nat → Bool} {f : Nat} {st : List Value} {ls : aL} {h : aH} {k n : Nat} (hs : S 195 = false) : WP 125 G S (f + 1) 195 ls st h k n = (oA (lget ls 0) (WP 125 G S f) 196 ls st h k n) := by rw [wp_s dd_125_195 rfl hs]; rfl
theorem dd_125_196 : decode (mB 125) 196 = .ok (.getfield 61, 3) := by decide +kernel
theorem u_125_196 {G : aG} {S : Nat → Bool} {f : Nat} {st : List Value} {ls : aL} {h : aH} {k n : Nat} {a : Nat} (hs : S 196 = false) : WP 125 G S (f + 1) 196 ls (.ref a :: st) h k n = (oV (fget h a 10 25) (WP 125 G S f) 199 ls st h k n) := by rw [wp_s dd_125_196 rfl hs]; rfl
theorem dd_125_199 : decode (mB 125) 199 = .ok (.iload_n 1, 1) := by decide +kernel
theorem u_125_199 {G : aG} {S : Nat → Bool} {f : Nat} {st : List Value} {ls : aL} {h : aH} {k n : Nat} (hs : S 199 = false) : WP 125 G S (f + 1) 199 ls st h k n = (oI (lget ls 1) (WP 125 G S f) 200 ls st h k n) := by rw [wp_s dd_125_199 rfl hs]; rfl
theorem dd_125_200 : decode (mB 125) 200 = .ok (.iconst 1, 1) := by decide +kernel
theorem u_125_200 {G : aG} {S : Nat → Bool} {f : Nat} {st : List Value} {ls : aL} {h : aH} {k n : Nat} (hs : S 200 = false) : WP 125 G S (f + 1) 200 ls st h k n = (WP 125 G S f 201 ls (.int (nI 1) :: st) h k n) := by rw [wp_s dd_125_200 rfl hs]; rfl
theorem dd_125_201 : decode (mB 125) 201 = .ok (.iastore, 1) := by decide +kernel
theorem u_125_201 {G : aG} {S : Nat → Bool} {f : Nat} {st : List Value} {ls : aL} {h : aH} {k n : Nat} {i x : Int32} {a : Nat} (hs : S 201 = false) : WP 125 G S (f + 1) 201 ls (.int x :: .int i :: .ref a :: st) h k n = (oIst (iget h a 1) a i x (WP 125 G S f) 202 ls st h k n) := by rw [wp_s dd_125_201 rfl hs]; rfl
theorem dd_125_202 : decode (mB 125) 202 = .ok (.iinc 1 1, 3) := by decide +kernel
theorem u_125_202 {G : aG} {S : Nat → Bool} {f : Nat} {st : List Value} {ls : aL} {h : aH} {k n : Nat} (hs : S 202 = false) : WP 125 G S (f + 1) 202 ls st h k n = (oInc (lget ls 1) (nI 1) (WP 125 G S f) 1 205 ls st h k n) := by rw [wp_s dd_125_202 rfl hs]; rfl
theorem dd_125_205 : decode (mB 125) 205 = .ok (.goto (-203), 3) := by decide +kernel
theorem u_125_205 {G : aG} {S : Nat → Bool} {f : Nat} {st : List Value} {ls : aL} {h : aH} {k n : Nat} (hs : S 205 = false) : WP 125 G S (f + 1) 205 ls st h k n = (WP 125 G S f 2 ls st h k n) := by rw [wp_s dd_125_205 rfl hs]; rfl
theorem dd_125_208 : decode (mB 125) 208 = .ok (.aload_n 0, 1) := by decide +kernel
theorem u_125_208 {G : aG} {S : Nat → Bool} {f : Nat} {st : List Value} {ls : aL} {h : aH} {k n : Nat} (hs : S 208 = false) : WP 125 G S (f + 1) 208 ls st h k n = (oA (lget ls 0) (WP 125 G S f) 209 ls st h k n) := by rw [wp_s dd_125_208 rfl hs]; rfl
theorem dd_125_209 : decode (mB 125) 209 = .ok (.getfield 61, 3) := by decide +kernel
theorem u_125_209 {G : aG} {S : Nat → Bool} {f : Nat} {st : List Value} {ls : aL} {h : aH} {k n : Nat} {a : Nat} (hs : S 209 = false) : WP 125 G S (f + 1) 209 ls (.ref a :: st) h k n = (oV (fget h a 10 25) (WP 125 G S f) 212 ls st h k n) := by rw [wp_s dd_125_209 rfl hs]; rfl
theorem dd_125_212 : decode (mB 125) 212 = .ok (.aload_n 0, 1) := by decide +kernel
theorem u_125_212 {G : aG} {S : Nat → Bool} {f : Nat} {st : List Value} {ls : aL} {h : aH} {k n : Nat} (hs : S 212 = false) : WP 125 G S (f + 1) 212 ls st h k n = (oA (lget ls 0) (WP 125 G S f) 213 ls st h k n) := by rw [wp_s dd_125_212 rfl hs]; rfl
theorem dd_125_213 : decode (mB 125) 213 = .ok (.getfield 81, 3) := by decide +kernel
theorem u_125_213 {G : aG} {S : Nat → Bool} {f : Nat} {st : List Value} {ls : aL} {h : aH} {k n : Nat} {a : Nat} (hs : S 213 = false) : WP 125 G S (f + 1) 213 ls (.ref a :: st) h k n = (oV (fget h a 10 4) (WP 125 G S f) 216 ls st h k n) := by rw [wp_s dd_125_213 rfl hs]; rfl
theorem dd_125_216 : decode (mB 125) 216 = .ok (.iconst 1, 1) := by decide +kernel
theorem u_125_216 {G : aG} {S : Nat → Bool} {f : Nat} {st : List Value} {ls : aL} {h : aH} {k n : Nat} (hs : S 216 = false) : WP 125 G S (f + 1) 216 ls st h k n = (WP 125 G S f 217 ls (.int (nI 1) :: st) h k n) := by rw [wp_s dd_125_216 rfl hs]; rfl
theorem dd_125_217 : decode (mB 125) 217 = .ok (.isub, 1) := by decide +kernel
theorem u_125_217 {G : aG} {S : Nat → Bool} {f : Nat} {st : List Value} {ls : aL} {h : aH} {k n : Nat} {x y : Int32} (hs : S 217 = false) : WP 125 G S (f + 1) 217 ls (.int y :: .int x :: st) h k n = (WP 125 G S f 218 ls (.int (x - y) :: st) h k n) := by rw [wp_s dd_125_217 rfl hs]; rfl
theorem dd_125_218 : decode (mB 125) 218 = .ok (.iaload, 1) := by decide +kernel
theorem u_125_218 {G : aG} {S : Nat → Bool} {f : Nat} {st : List Value} {ls : aL} {h : aH} {k n : Nat} {i : Int32} {a : Nat} (hs : S 218 = false) : WP 125 G S (f + 1) 218 ls (.int i :: .ref a :: st) h k n = (oIld (iget h a 1) i (WP 125 G S f) 219 ls st h k n) := by rw [wp_s dd_125_218 rfl hs]; rfl
theorem dd_125_219 : decode (mB 125) 219 = .ok (.ireturn, 1) := by decide +kernel
theorem u_125_219 {G : aG} {S : Nat → Bool} {f : Nat} {ls : aL} {h : aH} {k n : Nat} {x : Int32} (hs : S 219 = false) : WP 125 G S (f + 1) 219 ls [.int x] h k n = (RET G (some (.int x)) h k n) := by rw [wp_s dd_125_219 rfl hs]; rfl
theorem dd_126_0 : decode (mB 126) 0 = .ok (.aload_n 0, 1) := by decide +kernel
theorem u_126_0 {G : aG} {S : Nat → Bool} {f : Nat} {st : List Value} {ls : aL} {h : aH} {k n : Nat} (hs : S 0 = false) : WP 126 G S (f + 1) 0 ls st h k n = (oA (lget ls 0) (WP 126 G S f) 1 ls st h k n) := by rw [wp_s dd_126_0 rfl hs]; rfl
theorem dd_126_1 : decode (mB 126) 1 = .ok (.getfield 46, 3) := by decide +kernel
theorem u_126_1 {G : aG} {S : Nat → Bool} {f : Nat} {st : List Value} {ls : aL} {h : aH} {k n : Nat} {a : Nat} (hs : S 1 = false) : WP 126 G S (f + 1) 1 ls (.ref a :: st) h k n = (oV (fget h a 10 14) (WP 126 G S f) 4 ls st h k n) := by rw [wp_s dd_126_1 rfl hs]; rfl
theorem dd_126_4 : decode (mB 126) 4 = .ok (.iload_n 1, 1) := by decide +kernel
theorem u_126_4 {G : aG} {S : Nat → Bool} {f : Nat} {st : List Value} {ls : aL} {h : aH} {k n : Nat} (hs : S 4 = false) : WP 126 G S (f + 1) 4 ls st h k n = (oI (lget ls 1) (WP 126 G S f) 5 ls st h k n) := by rw [wp_s dd_126_4 rfl hs]; rfl
theorem dd_126_5 : decode (mB 126) 5 = .ok (.iconst 1, 1) := by decide +kernel
theorem u_126_5 {G : aG} {S : Nat → Bool} {f : Nat} {st : List Value} {ls : aL} {h : aH} {k n : Nat} (hs : S 5 = false) : WP 126 G S (f + 1) 5 ls st h k n = (WP 126 G S f 6 ls (.int (nI 1) :: st) h k n) := by rw [wp_s dd_126_5 rfl hs]; rfl
theorem dd_126_6 : decode (mB 126) 6 = .ok (.iastore, 1) := by decide +kernel
theorem u_126_6 {G : aG} {S : Nat → Bool} {f : Nat} {st : List Value} {ls : aL} {h : aH} {k n : Nat} {i x : Int32} {a : Nat} (hs : S 6 = false) : WP 126 G S (f + 1) 6 ls (.int x :: .int i :: .ref a :: st) h k n = (oIst (iget h a 1) a i x (WP 126 G S f) 7 ls st h k n) := by rw [wp_s dd_126_6 rfl hs]; rfl
theorem dd_126_7 : decode (mB 126) 7 = .ok (.aload_n 0, 1) := by decide +kernel
theorem u_126_7 {G : aG} {S : Nat → Bool} {f : Nat} {st : List Value} {ls : aL} {h : aH} {k n : Nat} (hs : S 7 = false) : WP 126 G S (f + 1) 7 ls st h k n = (oA (lget ls 0) (WP 126 G S f) 8 ls st h k n) := by rw [wp_s dd_126_7 rfl hs]; rfl
theorem dd_126_8 : decode (mB 126) 8 = .ok (.getfield 43, 3) := by decide +kernel
theorem u_126_8 {G : aG} {S : Nat → Bool} {f : Nat} {st : List Value} {ls : aL} {h : aH} {k n : Nat} {a : Nat} (hs : S 8 = false) : WP 126 G S (f + 1) 8 ls (.ref a :: st) h k n = (oV (fget h a 10 13) (WP 126 G S f) 11 ls st h k n) := by rw [wp_s dd_126_8 rfl hs]; rfl
theorem dd_126_11 : decode (mB 126) 11 = .ok (.sipush 256, 3) := by decide +kernel
theorem u_126_11 {G : aG} {S : Nat → Bool} {f : Nat} {st : List Value} {ls : aL} {h : aH} {k n : Nat} (hs : S 11 = false) : WP 126 G S (f + 1) 11 ls st h k n = (WP 126 G S f 14 ls (.int (nI 256) :: st) h k n) := by rw [wp_s dd_126_11 rfl hs]; rfl
theorem dd_126_14 : decode (mB 126) 14 = .ok (.iload_n 1, 1) := by decide +kernel
theorem u_126_14 {G : aG} {S : Nat → Bool} {f : Nat} {st : List Value} {ls : aL} {h : aH} {k n : Nat} (hs : S 14 = false) : WP 126 G S (f + 1) 14 ls st h k n = (oI (lget ls 1) (WP 126 G S f) 15 ls st h k n) := by rw [wp_s dd_126_14 rfl hs]; rfl
theorem dd_126_15 : decode (mB 126) 15 = .ok (.imul, 1) := by decide +kernel
theorem u_126_15 {G : aG} {S : Nat → Bool} {f : Nat} {st : List Value} {ls : aL} {h : aH} {k n : Nat} {x y : Int32} (hs : S 15 = false) : WP 126 G S (f + 1) 15 ls (.int y :: .int x :: st) h k n = (WP 126 G S f 16 ls (.int (x * y) :: st) h k n) := by rw [wp_s dd_126_15 rfl hs]; rfl
theorem dd_126_16 : decode (mB 126) 16 = .ok (.iconst 0, 1) := by decide +kernel
theorem u_126_16 {G : aG} {S : Nat → Bool} {f : Nat} {st : List Value} {ls : aL} {h : aH} {k n : Nat} (hs : S 16 = false) : WP 126 G S (f + 1) 16 ls st h k n = (WP 126 G S f 17 ls (.int (nI 0) :: st) h k n) := by rw [wp_s dd_126_16 rfl hs]; rfl
theorem dd_126_17 : decode (mB 126) 17 = .ok (.iastore, 1) := by decide +kernel
theorem u_126_17 {G : aG} {S : Nat → Bool} {f : Nat} {st : List Value} {ls : aL} {h : aH} {k n : Nat} {i x : Int32} {a : Nat} (hs : S 17 = false) : WP 126 G S (f + 1) 17 ls (.int x :: .int i :: .ref a :: st) h k n = (oIst (iget h a 1) a i x (WP 126 G S f) 18 ls st h k n) := by rw [wp_s dd_126_17 rfl hs]; rfl
theorem dd_126_18 : decode (mB 126) 18 = .ok (.return_, 1) := by decide +kernel
theorem u_126_18 {G : aG} {S : Nat → Bool} {f : Nat} {ls : aL} {h : aH} {k n : Nat} (hs : S 18 = false) : WP 126 G S (f + 1) 18 ls [] h k n = (RET G none h k n) := by rw [wp_s dd_126_18 rfl hs]; rfl
theorem dd_127_0 : decode (mB 127) 0 = .ok (.iconst 0, 1) := by decide +kernel
theorem u_127_0 {G : aG} {S : Nat → Bool} {f : Nat} {st : List Value} {ls : aL} {h : aH} {k n : Nat} (hs : S 0 = false) : WP 127 G S (f + 1) 0 ls st h k n = (WP 127 G S f 1 ls (.int (nI 0) :: st) h k n) := by rw [wp_s dd_127_0 rfl hs]; rfl
theorem dd_127_1 : decode (mB 127) 1 = .ok (.istore_n 2, 1) := by decide +kernel
theorem u_127_1 {G : aG} {S : Nat → Bool} {f : Nat} {st : List Value} {ls : aL} {h : aH} {k n : Nat} {x : Int32} (hs : S 1 = false) : WP 127 G S (f + 1) 1 ls (.int x :: st) h k n = (WP 127 G S f 2 (lput1 ls 2 (.int x)) st h k n) := by rw [wp_s dd_127_1 rfl hs]; rfl
theorem dd_127_2 : decode (mB 127) 2 = .ok (.iconst 0, 1) := by decide +kernel
theorem u_127_2 {G : aG} {S : Nat → Bool} {f : Nat} {st : List Value} {ls : aL} {h : aH} {k n : Nat} (hs : S 2 = false) : WP 127 G S (f + 1) 2 ls st h k n = (WP 127 G S f 3 ls (.int (nI 0) :: st) h k n) := by rw [wp_s dd_127_2 rfl hs]; rfl
theorem dd_127_3 : decode (mB 127) 3 = .ok (.istore_n 3, 1) := by decide +kernel
theorem u_127_3 {G : aG} {S : Nat → Bool} {f : Nat} {st : List Value} {ls : aL} {h : aH} {k n : Nat} {x : Int32} (hs : S 3 = false) : WP 127 G S (f + 1) 3 ls (.int x :: st) h k n = (WP 127 G S f 4 (lput1 ls 3 (.int x)) st h k n) := by rw [wp_s dd_127_3 rfl hs]; rfl
theorem dd_127_4 : decode (mB 127) 4 = .ok (.iload_n 3, 1) := by decide +kernel
theorem u_127_4 {G : aG} {S : Nat → Bool} {f : Nat} {st : List Value} {ls : aL} {h : aH} {k n : Nat} (hs : S 4 = false) : WP 127 G S (f + 1) 4 ls st h k n = (oI (lget ls 3) (WP 127 G S f) 5 ls st h k n) := by rw [wp_s dd_127_4 rfl hs]; rfl
theorem v_127_4 {G : aG} {S : Nat → Bool} {f : Nat} {st : List Value} {ls : aL} {h : aH} {k n : Nat} : WQ 127 G S f 4 ls st h k n = (oI (lget ls 3) (WP 127 G S f) 5 ls st h k n) := by rw [wq_s dd_127_4 rfl]; rfl
theorem dd_127_5 : decode (mB 127) 5 = .ok (.bipush 8, 2) := by decide +kernel
theorem u_127_5 {G : aG} {S : Nat → Bool} {f : Nat} {st : List Value} {ls : aL} {h : aH} {k n : Nat} (hs : S 5 = false) : WP 127 G S (f + 1) 5 ls st h k n = (WP 127 G S f 7 ls (.int (nI 8) :: st) h k n) := by rw [wp_s dd_127_5 rfl hs]; rfl
theorem dd_127_7 : decode (mB 127) 7 = .ok (.if_icmp .ge 30, 3) := by decide +kernel
theorem u_127_7 {G : aG} {S : Nat → Bool} {f : Nat} {st : List Value} {ls : aL} {h : aH} {k n : Nat} {x y : Int32} (hs : S 7 = false) : WP 127 G S (f + 1) 7 ls (.int y :: .int x :: st) h k n = (if y ≤ x then WP 127 G S f 37 ls st h k n else WP 127 G S f 10 ls st h k n) := by rw [wp_s dd_127_7 rfl hs]; exact br_ite (c := y ≤ x)
theorem dd_127_10 : decode (mB 127) 10 = .ok (.iload_n 2, 1) := by decide +kernel
theorem u_127_10 {G : aG} {S : Nat → Bool} {f : Nat} {st : List Value} {ls : aL} {h : aH} {k n : Nat} (hs : S 10 = false) : WP 127 G S (f + 1) 10 ls st h k n = (oI (lget ls 2) (WP 127 G S f) 11 ls st h k n) := by rw [wp_s dd_127_10 rfl hs]; rfl
theorem dd_127_11 : decode (mB 127) 11 = .ok (.aload_n 0, 1) := by decide +kernel
theorem u_127_11 {G : aG} {S : Nat → Bool} {f : Nat} {st : List Value} {ls : aL} {h : aH} {k n : Nat} (hs : S 11 = false) : WP 127 G S (f + 1) 11 ls st h k n = (oA (lget ls 0) (WP 127 G S f) 12 ls st h k n) := by rw [wp_s dd_127_11 rfl hs]; rfl
theorem dd_127_12 : decode (mB 127) 12 = .ok (.iload_n 1, 1) := by decide +kernel
theorem u_127_12 {G : aG} {S : Nat → Bool} {f : Nat} {st : List Value} {ls : aL} {h : aH} {k n : Nat} (hs : S 12 = false) : WP 127 G S (f + 1) 12 ls st h k n = (oI (lget ls 1) (WP 127 G S f) 13 ls st h k n) := by rw [wp_s dd_127_12 rfl hs]; rfl
theorem dd_127_13 : decode (mB 127) 13 = .ok (.iload_n 3, 1) := by decide +kernel
theorem u_127_13 {G : aG} {S : Nat → Bool} {f : Nat} {st : List Value} {ls : aL} {h : aH} {k n : Nat} (hs : S 13 = false) : WP 127 G S (f + 1) 13 ls st h k n = (oI (lget ls 3) (WP 127 G S f) 14 ls st h k n) := by rw [wp_s dd_127_13 rfl hs]; rfl
theorem dd_127_14 : decode (mB 127) 14 = .ok (.bipush 20, 2) := by decide +kernel
theorem u_127_14 {G : aG} {S : Nat → Bool} {f : Nat} {st : List Value} {ls : aL} {h : aH} {k n : Nat} (hs : S 14 = false) : WP 127 G S (f + 1) 14 ls st h k n = (WP 127 G S f 16 ls (.int (nI 20) :: st) h k n) := by rw [wp_s dd_127_14 rfl hs]; rfl
theorem dd_127_16 : decode (mB 127) 16 = .ok (.invokevirtual 104, 3) := by decide +kernel
theorem u_127_16 {G : aG} {S : Nat → Bool} {f : Nat} {st : List Value} {ls : aL} {h : aH} {k n : Nat} {v1 v2 v3 : Value} {b : Nat} (hs : S 16 = false) : WP 127 G S (f + 1) 16 ls (v3 :: v2 :: v1 :: .ref b :: st) h k n = (rcv (hget h b) 10 ∧ CAL G (WP 127 G S f) 128 [.ref b, v1, v2, v3] 19 ls st h k n) := by rw [wp_s dd_127_16 rfl hs]; rfl
theorem dd_127_19 : decode (mB 127) 19 = .ok (.ifCond .eq 9, 3) := by decide +kernel
theorem u_127_19 {G : aG} {S : Nat → Bool} {f : Nat} {st : List Value} {ls : aL} {h : aH} {k n : Nat} {x : Int32} (hs : S 19 = false) : WP 127 G S (f + 1) 19 ls (.int x :: st) h k n = (if x = nI 0 then WP 127 G S f 28 ls st h k n else WP 127 G S f 22 ls st h k n) := by rw [wp_s dd_127_19 rfl hs]; exact br_ite (c := x = nI 0)
theorem dd_127_22 : decode (mB 127) 22 = .ok (.iconst 1, 1) := by decide +kernel
theorem u_127_22 {G : aG} {S : Nat → Bool} {f : Nat} {st : List Value} {ls : aL} {h : aH} {k n : Nat} (hs : S 22 = false) : WP 127 G S (f + 1) 22 ls st h k n = (WP 127 G S f 23 ls (.int (nI 1) :: st) h k n) := by rw [wp_s dd_127_22 rfl hs]; rfl
theorem dd_127_23 : decode (mB 127) 23 = .ok (.iload_n 3, 1) := by decide +kernel
theorem u_127_23 {G : aG} {S : Nat → Bool} {f : Nat} {st : List Value} {ls : aL} {h : aH} {k n : Nat} (hs : S 23 = false) : WP 127 G S (f + 1) 23 ls st h k n = (oI (lget ls 3) (WP 127 G S f) 24 ls st h k n) := by rw [wp_s dd_127_23 rfl hs]; rfl
theorem dd_127_24 : decode (mB 127) 24 = .ok (.ishl, 1) := by decide +kernel
theorem u_127_24 {G : aG} {S : Nat → Bool} {f : Nat} {st : List Value} {ls : aL} {h : aH} {k n : Nat} {x y : Int32} (hs : S 24 = false) : WP 127 G S (f + 1) 24 ls (.int y :: .int x :: st) h k n = (WP 127 G S f 25 ls (.int (x <<< (y &&& 31)) :: st) h k n) := by rw [wp_s dd_127_24 rfl hs]; rfl
theorem dd_127_25 : decode (mB 127) 25 = .ok (.goto 4, 3) := by decide +kernel
theorem u_127_25 {G : aG} {S : Nat → Bool} {f : Nat} {st : List Value} {ls : aL} {h : aH} {k n : Nat} (hs : S 25 = false) : WP 127 G S (f + 1) 25 ls st h k n = (WP 127 G S f 29 ls st h k n) := by rw [wp_s dd_127_25 rfl hs]; rfl
theorem dd_127_28 : decode (mB 127) 28 = .ok (.iconst 0, 1) := by decide +kernel
theorem u_127_28 {G : aG} {S : Nat → Bool} {f : Nat} {st : List Value} {ls : aL} {h : aH} {k n : Nat} (hs : S 28 = false) : WP 127 G S (f + 1) 28 ls st h k n = (WP 127 G S f 29 ls (.int (nI 0) :: st) h k n) := by rw [wp_s dd_127_28 rfl hs]; rfl
theorem dd_127_29 : decode (mB 127) 29 = .ok (.ior, 1) := by decide +kernel
theorem u_127_29 {G : aG} {S : Nat → Bool} {f : Nat} {st : List Value} {ls : aL} {h : aH} {k n : Nat} {x y : Int32} (hs : S 29 = false) : WP 127 G S (f + 1) 29 ls (.int y :: .int x :: st) h k n = (WP 127 G S f 30 ls (.int (x ||| y) :: st) h k n) := by rw [wp_s dd_127_29 rfl hs]; rfl
theorem dd_127_30 : decode (mB 127) 30 = .ok (.istore_n 2, 1) := by decide +kernel
theorem u_127_30 {G : aG} {S : Nat → Bool} {f : Nat} {st : List Value} {ls : aL} {h : aH} {k n : Nat} {x : Int32} (hs : S 30 = false) : WP 127 G S (f + 1) 30 ls (.int x :: st) h k n = (WP 127 G S f 31 (lput1 ls 2 (.int x)) st h k n) := by rw [wp_s dd_127_30 rfl hs]; rfl
theorem dd_127_31 : decode (mB 127) 31 = .ok (.iinc 3 1, 3) := by decide +kernel
theorem u_127_31 {G : aG} {S : Nat → Bool} {f : Nat} {st : List Value} {ls : aL} {h : aH} {k n : Nat} (hs : S 31 = false) : WP 127 G S (f + 1) 31 ls st h k n = (oInc (lget ls 3) (nI 1) (WP 127 G S f) 3 34 ls st h k n) := by rw [wp_s dd_127_31 rfl hs]; rfl
theorem dd_127_34 : decode (mB 127) 34 = .ok (.goto (-30), 3) := by decide +kernel
theorem u_127_34 {G : aG} {S : Nat → Bool} {f : Nat} {st : List Value} {ls : aL} {h : aH} {k n : Nat} (hs : S 34 = false) : WP 127 G S (f + 1) 34 ls st h k n = (WP 127 G S f 4 ls st h k n) := by rw [wp_s dd_127_34 rfl hs]; rfl
theorem dd_127_37 : decode (mB 127) 37 = .ok (.iload_n 2, 1) := by decide +kernel
theorem u_127_37 {G : aG} {S : Nat → Bool} {f : Nat} {st : List Value} {ls : aL} {h : aH} {k n : Nat} (hs : S 37 = false) : WP 127 G S (f + 1) 37 ls st h k n = (oI (lget ls 2) (WP 127 G S f) 38 ls st h k n) := by rw [wp_s dd_127_37 rfl hs]; rfl
theorem dd_127_38 : decode (mB 127) 38 = .ok (.ireturn, 1) := by decide +kernel
theorem u_127_38 {G : aG} {S : Nat → Bool} {f : Nat} {ls : aL} {h : aH} {k n : Nat} {x : Int32} (hs : S 38 = false) : WP 127 G S (f + 1) 38 ls [.int x] h k n = (RET G (some (.int x)) h k n) := by rw [wp_s dd_127_38 rfl hs]; rfl
theorem dd_128_0 : decode (mB 128) 0 = .ok (.aload_n 0, 1) := by decide +kernel
theorem u_128_0 {G : aG} {S : Nat → Bool} {f : Nat} {st : List Value} {ls : aL} {h : aH} {k n : Nat} (hs : S 0 = false) : WP 128 G S (f + 1) 0 ls st h k n = (oA (lget ls 0) (WP 128 G S f) 1 ls st h k n) := by rw [wp_s dd_128_0 rfl hs]; rfl
theorem dd_128_1 : decode (mB 128) 1 = .ok (.getfield 46, 3) := by decide +kernel
theorem u_128_1 {G : aG} {S : Nat → Bool} {f : Nat} {st : List Value} {ls : aL} {h : aH} {k n : Nat} {a : Nat} (hs : S 1 = false) : WP 128 G S (f + 1) 1 ls (.ref a :: st) h k n = (oV (fget h a 10 14) (WP 128 G S f) 4 ls st h k n) := by rw [wp_s dd_128_1 rfl hs]; rfl
theorem dd_128_4 : decode (mB 128) 4 = .ok (.iload_n 3, 1) := by decide +kernel
theorem u_128_4 {G : aG} {S : Nat → Bool} {f : Nat} {st : List Value} {ls : aL} {h : aH} {k n : Nat} (hs : S 4 = false) : WP 128 G S (f + 1) 4 ls st h k n = (oI (lget ls 3) (WP 128 G S f) 5 ls st h k n) := by rw [wp_s dd_128_4 rfl hs]; rfl
theorem dd_128_5 : decode (mB 128) 5 = .ok (.iconst 0, 1) := by decide +kernel
theorem u_128_5 {G : aG} {S : Nat → Bool} {f : Nat} {st : List Value} {ls : aL} {h : aH} {k n : Nat} (hs : S 5 = false) : WP 128 G S (f + 1) 5 ls st h k n = (WP 128 G S f 6 ls (.int (nI 0) :: st) h k n) := by rw [wp_s dd_128_5 rfl hs]; rfl
theorem dd_128_6 : decode (mB 128) 6 = .ok (.iastore, 1) := by decide +kernel
theorem u_128_6 {G : aG} {S : Nat → Bool} {f : Nat} {st : List Value} {ls : aL} {h : aH} {k n : Nat} {i x : Int32} {a : Nat} (hs : S 6 = false) : WP 128 G S (f + 1) 6 ls (.int x :: .int i :: .ref a :: st) h k n = (oIst (iget h a 1) a i x (WP 128 G S f) 7 ls st h k n) := by rw [wp_s dd_128_6 rfl hs]; rfl
theorem dd_128_7 : decode (mB 128) 7 = .ok (.iconst 0, 1) := by decide +kernel
theorem u_128_7 {G : aG} {S : Nat → Bool} {f : Nat} {st : List Value} {ls : aL} {h : aH} {k n : Nat} (hs : S 7 = false) : WP 128 G S (f + 1) 7 ls st h k n = (WP 128 G S f 8 ls (.int (nI 0) :: st) h k n) := by rw [wp_s dd_128_7 rfl hs]; rfl
theorem dd_128_8 : decode (mB 128) 8 = .ok (.istore 4, 2) := by decide +kernel
theorem u_128_8 {G : aG} {S : Nat → Bool} {f : Nat} {st : List Value} {ls : aL} {h : aH} {k n : Nat} {x : Int32} (hs : S 8 = false) : WP 128 G S (f + 1) 8 ls (.int x :: st) h k n = (WP 128 G S f 10 (lput1 ls 4 (.int x)) st h k n) := by rw [wp_s dd_128_8 rfl hs]; rfl
theorem dd_128_10 : decode (mB 128) 10 = .ok (.iload 4, 2) := by decide +kernel
theorem u_128_10 {G : aG} {S : Nat → Bool} {f : Nat} {st : List Value} {ls : aL} {h : aH} {k n : Nat} (hs : S 10 = false) : WP 128 G S (f + 1) 10 ls st h k n = (oI (lget ls 4) (WP 128 G S f) 12 ls st h k n) := by rw [wp_s dd_128_10 rfl hs]; rfl
theorem v_128_10 {G : aG} {S : Nat → Bool} {f : Nat} {st : List Value} {ls : aL} {h : aH} {k n : Nat} : WQ 128 G S f 10 ls st h k n = (oI (lget ls 4) (WP 128 G S f) 12 ls st h k n) := by rw [wq_s dd_128_10 rfl]; rfl
theorem dd_128_12 : decode (mB 128) 12 = .ok (.aload_n 0, 1) := by decide +kernel
theorem u_128_12 {G : aG} {S : Nat → Bool} {f : Nat} {st : List Value} {ls : aL} {h : aH} {k n : Nat} (hs : S 12 = false) : WP 128 G S (f + 1) 12 ls st h k n = (oA (lget ls 0) (WP 128 G S f) 13 ls st h k n) := by rw [wp_s dd_128_12 rfl hs]; rfl
theorem dd_128_13 : decode (mB 128) 13 = .ok (.getfield 46, 3) := by decide +kernel
theorem u_128_13 {G : aG} {S : Nat → Bool} {f : Nat} {st : List Value} {ls : aL} {h : aH} {k n : Nat} {a : Nat} (hs : S 13 = false) : WP 128 G S (f + 1) 13 ls (.ref a :: st) h k n = (oV (fget h a 10 14) (WP 128 G S f) 16 ls st h k n) := by rw [wp_s dd_128_13 rfl hs]; rfl
theorem dd_128_16 : decode (mB 128) 16 = .ok (.iload_n 1, 1) := by decide +kernel
theorem u_128_16 {G : aG} {S : Nat → Bool} {f : Nat} {st : List Value} {ls : aL} {h : aH} {k n : Nat} (hs : S 16 = false) : WP 128 G S (f + 1) 16 ls st h k n = (oI (lget ls 1) (WP 128 G S f) 17 ls st h k n) := by rw [wp_s dd_128_16 rfl hs]; rfl
theorem dd_128_17 : decode (mB 128) 17 = .ok (.iaload, 1) := by decide +kernel
theorem u_128_17 {G : aG} {S : Nat → Bool} {f : Nat} {st : List Value} {ls : aL} {h : aH} {k n : Nat} {i : Int32} {a : Nat} (hs : S 17 = false) : WP 128 G S (f + 1) 17 ls (.int i :: .ref a :: st) h k n = (oIld (iget h a 1) i (WP 128 G S f) 18 ls st h k n) := by rw [wp_s dd_128_17 rfl hs]; rfl
theorem dd_128_18 : decode (mB 128) 18 = .ok (.if_icmp .ge 72, 3) := by decide +kernel
theorem u_128_18 {G : aG} {S : Nat → Bool} {f : Nat} {st : List Value} {ls : aL} {h : aH} {k n : Nat} {x y : Int32} (hs : S 18 = false) : WP 128 G S (f + 1) 18 ls (.int y :: .int x :: st) h k n = (if y ≤ x then WP 128 G S f 90 ls st h k n else WP 128 G S f 21 ls st h k n) := by rw [wp_s dd_128_18 rfl hs]; exact br_ite (c := y ≤ x)
theorem dd_128_21 : decode (mB 128) 21 = .ok (.aload_n 0, 1) := by decide +kernel
theorem u_128_21 {G : aG} {S : Nat → Bool} {f : Nat} {st : List Value} {ls : aL} {h : aH} {k n : Nat} (hs : S 21 = false) : WP 128 G S (f + 1) 21 ls st h k n = (oA (lget ls 0) (WP 128 G S f) 22 ls st h k n) := by rw [wp_s dd_128_21 rfl hs]; rfl
theorem dd_128_22 : decode (mB 128) 22 = .ok (.getfield 43, 3) := by decide +kernel
theorem u_128_22 {G : aG} {S : Nat → Bool} {f : Nat} {st : List Value} {ls : aL} {h : aH} {k n : Nat} {a : Nat} (hs : S 22 = false) : WP 128 G S (f + 1) 22 ls (.ref a :: st) h k n = (oV (fget h a 10 13) (WP 128 G S f) 25 ls st h k n) := by rw [wp_s dd_128_22 rfl hs]; rfl
theorem dd_128_25 : decode (mB 128) 25 = .ok (.sipush 256, 3) := by decide +kernel
theorem u_128_25 {G : aG} {S : Nat → Bool} {f : Nat} {st : List Value} {ls : aL} {h : aH} {k n : Nat} (hs : S 25 = false) : WP 128 G S (f + 1) 25 ls st h k n = (WP 128 G S f 28 ls (.int (nI 256) :: st) h k n) := by rw [wp_s dd_128_25 rfl hs]; rfl
theorem dd_128_28 : decode (mB 128) 28 = .ok (.iload_n 1, 1) := by decide +kernel
theorem u_128_28 {G : aG} {S : Nat → Bool} {f : Nat} {st : List Value} {ls : aL} {h : aH} {k n : Nat} (hs : S 28 = false) : WP 128 G S (f + 1) 28 ls st h k n = (oI (lget ls 1) (WP 128 G S f) 29 ls st h k n) := by rw [wp_s dd_128_28 rfl hs]; rfl
theorem dd_128_29 : decode (mB 128) 29 = .ok (.imul, 1) := by decide +kernel
theorem u_128_29 {G : aG} {S : Nat → Bool} {f : Nat} {st : List Value} {ls : aL} {h : aH} {k n : Nat} {x y : Int32} (hs : S 29 = false) : WP 128 G S (f + 1) 29 ls (.int y :: .int x :: st) h k n = (WP 128 G S f 30 ls (.int (x * y) :: st) h k n) := by rw [wp_s dd_128_29 rfl hs]; rfl
theorem dd_128_30 : decode (mB 128) 30 = .ok (.iload 4, 2) := by decide +kernel
theorem u_128_30 {G : aG} {S : Nat → Bool} {f : Nat} {st : List Value} {ls : aL} {h : aH} {k n : Nat} (hs : S 30 = false) : WP 128 G S (f + 1) 30 ls st h k n = (oI (lget ls 4) (WP 128 G S f) 32 ls st h k n) := by rw [wp_s dd_128_30 rfl hs]; rfl
theorem dd_128_32 : decode (mB 128) 32 = .ok (.iadd, 1) := by decide +kernel
theorem u_128_32 {G : aG} {S : Nat → Bool} {f : Nat} {st : List Value} {ls : aL} {h : aH} {k n : Nat} {x y : Int32} (hs : S 32 = false) : WP 128 G S (f + 1) 32 ls (.int y :: .int x :: st) h k n = (WP 128 G S f 33 ls (.int (x + y) :: st) h k n) := by rw [wp_s dd_128_32 rfl hs]; rfl
theorem dd_128_33 : decode (mB 128) 33 = .ok (.iaload, 1) := by decide +kernel
theorem u_128_33 {G : aG} {S : Nat → Bool} {f : Nat} {st : List Value} {ls : aL} {h : aH} {k n : Nat} {i : Int32} {a : Nat} (hs : S 33 = false) : WP 128 G S (f + 1) 33 ls (.int i :: .ref a :: st) h k n = (oIld (iget h a 1) i (WP 128 G S f) 34 ls st h k n) := by rw [wp_s dd_128_33 rfl hs]; rfl
theorem dd_128_34 : decode (mB 128) 34 = .ok (.istore 5, 2) := by decide +kernel
theorem u_128_34 {G : aG} {S : Nat → Bool} {f : Nat} {st : List Value} {ls : aL} {h : aH} {k n : Nat} {x : Int32} (hs : S 34 = false) : WP 128 G S (f + 1) 34 ls (.int x :: st) h k n = (WP 128 G S f 36 (lput1 ls 5 (.int x)) st h k n) := by rw [wp_s dd_128_34 rfl hs]; rfl
theorem dd_128_36 : decode (mB 128) 36 = .ok (.aload_n 0, 1) := by decide +kernel
theorem u_128_36 {G : aG} {S : Nat → Bool} {f : Nat} {st : List Value} {ls : aL} {h : aH} {k n : Nat} (hs : S 36 = false) : WP 128 G S (f + 1) 36 ls st h k n = (oA (lget ls 0) (WP 128 G S f) 37 ls st h k n) := by rw [wp_s dd_128_36 rfl hs]; rfl
theorem dd_128_37 : decode (mB 128) 37 = .ok (.iload 5, 2) := by decide +kernel
theorem u_128_37 {G : aG} {S : Nat → Bool} {f : Nat} {st : List Value} {ls : aL} {h : aH} {k n : Nat} (hs : S 37 = false) : WP 128 G S (f + 1) 37 ls st h k n = (oI (lget ls 5) (WP 128 G S f) 39 ls st h k n) := by rw [wp_s dd_128_37 rfl hs]; rfl
theorem dd_128_39 : decode (mB 128) 39 = .ok (.invokevirtual 96, 3) := by decide +kernel
theorem u_128_39 {G : aG} {S : Nat → Bool} {f : Nat} {st : List Value} {ls : aL} {h : aH} {k n : Nat} {v1 : Value} {b : Nat} (hs : S 39 = false) : WP 128 G S (f + 1) 39 ls (v1 :: .ref b :: st) h k n = (rcv (hget h b) 10 ∧ CAL G (WP 128 G S f) 129 [.ref b, v1] 42 ls st h k n) := by rw [wp_s dd_128_39 rfl hs]; rfl
theorem dd_128_42 : decode (mB 128) 42 = .ok (.istore 6, 2) := by decide +kernel
theorem u_128_42 {G : aG} {S : Nat → Bool} {f : Nat} {st : List Value} {ls : aL} {h : aH} {k n : Nat} {x : Int32} (hs : S 42 = false) : WP 128 G S (f + 1) 42 ls (.int x :: st) h k n = (WP 128 G S f 44 (lput1 ls 6 (.int x)) st h k n) := by rw [wp_s dd_128_42 rfl hs]; rfl
theorem dd_128_44 : decode (mB 128) 44 = .ok (.iconst 0, 1) := by decide +kernel
theorem u_128_44 {G : aG} {S : Nat → Bool} {f : Nat} {st : List Value} {ls : aL} {h : aH} {k n : Nat} (hs : S 44 = false) : WP 128 G S (f + 1) 44 ls st h k n = (WP 128 G S f 45 ls (.int (nI 0) :: st) h k n) := by rw [wp_s dd_128_44 rfl hs]; rfl
theorem dd_128_45 : decode (mB 128) 45 = .ok (.istore 7, 2) := by decide +kernel
theorem u_128_45 {G : aG} {S : Nat → Bool} {f : Nat} {st : List Value} {ls : aL} {h : aH} {k n : Nat} {x : Int32} (hs : S 45 = false) : WP 128 G S (f + 1) 45 ls (.int x :: st) h k n = (WP 128 G S f 47 (lput1 ls 7 (.int x)) st h k n) := by rw [wp_s dd_128_45 rfl hs]; rfl
theorem dd_128_47 : decode (mB 128) 47 = .ok (.iload 7, 2) := by decide +kernel
theorem u_128_47 {G : aG} {S : Nat → Bool} {f : Nat} {st : List Value} {ls : aL} {h : aH} {k n : Nat} (hs : S 47 = false) : WP 128 G S (f + 1) 47 ls st h k n = (oI (lget ls 7) (WP 128 G S f) 49 ls st h k n) := by rw [wp_s dd_128_47 rfl hs]; rfl
theorem v_128_47 {G : aG} {S : Nat → Bool} {f : Nat} {st : List Value} {ls : aL} {h : aH} {k n : Nat} : WQ 128 G S f 47 ls st h k n = (oI (lget ls 7) (WP 128 G S f) 49 ls st h k n) := by rw [wq_s dd_128_47 rfl]; rfl
theorem dd_128_49 : decode (mB 128) 49 = .ok (.aload_n 0, 1) := by decide +kernel
theorem u_128_49 {G : aG} {S : Nat → Bool} {f : Nat} {st : List Value} {ls : aL} {h : aH} {k n : Nat} (hs : S 49 = false) : WP 128 G S (f + 1) 49 ls st h k n = (oA (lget ls 0) (WP 128 G S f) 50 ls st h k n) := by rw [wp_s dd_128_49 rfl hs]; rfl
theorem dd_128_50 : decode (mB 128) 50 = .ok (.getfield 81, 3) := by decide +kernel
theorem u_128_50 {G : aG} {S : Nat → Bool} {f : Nat} {st : List Value} {ls : aL} {h : aH} {k n : Nat} {a : Nat} (hs : S 50 = false) : WP 128 G S (f + 1) 50 ls (.ref a :: st) h k n = (oV (fget h a 10 4) (WP 128 G S f) 53 ls st h k n) := by rw [wp_s dd_128_50 rfl hs]; rfl
theorem dd_128_53 : decode (mB 128) 53 = .ok (.if_icmp .ge 31, 3) := by decide +kernel
theorem u_128_53 {G : aG} {S : Nat → Bool} {f : Nat} {st : List Value} {ls : aL} {h : aH} {k n : Nat} {x y : Int32} (hs : S 53 = false) : WP 128 G S (f + 1) 53 ls (.int y :: .int x :: st) h k n = (if y ≤ x then WP 128 G S f 84 ls st h k n else WP 128 G S f 56 ls st h k n) := by rw [wp_s dd_128_53 rfl hs]; exact br_ite (c := y ≤ x)
theorem dd_128_56 : decode (mB 128) 56 = .ok (.aload_n 0, 1) := by decide +kernel
theorem u_128_56 {G : aG} {S : Nat → Bool} {f : Nat} {st : List Value} {ls : aL} {h : aH} {k n : Nat} (hs : S 56 = false) : WP 128 G S (f + 1) 56 ls st h k n = (oA (lget ls 0) (WP 128 G S f) 57 ls st h k n) := by rw [wp_s dd_128_56 rfl hs]; rfl
theorem dd_128_57 : decode (mB 128) 57 = .ok (.getfield 19, 3) := by decide +kernel
theorem u_128_57 {G : aG} {S : Nat → Bool} {f : Nat} {st : List Value} {ls : aL} {h : aH} {k n : Nat} {a : Nat} (hs : S 57 = false) : WP 128 G S (f + 1) 57 ls (.ref a :: st) h k n = (oV (fget h a 10 5) (WP 128 G S f) 60 ls st h k n) := by rw [wp_s dd_128_57 rfl hs]; rfl
theorem dd_128_60 : decode (mB 128) 60 = .ok (.iload 7, 2) := by decide +kernel
theorem u_128_60 {G : aG} {S : Nat → Bool} {f : Nat} {st : List Value} {ls : aL} {h : aH} {k n : Nat} (hs : S 60 = false) : WP 128 G S (f + 1) 60 ls st h k n = (oI (lget ls 7) (WP 128 G S f) 62 ls st h k n) := by rw [wp_s dd_128_60 rfl hs]; rfl
theorem dd_128_62 : decode (mB 128) 62 = .ok (.iaload, 1) := by decide +kernel
theorem u_128_62 {G : aG} {S : Nat → Bool} {f : Nat} {st : List Value} {ls : aL} {h : aH} {k n : Nat} {i : Int32} {a : Nat} (hs : S 62 = false) : WP 128 G S (f + 1) 62 ls (.int i :: .ref a :: st) h k n = (oIld (iget h a 1) i (WP 128 G S f) 63 ls st h k n) := by rw [wp_s dd_128_62 rfl hs]; rfl
theorem dd_128_63 : decode (mB 128) 63 = .ok (.iload_n 2, 1) := by decide +kernel
theorem u_128_63 {G : aG} {S : Nat → Bool} {f : Nat} {st : List Value} {ls : aL} {h : aH} {k n : Nat} (hs : S 63 = false) : WP 128 G S (f + 1) 63 ls st h k n = (oI (lget ls 2) (WP 128 G S f) 64 ls st h k n) := by rw [wp_s dd_128_63 rfl hs]; rfl
theorem dd_128_64 : decode (mB 128) 64 = .ok (.iconst 1, 1) := by decide +kernel
theorem u_128_64 {G : aG} {S : Nat → Bool} {f : Nat} {st : List Value} {ls : aL} {h : aH} {k n : Nat} (hs : S 64 = false) : WP 128 G S (f + 1) 64 ls st h k n = (WP 128 G S f 65 ls (.int (nI 1) :: st) h k n) := by rw [wp_s dd_128_64 rfl hs]; rfl
theorem dd_128_65 : decode (mB 128) 65 = .ok (.iadd, 1) := by decide +kernel
theorem u_128_65 {G : aG} {S : Nat → Bool} {f : Nat} {st : List Value} {ls : aL} {h : aH} {k n : Nat} {x y : Int32} (hs : S 65 = false) : WP 128 G S (f + 1) 65 ls (.int y :: .int x :: st) h k n = (WP 128 G S f 66 ls (.int (x + y) :: st) h k n) := by rw [wp_s dd_128_65 rfl hs]; rfl
theorem dd_128_66 : decode (mB 128) 66 = .ok (.if_icmp .ne 12, 3) := by decide +kernel
theorem u_128_66 {G : aG} {S : Nat → Bool} {f : Nat} {st : List Value} {ls : aL} {h : aH} {k n : Nat} {x y : Int32} (hs : S 66 = false) : WP 128 G S (f + 1) 66 ls (.int y :: .int x :: st) h k n = (if x = y then WP 128 G S f 69 ls st h k n else WP 128 G S f 78 ls st h k n) := by rw [wp_s dd_128_66 rfl hs]; exact br_iten (c := x = y)
theorem dd_128_69 : decode (mB 128) 69 = .ok (.aload_n 0, 1) := by decide +kernel
theorem u_128_69 {G : aG} {S : Nat → Bool} {f : Nat} {st : List Value} {ls : aL} {h : aH} {k n : Nat} (hs : S 69 = false) : WP 128 G S (f + 1) 69 ls st h k n = (oA (lget ls 0) (WP 128 G S f) 70 ls st h k n) := by rw [wp_s dd_128_69 rfl hs]; rfl
theorem dd_128_70 : decode (mB 128) 70 = .ok (.iload 5, 2) := by decide +kernel
theorem u_128_70 {G : aG} {S : Nat → Bool} {f : Nat} {st : List Value} {ls : aL} {h : aH} {k n : Nat} (hs : S 70 = false) : WP 128 G S (f + 1) 70 ls st h k n = (oI (lget ls 5) (WP 128 G S f) 72 ls st h k n) := by rw [wp_s dd_128_70 rfl hs]; rfl
theorem dd_128_72 : decode (mB 128) 72 = .ok (.iload 7, 2) := by decide +kernel
theorem u_128_72 {G : aG} {S : Nat → Bool} {f : Nat} {st : List Value} {ls : aL} {h : aH} {k n : Nat} (hs : S 72 = false) : WP 128 G S (f + 1) 72 ls st h k n = (oI (lget ls 7) (WP 128 G S f) 74 ls st h k n) := by rw [wp_s dd_128_72 rfl hs]; rfl
theorem dd_128_74 : decode (mB 128) 74 = .ok (.iload_n 3, 1) := by decide +kernel
theorem u_128_74 {G : aG} {S : Nat → Bool} {f : Nat} {st : List Value} {ls : aL} {h : aH} {k n : Nat} (hs : S 74 = false) : WP 128 G S (f + 1) 74 ls st h k n = (oI (lget ls 3) (WP 128 G S f) 75 ls st h k n) := by rw [wp_s dd_128_74 rfl hs]; rfl
theorem dd_128_75 : decode (mB 128) 75 = .ok (.invokevirtual 100, 3) := by decide +kernel
theorem u_128_75 {G : aG} {S : Nat → Bool} {f : Nat} {st : List Value} {ls : aL} {h : aH} {k n : Nat} {v1 v2 v3 : Value} {b : Nat} (hs : S 75 = false) : WP 128 G S (f + 1) 75 ls (v3 :: v2 :: v1 :: .ref b :: st) h k n = (rcv (hget h b) 10 ∧ CAL G (WP 128 G S f) 130 [.ref b, v1, v2, v3] 78 ls st h k n) := by rw [wp_s dd_128_75 rfl hs]; rfl
theorem dd_128_78 : decode (mB 128) 78 = .ok (.iinc 7 1, 3) := by decide +kernel
theorem u_128_78 {G : aG} {S : Nat → Bool} {f : Nat} {st : List Value} {ls : aL} {h : aH} {k n : Nat} (hs : S 78 = false) : WP 128 G S (f + 1) 78 ls st h k n = (oInc (lget ls 7) (nI 1) (WP 128 G S f) 7 81 ls st h k n) := by rw [wp_s dd_128_78 rfl hs]; rfl
theorem dd_128_81 : decode (mB 128) 81 = .ok (.goto (-34), 3) := by decide +kernel
theorem u_128_81 {G : aG} {S : Nat → Bool} {f : Nat} {st : List Value} {ls : aL} {h : aH} {k n : Nat} (hs : S 81 = false) : WP 128 G S (f + 1) 81 ls st h k n = (WP 128 G S f 47 ls st h k n) := by rw [wp_s dd_128_81 rfl hs]; rfl
theorem dd_128_84 : decode (mB 128) 84 = .ok (.iinc 4 1, 3) := by decide +kernel
theorem u_128_84 {G : aG} {S : Nat → Bool} {f : Nat} {st : List Value} {ls : aL} {h : aH} {k n : Nat} (hs : S 84 = false) : WP 128 G S (f + 1) 84 ls st h k n = (oInc (lget ls 4) (nI 1) (WP 128 G S f) 4 87 ls st h k n) := by rw [wp_s dd_128_84 rfl hs]; rfl
theorem dd_128_87 : decode (mB 128) 87 = .ok (.goto (-77), 3) := by decide +kernel
theorem u_128_87 {G : aG} {S : Nat → Bool} {f : Nat} {st : List Value} {ls : aL} {h : aH} {k n : Nat} (hs : S 87 = false) : WP 128 G S (f + 1) 87 ls st h k n = (WP 128 G S f 10 ls st h k n) := by rw [wp_s dd_128_87 rfl hs]; rfl
theorem dd_128_90 : decode (mB 128) 90 = .ok (.aload_n 0, 1) := by decide +kernel
theorem u_128_90 {G : aG} {S : Nat → Bool} {f : Nat} {st : List Value} {ls : aL} {h : aH} {k n : Nat} (hs : S 90 = false) : WP 128 G S (f + 1) 90 ls st h k n = (oA (lget ls 0) (WP 128 G S f) 91 ls st h k n) := by rw [wp_s dd_128_90 rfl hs]; rfl
theorem dd_128_91 : decode (mB 128) 91 = .ok (.getfield 46, 3) := by decide +kernel
theorem u_128_91 {G : aG} {S : Nat → Bool} {f : Nat} {st : List Value} {ls : aL} {h : aH} {k n : Nat} {a : Nat} (hs : S 91 = false) : WP 128 G S (f + 1) 91 ls (.ref a :: st) h k n = (oV (fget h a 10 14) (WP 128 G S f) 94 ls st h k n) := by rw [wp_s dd_128_91 rfl hs]; rfl
theorem dd_128_94 : decode (mB 128) 94 = .ok (.iload_n 3, 1) := by decide +kernel
theorem u_128_94 {G : aG} {S : Nat → Bool} {f : Nat} {st : List Value} {ls : aL} {h : aH} {k n : Nat} (hs : S 94 = false) : WP 128 G S (f + 1) 94 ls st h k n = (oI (lget ls 3) (WP 128 G S f) 95 ls st h k n) := by rw [wp_s dd_128_94 rfl hs]; rfl
theorem dd_128_95 : decode (mB 128) 95 = .ok (.iaload, 1) := by decide +kernel
theorem u_128_95 {G : aG} {S : Nat → Bool} {f : Nat} {st : List Value} {ls : aL} {h : aH} {k n : Nat} {i : Int32} {a : Nat} (hs : S 95 = false) : WP 128 G S (f + 1) 95 ls (.int i :: .ref a :: st) h k n = (oIld (iget h a 1) i (WP 128 G S f) 96 ls st h k n) := by rw [wp_s dd_128_95 rfl hs]; rfl
theorem dd_128_96 : decode (mB 128) 96 = .ok (.ifCond .le 7, 3) := by decide +kernel
theorem u_128_96 {G : aG} {S : Nat → Bool} {f : Nat} {st : List Value} {ls : aL} {h : aH} {k n : Nat} {x : Int32} (hs : S 96 = false) : WP 128 G S (f + 1) 96 ls (.int x :: st) h k n = (if x ≤ nI 0 then WP 128 G S f 103 ls st h k n else WP 128 G S f 99 ls st h k n) := by rw [wp_s dd_128_96 rfl hs]; exact br_ite (c := x ≤ nI 0)
theorem dd_128_99 : decode (mB 128) 99 = .ok (.iconst 1, 1) := by decide +kernel
theorem u_128_99 {G : aG} {S : Nat → Bool} {f : Nat} {st : List Value} {ls : aL} {h : aH} {k n : Nat} (hs : S 99 = false) : WP 128 G S (f + 1) 99 ls st h k n = (WP 128 G S f 100 ls (.int (nI 1) :: st) h k n) := by rw [wp_s dd_128_99 rfl hs]; rfl
theorem dd_128_100 : decode (mB 128) 100 = .ok (.goto 4, 3) := by decide +kernel
theorem u_128_100 {G : aG} {S : Nat → Bool} {f : Nat} {st : List Value} {ls : aL} {h : aH} {k n : Nat} (hs : S 100 = false) : WP 128 G S (f + 1) 100 ls st h k n = (WP 128 G S f 104 ls st h k n) := by rw [wp_s dd_128_100 rfl hs]; rfl
theorem dd_128_103 : decode (mB 128) 103 = .ok (.iconst 0, 1) := by decide +kernel
theorem u_128_103 {G : aG} {S : Nat → Bool} {f : Nat} {st : List Value} {ls : aL} {h : aH} {k n : Nat} (hs : S 103 = false) : WP 128 G S (f + 1) 103 ls st h k n = (WP 128 G S f 104 ls (.int (nI 0) :: st) h k n) := by rw [wp_s dd_128_103 rfl hs]; rfl
theorem dd_128_104 : decode (mB 128) 104 = .ok (.ireturn, 1) := by decide +kernel
theorem u_128_104 {G : aG} {S : Nat → Bool} {f : Nat} {ls : aL} {h : aH} {k n : Nat} {x : Int32} (hs : S 104 = false) : WP 128 G S (f + 1) 104 ls [.int x] h k n = (cond (x == nI 0 || x == nI 1) (RET G (some (.int x)) h k n) False) := by rw [wp_s dd_128_104 rfl hs]; rfl
theorem dd_129_0 : decode (mB 129) 0 = .ok (.iconst 0, 1) := by decide +kernel
theorem u_129_0 {G : aG} {S : Nat → Bool} {f : Nat} {st : List Value} {ls : aL} {h : aH} {k n : Nat} (hs : S 0 = false) : WP 129 G S (f + 1) 0 ls st h k n = (WP 129 G S f 1 ls (.int (nI 0) :: st) h k n) := by rw [wp_s dd_129_0 rfl hs]; rfl
theorem dd_129_1 : decode (mB 129) 1 = .ok (.istore_n 2, 1) := by decide +kernel
theorem u_129_1 {G : aG} {S : Nat → Bool} {f : Nat} {st : List Value} {ls : aL} {h : aH} {k n : Nat} {x : Int32} (hs : S 1 = false) : WP 129 G S (f + 1) 1 ls (.int x :: st) h k n = (WP 129 G S f 2 (lput1 ls 2 (.int x)) st h k n) := by rw [wp_s dd_129_1 rfl hs]; rfl
theorem dd_129_2 : decode (mB 129) 2 = .ok (.iload_n 2, 1) := by decide +kernel
theorem u_129_2 {G : aG} {S : Nat → Bool} {f : Nat} {st : List Value} {ls : aL} {h : aH} {k n : Nat} (hs : S 2 = false) : WP 129 G S (f + 1) 2 ls st h k n = (oI (lget ls 2) (WP 129 G S f) 3 ls st h k n) := by rw [wp_s dd_129_2 rfl hs]; rfl
theorem v_129_2 {G : aG} {S : Nat → Bool} {f : Nat} {st : List Value} {ls : aL} {h : aH} {k n : Nat} : WQ 129 G S f 2 ls st h k n = (oI (lget ls 2) (WP 129 G S f) 3 ls st h k n) := by rw [wq_s dd_129_2 rfl]; rfl
theorem dd_129_3 : decode (mB 129) 3 = .ok (.aload_n 0, 1) := by decide +kernel
theorem u_129_3 {G : aG} {S : Nat → Bool} {f : Nat} {st : List Value} {ls : aL} {h : aH} {k n : Nat} (hs : S 3 = false) : WP 129 G S (f + 1) 3 ls st h k n = (oA (lget ls 0) (WP 129 G S f) 4 ls st h k n) := by rw [wp_s dd_129_3 rfl hs]; rfl
theorem dd_129_4 : decode (mB 129) 4 = .ok (.getfield 81, 3) := by decide +kernel
theorem u_129_4 {G : aG} {S : Nat → Bool} {f : Nat} {st : List Value} {ls : aL} {h : aH} {k n : Nat} {a : Nat} (hs : S 4 = false) : WP 129 G S (f + 1) 4 ls (.ref a :: st) h k n = (oV (fget h a 10 4) (WP 129 G S f) 7 ls st h k n) := by rw [wp_s dd_129_4 rfl hs]; rfl
theorem dd_129_7 : decode (mB 129) 7 = .ok (.if_icmp .ge 277, 3) := by decide +kernel
theorem u_129_7 {G : aG} {S : Nat → Bool} {f : Nat} {st : List Value} {ls : aL} {h : aH} {k n : Nat} {x y : Int32} (hs : S 7 = false) : WP 129 G S (f + 1) 7 ls (.int y :: .int x :: st) h k n = (if y ≤ x then WP 129 G S f 284 ls st h k n else WP 129 G S f 10 ls st h k n) := by rw [wp_s dd_129_7 rfl hs]; exact br_ite (c := y ≤ x)
theorem dd_129_10 : decode (mB 129) 10 = .ok (.aload_n 0, 1) := by decide +kernel
theorem u_129_10 {G : aG} {S : Nat → Bool} {f : Nat} {st : List Value} {ls : aL} {h : aH} {k n : Nat} (hs : S 10 = false) : WP 129 G S (f + 1) 10 ls st h k n = (oA (lget ls 0) (WP 129 G S f) 11 ls st h k n) := by rw [wp_s dd_129_10 rfl hs]; rfl
theorem dd_129_11 : decode (mB 129) 11 = .ok (.getfield 22, 3) := by decide +kernel
theorem u_129_11 {G : aG} {S : Nat → Bool} {f : Nat} {st : List Value} {ls : aL} {h : aH} {k n : Nat} {a : Nat} (hs : S 11 = false) : WP 129 G S (f + 1) 11 ls (.ref a :: st) h k n = (oV (fget h a 10 6) (WP 129 G S f) 14 ls st h k n) := by rw [wp_s dd_129_11 rfl hs]; rfl
theorem dd_129_14 : decode (mB 129) 14 = .ok (.iload_n 2, 1) := by decide +kernel
theorem u_129_14 {G : aG} {S : Nat → Bool} {f : Nat} {st : List Value} {ls : aL} {h : aH} {k n : Nat} (hs : S 14 = false) : WP 129 G S (f + 1) 14 ls st h k n = (oI (lget ls 2) (WP 129 G S f) 15 ls st h k n) := by rw [wp_s dd_129_14 rfl hs]; rfl
theorem dd_129_15 : decode (mB 129) 15 = .ok (.iaload, 1) := by decide +kernel
theorem u_129_15 {G : aG} {S : Nat → Bool} {f : Nat} {st : List Value} {ls : aL} {h : aH} {k n : Nat} {i : Int32} {a : Nat} (hs : S 15 = false) : WP 129 G S (f + 1) 15 ls (.int i :: .ref a :: st) h k n = (oIld (iget h a 1) i (WP 129 G S f) 16 ls st h k n) := by rw [wp_s dd_129_15 rfl hs]; rfl
theorem dd_129_16 : decode (mB 129) 16 = .ok (.istore_n 3, 1) := by decide +kernel
theorem u_129_16 {G : aG} {S : Nat → Bool} {f : Nat} {st : List Value} {ls : aL} {h : aH} {k n : Nat} {x : Int32} (hs : S 16 = false) : WP 129 G S (f + 1) 16 ls (.int x :: st) h k n = (WP 129 G S f 17 (lput1 ls 3 (.int x)) st h k n) := by rw [wp_s dd_129_16 rfl hs]; rfl
theorem dd_129_17 : decode (mB 129) 17 = .ok (.aload_n 0, 1) := by decide +kernel
theorem u_129_17 {G : aG} {S : Nat → Bool} {f : Nat} {st : List Value} {ls : aL} {h : aH} {k n : Nat} (hs : S 17 = false) : WP 129 G S (f + 1) 17 ls st h k n = (oA (lget ls 0) (WP 129 G S f) 18 ls st h k n) := by rw [wp_s dd_129_17 rfl hs]; rfl
theorem dd_129_18 : decode (mB 129) 18 = .ok (.getfield 25, 3) := by decide +kernel
theorem u_129_18 {G : aG} {S : Nat → Bool} {f : Nat} {st : List Value} {ls : aL} {h : aH} {k n : Nat} {a : Nat} (hs : S 18 = false) : WP 129 G S (f + 1) 18 ls (.ref a :: st) h k n = (oV (fget h a 10 7) (WP 129 G S f) 21 ls st h k n) := by rw [wp_s dd_129_18 rfl hs]; rfl
theorem dd_129_21 : decode (mB 129) 21 = .ok (.iload_n 2, 1) := by decide +kernel
theorem u_129_21 {G : aG} {S : Nat → Bool} {f : Nat} {st : List Value} {ls : aL} {h : aH} {k n : Nat} (hs : S 21 = false) : WP 129 G S (f + 1) 21 ls st h k n = (oI (lget ls 2) (WP 129 G S f) 22 ls st h k n) := by rw [wp_s dd_129_21 rfl hs]; rfl
theorem dd_129_22 : decode (mB 129) 22 = .ok (.iaload, 1) := by decide +kernel
theorem u_129_22 {G : aG} {S : Nat → Bool} {f : Nat} {st : List Value} {ls : aL} {h : aH} {k n : Nat} {i : Int32} {a : Nat} (hs : S 22 = false) : WP 129 G S (f + 1) 22 ls (.int i :: .ref a :: st) h k n = (oIld (iget h a 1) i (WP 129 G S f) 23 ls st h k n) := by rw [wp_s dd_129_22 rfl hs]; rfl
theorem dd_129_23 : decode (mB 129) 23 = .ok (.istore 4, 2) := by decide +kernel
theorem u_129_23 {G : aG} {S : Nat → Bool} {f : Nat} {st : List Value} {ls : aL} {h : aH} {k n : Nat} {x : Int32} (hs : S 23 = false) : WP 129 G S (f + 1) 23 ls (.int x :: st) h k n = (WP 129 G S f 25 (lput1 ls 4 (.int x)) st h k n) := by rw [wp_s dd_129_23 rfl hs]; rfl
theorem dd_129_25 : decode (mB 129) 25 = .ok (.aload_n 0, 1) := by decide +kernel
theorem u_129_25 {G : aG} {S : Nat → Bool} {f : Nat} {st : List Value} {ls : aL} {h : aH} {k n : Nat} (hs : S 25 = false) : WP 129 G S (f + 1) 25 ls st h k n = (oA (lget ls 0) (WP 129 G S f) 26 ls st h k n) := by rw [wp_s dd_129_25 rfl hs]; rfl
theorem dd_129_26 : decode (mB 129) 26 = .ok (.getfield 37, 3) := by decide +kernel
theorem u_129_26 {G : aG} {S : Nat → Bool} {f : Nat} {st : List Value} {ls : aL} {h : aH} {k n : Nat} {a : Nat} (hs : S 26 = false) : WP 129 G S (f + 1) 26 ls (.ref a :: st) h k n = (oV (fget h a 10 11) (WP 129 G S f) 29 ls st h k n) := by rw [wp_s dd_129_26 rfl hs]; rfl
theorem dd_129_29 : decode (mB 129) 29 = .ok (.iload_n 2, 1) := by decide +kernel
theorem u_129_29 {G : aG} {S : Nat → Bool} {f : Nat} {st : List Value} {ls : aL} {h : aH} {k n : Nat} (hs : S 29 = false) : WP 129 G S (f + 1) 29 ls st h k n = (oI (lget ls 2) (WP 129 G S f) 30 ls st h k n) := by rw [wp_s dd_129_29 rfl hs]; rfl
theorem dd_129_30 : decode (mB 129) 30 = .ok (.iaload, 1) := by decide +kernel
theorem u_129_30 {G : aG} {S : Nat → Bool} {f : Nat} {st : List Value} {ls : aL} {h : aH} {k n : Nat} {i : Int32} {a : Nat} (hs : S 30 = false) : WP 129 G S (f + 1) 30 ls (.int i :: .ref a :: st) h k n = (oIld (iget h a 1) i (WP 129 G S f) 31 ls st h k n) := by rw [wp_s dd_129_30 rfl hs]; rfl
theorem dd_129_31 : decode (mB 129) 31 = .ok (.iconst 1, 1) := by decide +kernel
theorem u_129_31 {G : aG} {S : Nat → Bool} {f : Nat} {st : List Value} {ls : aL} {h : aH} {k n : Nat} (hs : S 31 = false) : WP 129 G S (f + 1) 31 ls st h k n = (WP 129 G S f 32 ls (.int (nI 1) :: st) h k n) := by rw [wp_s dd_129_31 rfl hs]; rfl
theorem dd_129_32 : decode (mB 129) 32 = .ok (.if_icmp .ne 7, 3) := by decide +kernel
theorem u_129_32 {G : aG} {S : Nat → Bool} {f : Nat} {st : List Value} {ls : aL} {h : aH} {k n : Nat} {x y : Int32} (hs : S 32 = false) : WP 129 G S (f + 1) 32 ls (.int y :: .int x :: st) h k n = (if x = y then WP 129 G S f 35 ls st h k n else WP 129 G S f 39 ls st h k n) := by rw [wp_s dd_129_32 rfl hs]; exact br_iten (c := x = y)
theorem dd_129_35 : decode (mB 129) 35 = .ok (.iconst 1, 1) := by decide +kernel
theorem u_129_35 {G : aG} {S : Nat → Bool} {f : Nat} {st : List Value} {ls : aL} {h : aH} {k n : Nat} (hs : S 35 = false) : WP 129 G S (f + 1) 35 ls st h k n = (WP 129 G S f 36 ls (.int (nI 1) :: st) h k n) := by rw [wp_s dd_129_35 rfl hs]; rfl
theorem dd_129_36 : decode (mB 129) 36 = .ok (.goto 4, 3) := by decide +kernel
theorem u_129_36 {G : aG} {S : Nat → Bool} {f : Nat} {st : List Value} {ls : aL} {h : aH} {k n : Nat} (hs : S 36 = false) : WP 129 G S (f + 1) 36 ls st h k n = (WP 129 G S f 40 ls st h k n) := by rw [wp_s dd_129_36 rfl hs]; rfl
theorem dd_129_39 : decode (mB 129) 39 = .ok (.iconst 0, 1) := by decide +kernel
theorem u_129_39 {G : aG} {S : Nat → Bool} {f : Nat} {st : List Value} {ls : aL} {h : aH} {k n : Nat} (hs : S 39 = false) : WP 129 G S (f + 1) 39 ls st h k n = (WP 129 G S f 40 ls (.int (nI 0) :: st) h k n) := by rw [wp_s dd_129_39 rfl hs]; rfl
theorem dd_129_40 : decode (mB 129) 40 = .ok (.istore 5, 2) := by decide +kernel
theorem u_129_40 {G : aG} {S : Nat → Bool} {f : Nat} {st : List Value} {ls : aL} {h : aH} {k n : Nat} {x : Int32} (hs : S 40 = false) : WP 129 G S (f + 1) 40 ls (.int x :: st) h k n = (WP 129 G S f 42 (lput1 ls 5 (.int x)) st h k n) := by rw [wp_s dd_129_40 rfl hs]; rfl
theorem dd_129_42 : decode (mB 129) 42 = .ok (.aload_n 0, 1) := by decide +kernel
theorem u_129_42 {G : aG} {S : Nat → Bool} {f : Nat} {st : List Value} {ls : aL} {h : aH} {k n : Nat} (hs : S 42 = false) : WP 129 G S (f + 1) 42 ls st h k n = (oA (lget ls 0) (WP 129 G S f) 43 ls st h k n) := by rw [wp_s dd_129_42 rfl hs]; rfl
theorem dd_129_43 : decode (mB 129) 43 = .ok (.getfield 31, 3) := by decide +kernel
theorem u_129_43 {G : aG} {S : Nat → Bool} {f : Nat} {st : List Value} {ls : aL} {h : aH} {k n : Nat} {a : Nat} (hs : S 43 = false) : WP 129 G S (f + 1) 43 ls (.ref a :: st) h k n = (oV (fget h a 10 9) (WP 129 G S f) 46 ls st h k n) := by rw [wp_s dd_129_43 rfl hs]; rfl
theorem dd_129_46 : decode (mB 129) 46 = .ok (.iload_n 2, 1) := by decide +kernel
theorem u_129_46 {G : aG} {S : Nat → Bool} {f : Nat} {st : List Value} {ls : aL} {h : aH} {k n : Nat} (hs : S 46 = false) : WP 129 G S (f + 1) 46 ls st h k n = (oI (lget ls 2) (WP 129 G S f) 47 ls st h k n) := by rw [wp_s dd_129_46 rfl hs]; rfl
theorem dd_129_47 : decode (mB 129) 47 = .ok (.iaload, 1) := by decide +kernel
theorem u_129_47 {G : aG} {S : Nat → Bool} {f : Nat} {st : List Value} {ls : aL} {h : aH} {k n : Nat} {i : Int32} {a : Nat} (hs : S 47 = false) : WP 129 G S (f + 1) 47 ls (.int i :: .ref a :: st) h k n = (oIld (iget h a 1) i (WP 129 G S f) 48 ls st h k n) := by rw [wp_s dd_129_47 rfl hs]; rfl
theorem dd_129_48 : decode (mB 129) 48 = .ok (.iload_n 1, 1) := by decide +kernel
theorem u_129_48 {G : aG} {S : Nat → Bool} {f : Nat} {st : List Value} {ls : aL} {h : aH} {k n : Nat} (hs : S 48 = false) : WP 129 G S (f + 1) 48 ls st h k n = (oI (lget ls 1) (WP 129 G S f) 49 ls st h k n) := by rw [wp_s dd_129_48 rfl hs]; rfl
theorem dd_129_49 : decode (mB 129) 49 = .ok (.iand, 1) := by decide +kernel
theorem u_129_49 {G : aG} {S : Nat → Bool} {f : Nat} {st : List Value} {ls : aL} {h : aH} {k n : Nat} {x y : Int32} (hs : S 49 = false) : WP 129 G S (f + 1) 49 ls (.int y :: .int x :: st) h k n = (WP 129 G S f 50 ls (.int (x &&& y) :: st) h k n) := by rw [wp_s dd_129_49 rfl hs]; rfl
theorem dd_129_50 : decode (mB 129) 50 = .ok (.ifCond .eq 212, 3) := by decide +kernel
theorem u_129_50 {G : aG} {S : Nat → Bool} {f : Nat} {st : List Value} {ls : aL} {h : aH} {k n : Nat} {x : Int32} (hs : S 50 = false) : WP 129 G S (f + 1) 50 ls (.int x :: st) h k n = (if x = nI 0 then WP 129 G S f 262 ls st h k n else WP 129 G S f 53 ls st h k n) := by rw [wp_s dd_129_50 rfl hs]; exact br_ite (c := x = nI 0)
theorem dd_129_53 : decode (mB 129) 53 = .ok (.aload_n 0, 1) := by decide +kernel
theorem u_129_53 {G : aG} {S : Nat → Bool} {f : Nat} {st : List Value} {ls : aL} {h : aH} {k n : Nat} (hs : S 53 = false) : WP 129 G S (f + 1) 53 ls st h k n = (oA (lget ls 0) (WP 129 G S f) 54 ls st h k n) := by rw [wp_s dd_129_53 rfl hs]; rfl
theorem dd_129_54 : decode (mB 129) 54 = .ok (.getfield 19, 3) := by decide +kernel
theorem u_129_54 {G : aG} {S : Nat → Bool} {f : Nat} {st : List Value} {ls : aL} {h : aH} {k n : Nat} {a : Nat} (hs : S 54 = false) : WP 129 G S (f + 1) 54 ls (.ref a :: st) h k n = (oV (fget h a 10 5) (WP 129 G S f) 57 ls st h k n) := by rw [wp_s dd_129_54 rfl hs]; rfl
theorem dd_129_57 : decode (mB 129) 57 = .ok (.iload_n 2, 1) := by decide +kernel
theorem u_129_57 {G : aG} {S : Nat → Bool} {f : Nat} {st : List Value} {ls : aL} {h : aH} {k n : Nat} (hs : S 57 = false) : WP 129 G S (f + 1) 57 ls st h k n = (oI (lget ls 2) (WP 129 G S f) 58 ls st h k n) := by rw [wp_s dd_129_57 rfl hs]; rfl
theorem dd_129_58 : decode (mB 129) 58 = .ok (.iaload, 1) := by decide +kernel
theorem u_129_58 {G : aG} {S : Nat → Bool} {f : Nat} {st : List Value} {ls : aL} {h : aH} {k n : Nat} {i : Int32} {a : Nat} (hs : S 58 = false) : WP 129 G S (f + 1) 58 ls (.int i :: .ref a :: st) h k n = (oIld (iget h a 1) i (WP 129 G S f) 59 ls st h k n) := by rw [wp_s dd_129_58 rfl hs]; rfl
theorem dd_129_59 : decode (mB 129) 59 = .ok (.tableswitch 200 9 14 #[37, 99, 149, 180, 180, 180], 37) := by decide +kernel
theorem u_129_59 {G : aG} {S : Nat → Bool} {f : Nat} {st : List Value} {ls : aL} {h : aH} {k n : Nat} {x : Int32} (hs : S 59 = false) : WP 129 G S (f + 1) 59 ls (.int x :: st) h k n = (if x = nI 9 then WP 129 G S f 96 ls st h k n else (if x = nI 10 then WP 129 G S f 158 ls st h k n else (if x = nI 11 then WP 129 G S f 208 ls st h k n else (if x = nI 12 then WP 129 G S f 239 ls st h k n else (if x = nI 13 then WP 129 G S f 239 ls st h k n else (if x = nI 14 then WP 129 G S f 239 ls st h k n else (WP 129 G S f 259 ls st h k n))))))) := by rw [wp_s dd_129_59 rfl hs]; show WP 129 G S f (tgtT 59 9 14 [37, 99, 149, 180, 180, 180] 200 x) ls st h k n = _; refine (ts_ite (K := fun q => WP 129 G S f q ls st h k n) (nI 9) rfl (by decide)).trans (if_cg ?_); refine (ts_ite (K := fun q => WP 129 G S f q ls st h k n) (nI 10) rfl (by decide)).trans (if_cg ?_); refine (ts_ite (K := fun q => WP 129 G S f q ls st h k n) (nI 11) rfl (by decide)).trans (if_cg ?_); refine (ts_ite (K := fun q => WP 129 G S f q ls st h k n) (nI 12) rfl (by decide)).trans (if_cg ?_); refine (ts_ite (K := fun q => WP 129 G S f q ls st h k n) (nI 13) rfl (by decide)).trans (if_cg ?_); refine (ts_ite (K := fun q => WP 129 G S f q ls st h k n) (nI 14) rfl (by decide)).trans (if_cg ?_); exact ts_nil (K := fun q => WP 129 G S f q ls st h k n) (by decide)
theorem dd_129_96 : decode (mB 129) 96 = .ok (.aload_n 0, 1) := by decide +kernel
theorem u_129_96 {G : aG} {S : Nat → Bool} {f : Nat} {st : List Value} {ls : aL} {h : aH} {k n : Nat} (hs : S 96 = false) : WP 129 G S (f + 1) 96 ls st h k n = (oA (lget ls 0) (WP 129 G S f) 97 ls st h k n) := by rw [wp_s dd_129_96 rfl hs]; rfl
theorem dd_129_97 : decode (mB 129) 97 = .ok (.getfield 31, 3) := by decide +kernel
theorem u_129_97 {G : aG} {S : Nat → Bool} {f : Nat} {st : List Value} {ls : aL} {h : aH} {k n : Nat} {a : Nat} (hs : S 97 = false) : WP 129 G S (f + 1) 97 ls (.ref a :: st) h k n = (oV (fget h a 10 9) (WP 129 G S f) 100 ls st h k n) := by rw [wp_s dd_129_97 rfl hs]; rfl
theorem dd_129_100 : decode (mB 129) 100 = .ok (.iload 4, 2) := by decide +kernel
theorem u_129_100 {G : aG} {S : Nat → Bool} {f : Nat} {st : List Value} {ls : aL} {h : aH} {k n : Nat} (hs : S 100 = false) : WP 129 G S (f + 1) 100 ls st h k n = (oI (lget ls 4) (WP 129 G S f) 102 ls st h k n) := by rw [wp_s dd_129_100 rfl hs]; rfl
theorem dd_129_102 : decode (mB 129) 102 = .ok (.iaload, 1) := by decide +kernel
theorem u_129_102 {G : aG} {S : Nat → Bool} {f : Nat} {st : List Value} {ls : aL} {h : aH} {k n : Nat} {i : Int32} {a : Nat} (hs : S 102 = false) : WP 129 G S (f + 1) 102 ls (.int i :: .ref a :: st) h k n = (oIld (iget h a 1) i (WP 129 G S f) 103 ls st h k n) := by rw [wp_s dd_129_102 rfl hs]; rfl
theorem dd_129_103 : decode (mB 129) 103 = .ok (.iload_n 1, 1) := by decide +kernel
theorem u_129_103 {G : aG} {S : Nat → Bool} {f : Nat} {st : List Value} {ls : aL} {h : aH} {k n : Nat} (hs : S 103 = false) : WP 129 G S (f + 1) 103 ls st h k n = (oI (lget ls 1) (WP 129 G S f) 104 ls st h k n) := by rw [wp_s dd_129_103 rfl hs]; rfl
theorem dd_129_104 : decode (mB 129) 104 = .ok (.iand, 1) := by decide +kernel
theorem u_129_104 {G : aG} {S : Nat → Bool} {f : Nat} {st : List Value} {ls : aL} {h : aH} {k n : Nat} {x y : Int32} (hs : S 104 = false) : WP 129 G S (f + 1) 104 ls (.int y :: .int x :: st) h k n = (WP 129 G S f 105 ls (.int (x &&& y) :: st) h k n) := by rw [wp_s dd_129_104 rfl hs]; rfl
theorem dd_129_105 : decode (mB 129) 105 = .ok (.ifCond .eq 22, 3) := by decide +kernel
theorem u_129_105 {G : aG} {S : Nat → Bool} {f : Nat} {st : List Value} {ls : aL} {h : aH} {k n : Nat} {x : Int32} (hs : S 105 = false) : WP 129 G S (f + 1) 105 ls (.int x :: st) h k n = (if x = nI 0 then WP 129 G S f 127 ls st h k n else WP 129 G S f 108 ls st h k n) := by rw [wp_s dd_129_105 rfl hs]; exact br_ite (c := x = nI 0)
theorem dd_129_108 : decode (mB 129) 108 = .ok (.aload_n 0, 1) := by decide +kernel
theorem u_129_108 {G : aG} {S : Nat → Bool} {f : Nat} {st : List Value} {ls : aL} {h : aH} {k n : Nat} (hs : S 108 = false) : WP 129 G S (f + 1) 108 ls st h k n = (oA (lget ls 0) (WP 129 G S f) 109 ls st h k n) := by rw [wp_s dd_129_108 rfl hs]; rfl
theorem dd_129_109 : decode (mB 129) 109 = .ok (.getfield 40, 3) := by decide +kernel
theorem u_129_109 {G : aG} {S : Nat → Bool} {f : Nat} {st : List Value} {ls : aL} {h : aH} {k n : Nat} {a : Nat} (hs : S 109 = false) : WP 129 G S (f + 1) 109 ls (.ref a :: st) h k n = (oV (fget h a 10 12) (WP 129 G S f) 112 ls st h k n) := by rw [wp_s dd_129_109 rfl hs]; rfl
theorem dd_129_112 : decode (mB 129) 112 = .ok (.iload 4, 2) := by decide +kernel
theorem u_129_112 {G : aG} {S : Nat → Bool} {f : Nat} {st : List Value} {ls : aL} {h : aH} {k n : Nat} (hs : S 112 = false) : WP 129 G S (f + 1) 112 ls st h k n = (oI (lget ls 4) (WP 129 G S f) 114 ls st h k n) := by rw [wp_s dd_129_112 rfl hs]; rfl
theorem dd_129_114 : decode (mB 129) 114 = .ok (.iaload, 1) := by decide +kernel
theorem u_129_114 {G : aG} {S : Nat → Bool} {f : Nat} {st : List Value} {ls : aL} {h : aH} {k n : Nat} {i : Int32} {a : Nat} (hs : S 114 = false) : WP 129 G S (f + 1) 114 ls (.int i :: .ref a :: st) h k n = (oIld (iget h a 1) i (WP 129 G S f) 115 ls st h k n) := by rw [wp_s dd_129_114 rfl hs]; rfl
theorem dd_129_115 : decode (mB 129) 115 = .ok (.iconst 1, 1) := by decide +kernel
theorem u_129_115 {G : aG} {S : Nat → Bool} {f : Nat} {st : List Value} {ls : aL} {h : aH} {k n : Nat} (hs : S 115 = false) : WP 129 G S (f + 1) 115 ls st h k n = (WP 129 G S f 116 ls (.int (nI 1) :: st) h k n) := by rw [wp_s dd_129_115 rfl hs]; rfl
theorem dd_129_116 : decode (mB 129) 116 = .ok (.if_icmp .ne 7, 3) := by decide +kernel
theorem u_129_116 {G : aG} {S : Nat → Bool} {f : Nat} {st : List Value} {ls : aL} {h : aH} {k n : Nat} {x y : Int32} (hs : S 116 = false) : WP 129 G S (f + 1) 116 ls (.int y :: .int x :: st) h k n = (if x = y then WP 129 G S f 119 ls st h k n else WP 129 G S f 123 ls st h k n) := by rw [wp_s dd_129_116 rfl hs]; exact br_iten (c := x = y)
theorem dd_129_119 : decode (mB 129) 119 = .ok (.iconst 1, 1) := by decide +kernel
theorem u_129_119 {G : aG} {S : Nat → Bool} {f : Nat} {st : List Value} {ls : aL} {h : aH} {k n : Nat} (hs : S 119 = false) : WP 129 G S (f + 1) 119 ls st h k n = (WP 129 G S f 120 ls (.int (nI 1) :: st) h k n) := by rw [wp_s dd_129_119 rfl hs]; rfl
theorem dd_129_120 : decode (mB 129) 120 = .ok (.goto 33, 3) := by decide +kernel
theorem u_129_120 {G : aG} {S : Nat → Bool} {f : Nat} {st : List Value} {ls : aL} {h : aH} {k n : Nat} (hs : S 120 = false) : WP 129 G S (f + 1) 120 ls st h k n = (WP 129 G S f 153 ls st h k n) := by rw [wp_s dd_129_120 rfl hs]; rfl
theorem dd_129_123 : decode (mB 129) 123 = .ok (.iconst 0, 1) := by decide +kernel
theorem u_129_123 {G : aG} {S : Nat → Bool} {f : Nat} {st : List Value} {ls : aL} {h : aH} {k n : Nat} (hs : S 123 = false) : WP 129 G S (f + 1) 123 ls st h k n = (WP 129 G S f 124 ls (.int (nI 0) :: st) h k n) := by rw [wp_s dd_129_123 rfl hs]; rfl
theorem dd_129_124 : decode (mB 129) 124 = .ok (.goto 29, 3) := by decide +kernel
theorem u_129_124 {G : aG} {S : Nat → Bool} {f : Nat} {st : List Value} {ls : aL} {h : aH} {k n : Nat} (hs : S 124 = false) : WP 129 G S (f + 1) 124 ls st h k n = (WP 129 G S f 153 ls st h k n) := by rw [wp_s dd_129_124 rfl hs]; rfl
theorem dd_129_127 : decode (mB 129) 127 = .ok (.aload_n 0, 1) := by decide +kernel
theorem u_129_127 {G : aG} {S : Nat → Bool} {f : Nat} {st : List Value} {ls : aL} {h : aH} {k n : Nat} (hs : S 127 = false) : WP 129 G S (f + 1) 127 ls st h k n = (oA (lget ls 0) (WP 129 G S f) 128 ls st h k n) := by rw [wp_s dd_129_127 rfl hs]; rfl
theorem dd_129_128 : decode (mB 129) 128 = .ok (.getfield 40, 3) := by decide +kernel
theorem u_129_128 {G : aG} {S : Nat → Bool} {f : Nat} {st : List Value} {ls : aL} {h : aH} {k n : Nat} {a : Nat} (hs : S 128 = false) : WP 129 G S (f + 1) 128 ls (.ref a :: st) h k n = (oV (fget h a 10 12) (WP 129 G S f) 131 ls st h k n) := by rw [wp_s dd_129_128 rfl hs]; rfl
theorem dd_129_131 : decode (mB 129) 131 = .ok (.iload_n 3, 1) := by decide +kernel
theorem u_129_131 {G : aG} {S : Nat → Bool} {f : Nat} {st : List Value} {ls : aL} {h : aH} {k n : Nat} (hs : S 131 = false) : WP 129 G S (f + 1) 131 ls st h k n = (oI (lget ls 3) (WP 129 G S f) 132 ls st h k n) := by rw [wp_s dd_129_131 rfl hs]; rfl
theorem dd_129_132 : decode (mB 129) 132 = .ok (.iaload, 1) := by decide +kernel
theorem u_129_132 {G : aG} {S : Nat → Bool} {f : Nat} {st : List Value} {ls : aL} {h : aH} {k n : Nat} {i : Int32} {a : Nat} (hs : S 132 = false) : WP 129 G S (f + 1) 132 ls (.int i :: .ref a :: st) h k n = (oIld (iget h a 1) i (WP 129 G S f) 133 ls st h k n) := by rw [wp_s dd_129_132 rfl hs]; rfl
theorem dd_129_133 : decode (mB 129) 133 = .ok (.iconst 1, 1) := by decide +kernel
theorem u_129_133 {G : aG} {S : Nat → Bool} {f : Nat} {st : List Value} {ls : aL} {h : aH} {k n : Nat} (hs : S 133 = false) : WP 129 G S (f + 1) 133 ls st h k n = (WP 129 G S f 134 ls (.int (nI 1) :: st) h k n) := by rw [wp_s dd_129_133 rfl hs]; rfl
theorem dd_129_134 : decode (mB 129) 134 = .ok (.if_icmp .ne 18, 3) := by decide +kernel
theorem u_129_134 {G : aG} {S : Nat → Bool} {f : Nat} {st : List Value} {ls : aL} {h : aH} {k n : Nat} {x y : Int32} (hs : S 134 = false) : WP 129 G S (f + 1) 134 ls (.int y :: .int x :: st) h k n = (if x = y then WP 129 G S f 137 ls st h k n else WP 129 G S f 152 ls st h k n) := by rw [wp_s dd_129_134 rfl hs]; exact br_iten (c := x = y)
theorem dd_129_137 : decode (mB 129) 137 = .ok (.aload_n 0, 1) := by decide +kernel
theorem u_129_137 {G : aG} {S : Nat → Bool} {f : Nat} {st : List Value} {ls : aL} {h : aH} {k n : Nat} (hs : S 137 = false) : WP 129 G S (f + 1) 137 ls st h k n = (oA (lget ls 0) (WP 129 G S f) 138 ls st h k n) := by rw [wp_s dd_129_137 rfl hs]; rfl
theorem dd_129_138 : decode (mB 129) 138 = .ok (.getfield 37, 3) := by decide +kernel
theorem u_129_138 {G : aG} {S : Nat → Bool} {f : Nat} {st : List Value} {ls : aL} {h : aH} {k n : Nat} {a : Nat} (hs : S 138 = false) : WP 129 G S (f + 1) 138 ls (.ref a :: st) h k n = (oV (fget h a 10 11) (WP 129 G S f) 141 ls st h k n) := by rw [wp_s dd_129_138 rfl hs]; rfl
theorem dd_129_141 : decode (mB 129) 141 = .ok (.iload 4, 2) := by decide +kernel
theorem u_129_141 {G : aG} {S : Nat → Bool} {f : Nat} {st : List Value} {ls : aL} {h : aH} {k n : Nat} (hs : S 141 = false) : WP 129 G S (f + 1) 141 ls st h k n = (oI (lget ls 4) (WP 129 G S f) 143 ls st h k n) := by rw [wp_s dd_129_141 rfl hs]; rfl
theorem dd_129_143 : decode (mB 129) 143 = .ok (.iaload, 1) := by decide +kernel
theorem u_129_143 {G : aG} {S : Nat → Bool} {f : Nat} {st : List Value} {ls : aL} {h : aH} {k n : Nat} {i : Int32} {a : Nat} (hs : S 143 = false) : WP 129 G S (f + 1) 143 ls (.int i :: .ref a :: st) h k n = (oIld (iget h a 1) i (WP 129 G S f) 144 ls st h k n) := by rw [wp_s dd_129_143 rfl hs]; rfl
theorem dd_129_144 : decode (mB 129) 144 = .ok (.iconst 1, 1) := by decide +kernel
theorem u_129_144 {G : aG} {S : Nat → Bool} {f : Nat} {st : List Value} {ls : aL} {h : aH} {k n : Nat} (hs : S 144 = false) : WP 129 G S (f + 1) 144 ls st h k n = (WP 129 G S f 145 ls (.int (nI 1) :: st) h k n) := by rw [wp_s dd_129_144 rfl hs]; rfl
theorem dd_129_145 : decode (mB 129) 145 = .ok (.if_icmp .ne 7, 3) := by decide +kernel
theorem u_129_145 {G : aG} {S : Nat → Bool} {f : Nat} {st : List Value} {ls : aL} {h : aH} {k n : Nat} {x y : Int32} (hs : S 145 = false) : WP 129 G S (f + 1) 145 ls (.int y :: .int x :: st) h k n = (if x = y then WP 129 G S f 148 ls st h k n else WP 129 G S f 152 ls st h k n) := by rw [wp_s dd_129_145 rfl hs]; exact br_iten (c := x = y)
theorem dd_129_148 : decode (mB 129) 148 = .ok (.iconst 1, 1) := by decide +kernel
theorem u_129_148 {G : aG} {S : Nat → Bool} {f : Nat} {st : List Value} {ls : aL} {h : aH} {k n : Nat} (hs : S 148 = false) : WP 129 G S (f + 1) 148 ls st h k n = (WP 129 G S f 149 ls (.int (nI 1) :: st) h k n) := by rw [wp_s dd_129_148 rfl hs]; rfl
theorem dd_129_149 : decode (mB 129) 149 = .ok (.goto 4, 3) := by decide +kernel
theorem u_129_149 {G : aG} {S : Nat → Bool} {f : Nat} {st : List Value} {ls : aL} {h : aH} {k n : Nat} (hs : S 149 = false) : WP 129 G S (f + 1) 149 ls st h k n = (WP 129 G S f 153 ls st h k n) := by rw [wp_s dd_129_149 rfl hs]; rfl
theorem dd_129_152 : decode (mB 129) 152 = .ok (.iconst 0, 1) := by decide +kernel
theorem u_129_152 {G : aG} {S : Nat → Bool} {f : Nat} {st : List Value} {ls : aL} {h : aH} {k n : Nat} (hs : S 152 = false) : WP 129 G S (f + 1) 152 ls st h k n = (WP 129 G S f 153 ls (.int (nI 0) :: st) h k n) := by rw [wp_s dd_129_152 rfl hs]; rfl
theorem dd_129_153 : decode (mB 129) 153 = .ok (.istore 5, 2) := by decide +kernel
theorem u_129_153 {G : aG} {S : Nat → Bool} {f : Nat} {st : List Value} {ls : aL} {h : aH} {k n : Nat} {x : Int32} (hs : S 153 = false) : WP 129 G S (f + 1) 153 ls (.int x :: st) h k n = (WP 129 G S f 155 (lput1 ls 5 (.int x)) st h k n) := by rw [wp_s dd_129_153 rfl hs]; rfl
theorem dd_129_155 : decode (mB 129) 155 = .ok (.goto 107, 3) := by decide +kernel
theorem u_129_155 {G : aG} {S : Nat → Bool} {f : Nat} {st : List Value} {ls : aL} {h : aH} {k n : Nat} (hs : S 155 = false) : WP 129 G S (f + 1) 155 ls st h k n = (WP 129 G S f 262 ls st h k n) := by rw [wp_s dd_129_155 rfl hs]; rfl
theorem dd_129_158 : decode (mB 129) 158 = .ok (.aload_n 0, 1) := by decide +kernel
theorem u_129_158 {G : aG} {S : Nat → Bool} {f : Nat} {st : List Value} {ls : aL} {h : aH} {k n : Nat} (hs : S 158 = false) : WP 129 G S (f + 1) 158 ls st h k n = (oA (lget ls 0) (WP 129 G S f) 159 ls st h k n) := by rw [wp_s dd_129_158 rfl hs]; rfl
theorem dd_129_159 : decode (mB 129) 159 = .ok (.getfield 31, 3) := by decide +kernel
theorem u_129_159 {G : aG} {S : Nat → Bool} {f : Nat} {st : List Value} {ls : aL} {h : aH} {k n : Nat} {a : Nat} (hs : S 159 = false) : WP 129 G S (f + 1) 159 ls (.ref a :: st) h k n = (oV (fget h a 10 9) (WP 129 G S f) 162 ls st h k n) := by rw [wp_s dd_129_159 rfl hs]; rfl
theorem dd_129_162 : decode (mB 129) 162 = .ok (.iload_n 3, 1) := by decide +kernel
theorem u_129_162 {G : aG} {S : Nat → Bool} {f : Nat} {st : List Value} {ls : aL} {h : aH} {k n : Nat} (hs : S 162 = false) : WP 129 G S (f + 1) 162 ls st h k n = (oI (lget ls 3) (WP 129 G S f) 163 ls st h k n) := by rw [wp_s dd_129_162 rfl hs]; rfl
theorem dd_129_163 : decode (mB 129) 163 = .ok (.iaload, 1) := by decide +kernel
theorem u_129_163 {G : aG} {S : Nat → Bool} {f : Nat} {st : List Value} {ls : aL} {h : aH} {k n : Nat} {i : Int32} {a : Nat} (hs : S 163 = false) : WP 129 G S (f + 1) 163 ls (.int i :: .ref a :: st) h k n = (oIld (iget h a 1) i (WP 129 G S f) 164 ls st h k n) := by rw [wp_s dd_129_163 rfl hs]; rfl
theorem dd_129_164 : decode (mB 129) 164 = .ok (.iload_n 1, 1) := by decide +kernel
theorem u_129_164 {G : aG} {S : Nat → Bool} {f : Nat} {st : List Value} {ls : aL} {h : aH} {k n : Nat} (hs : S 164 = false) : WP 129 G S (f + 1) 164 ls st h k n = (oI (lget ls 1) (WP 129 G S f) 165 ls st h k n) := by rw [wp_s dd_129_164 rfl hs]; rfl
theorem dd_129_165 : decode (mB 129) 165 = .ok (.iand, 1) := by decide +kernel
theorem u_129_165 {G : aG} {S : Nat → Bool} {f : Nat} {st : List Value} {ls : aL} {h : aH} {k n : Nat} {x y : Int32} (hs : S 165 = false) : WP 129 G S (f + 1) 165 ls (.int y :: .int x :: st) h k n = (WP 129 G S f 166 ls (.int (x &&& y) :: st) h k n) := by rw [wp_s dd_129_165 rfl hs]; rfl
theorem dd_129_166 : decode (mB 129) 166 = .ok (.ifCond .eq 21, 3) := by decide +kernel
theorem u_129_166 {G : aG} {S : Nat → Bool} {f : Nat} {st : List Value} {ls : aL} {h : aH} {k n : Nat} {x : Int32} (hs : S 166 = false) : WP 129 G S (f + 1) 166 ls (.int x :: st) h k n = (if x = nI 0 then WP 129 G S f 187 ls st h k n else WP 129 G S f 169 ls st h k n) := by rw [wp_s dd_129_166 rfl hs]; exact br_ite (c := x = nI 0)
theorem dd_129_169 : decode (mB 129) 169 = .ok (.aload_n 0, 1) := by decide +kernel
theorem u_129_169 {G : aG} {S : Nat → Bool} {f : Nat} {st : List Value} {ls : aL} {h : aH} {k n : Nat} (hs : S 169 = false) : WP 129 G S (f + 1) 169 ls st h k n = (oA (lget ls 0) (WP 129 G S f) 170 ls st h k n) := by rw [wp_s dd_129_169 rfl hs]; rfl
theorem dd_129_170 : decode (mB 129) 170 = .ok (.getfield 40, 3) := by decide +kernel
theorem u_129_170 {G : aG} {S : Nat → Bool} {f : Nat} {st : List Value} {ls : aL} {h : aH} {k n : Nat} {a : Nat} (hs : S 170 = false) : WP 129 G S (f + 1) 170 ls (.ref a :: st) h k n = (oV (fget h a 10 12) (WP 129 G S f) 173 ls st h k n) := by rw [wp_s dd_129_170 rfl hs]; rfl
theorem dd_129_173 : decode (mB 129) 173 = .ok (.iload_n 3, 1) := by decide +kernel
theorem u_129_173 {G : aG} {S : Nat → Bool} {f : Nat} {st : List Value} {ls : aL} {h : aH} {k n : Nat} (hs : S 173 = false) : WP 129 G S (f + 1) 173 ls st h k n = (oI (lget ls 3) (WP 129 G S f) 174 ls st h k n) := by rw [wp_s dd_129_173 rfl hs]; rfl
theorem dd_129_174 : decode (mB 129) 174 = .ok (.iaload, 1) := by decide +kernel
theorem u_129_174 {G : aG} {S : Nat → Bool} {f : Nat} {st : List Value} {ls : aL} {h : aH} {k n : Nat} {i : Int32} {a : Nat} (hs : S 174 = false) : WP 129 G S (f + 1) 174 ls (.int i :: .ref a :: st) h k n = (oIld (iget h a 1) i (WP 129 G S f) 175 ls st h k n) := by rw [wp_s dd_129_174 rfl hs]; rfl
theorem dd_129_175 : decode (mB 129) 175 = .ok (.iconst 1, 1) := by decide +kernel
theorem u_129_175 {G : aG} {S : Nat → Bool} {f : Nat} {st : List Value} {ls : aL} {h : aH} {k n : Nat} (hs : S 175 = false) : WP 129 G S (f + 1) 175 ls st h k n = (WP 129 G S f 176 ls (.int (nI 1) :: st) h k n) := by rw [wp_s dd_129_175 rfl hs]; rfl
theorem dd_129_176 : decode (mB 129) 176 = .ok (.if_icmp .ne 7, 3) := by decide +kernel
theorem u_129_176 {G : aG} {S : Nat → Bool} {f : Nat} {st : List Value} {ls : aL} {h : aH} {k n : Nat} {x y : Int32} (hs : S 176 = false) : WP 129 G S (f + 1) 176 ls (.int y :: .int x :: st) h k n = (if x = y then WP 129 G S f 179 ls st h k n else WP 129 G S f 183 ls st h k n) := by rw [wp_s dd_129_176 rfl hs]; exact br_iten (c := x = y)
theorem dd_129_179 : decode (mB 129) 179 = .ok (.iconst 1, 1) := by decide +kernel
theorem u_129_179 {G : aG} {S : Nat → Bool} {f : Nat} {st : List Value} {ls : aL} {h : aH} {k n : Nat} (hs : S 179 = false) : WP 129 G S (f + 1) 179 ls st h k n = (WP 129 G S f 180 ls (.int (nI 1) :: st) h k n) := by rw [wp_s dd_129_179 rfl hs]; rfl
theorem dd_129_180 : decode (mB 129) 180 = .ok (.goto 23, 3) := by decide +kernel
theorem u_129_180 {G : aG} {S : Nat → Bool} {f : Nat} {st : List Value} {ls : aL} {h : aH} {k n : Nat} (hs : S 180 = false) : WP 129 G S (f + 1) 180 ls st h k n = (WP 129 G S f 203 ls st h k n) := by rw [wp_s dd_129_180 rfl hs]; rfl
theorem dd_129_183 : decode (mB 129) 183 = .ok (.iconst 0, 1) := by decide +kernel
theorem u_129_183 {G : aG} {S : Nat → Bool} {f : Nat} {st : List Value} {ls : aL} {h : aH} {k n : Nat} (hs : S 183 = false) : WP 129 G S (f + 1) 183 ls st h k n = (WP 129 G S f 184 ls (.int (nI 0) :: st) h k n) := by rw [wp_s dd_129_183 rfl hs]; rfl
theorem dd_129_184 : decode (mB 129) 184 = .ok (.goto 19, 3) := by decide +kernel
theorem u_129_184 {G : aG} {S : Nat → Bool} {f : Nat} {st : List Value} {ls : aL} {h : aH} {k n : Nat} (hs : S 184 = false) : WP 129 G S (f + 1) 184 ls st h k n = (WP 129 G S f 203 ls st h k n) := by rw [wp_s dd_129_184 rfl hs]; rfl
theorem dd_129_187 : decode (mB 129) 187 = .ok (.aload_n 0, 1) := by decide +kernel
theorem u_129_187 {G : aG} {S : Nat → Bool} {f : Nat} {st : List Value} {ls : aL} {h : aH} {k n : Nat} (hs : S 187 = false) : WP 129 G S (f + 1) 187 ls st h k n = (oA (lget ls 0) (WP 129 G S f) 188 ls st h k n) := by rw [wp_s dd_129_187 rfl hs]; rfl
theorem dd_129_188 : decode (mB 129) 188 = .ok (.getfield 40, 3) := by decide +kernel
theorem u_129_188 {G : aG} {S : Nat → Bool} {f : Nat} {st : List Value} {ls : aL} {h : aH} {k n : Nat} {a : Nat} (hs : S 188 = false) : WP 129 G S (f + 1) 188 ls (.ref a :: st) h k n = (oV (fget h a 10 12) (WP 129 G S f) 191 ls st h k n) := by rw [wp_s dd_129_188 rfl hs]; rfl
theorem dd_129_191 : decode (mB 129) 191 = .ok (.iload 4, 2) := by decide +kernel
theorem u_129_191 {G : aG} {S : Nat → Bool} {f : Nat} {st : List Value} {ls : aL} {h : aH} {k n : Nat} (hs : S 191 = false) : WP 129 G S (f + 1) 191 ls st h k n = (oI (lget ls 4) (WP 129 G S f) 193 ls st h k n) := by rw [wp_s dd_129_191 rfl hs]; rfl
theorem dd_129_193 : decode (mB 129) 193 = .ok (.iaload, 1) := by decide +kernel
theorem u_129_193 {G : aG} {S : Nat → Bool} {f : Nat} {st : List Value} {ls : aL} {h : aH} {k n : Nat} {i : Int32} {a : Nat} (hs : S 193 = false) : WP 129 G S (f + 1) 193 ls (.int i :: .ref a :: st) h k n = (oIld (iget h a 1) i (WP 129 G S f) 194 ls st h k n) := by rw [wp_s dd_129_193 rfl hs]; rfl
theorem dd_129_194 : decode (mB 129) 194 = .ok (.iconst 1, 1) := by decide +kernel
theorem u_129_194 {G : aG} {S : Nat → Bool} {f : Nat} {st : List Value} {ls : aL} {h : aH} {k n : Nat} (hs : S 194 = false) : WP 129 G S (f + 1) 194 ls st h k n = (WP 129 G S f 195 ls (.int (nI 1) :: st) h k n) := by rw [wp_s dd_129_194 rfl hs]; rfl
theorem dd_129_195 : decode (mB 129) 195 = .ok (.if_icmp .ne 7, 3) := by decide +kernel
theorem u_129_195 {G : aG} {S : Nat → Bool} {f : Nat} {st : List Value} {ls : aL} {h : aH} {k n : Nat} {x y : Int32} (hs : S 195 = false) : WP 129 G S (f + 1) 195 ls (.int y :: .int x :: st) h k n = (if x = y then WP 129 G S f 198 ls st h k n else WP 129 G S f 202 ls st h k n) := by rw [wp_s dd_129_195 rfl hs]; exact br_iten (c := x = y)
theorem dd_129_198 : decode (mB 129) 198 = .ok (.iconst 1, 1) := by decide +kernel
theorem u_129_198 {G : aG} {S : Nat → Bool} {f : Nat} {st : List Value} {ls : aL} {h : aH} {k n : Nat} (hs : S 198 = false) : WP 129 G S (f + 1) 198 ls st h k n = (WP 129 G S f 199 ls (.int (nI 1) :: st) h k n) := by rw [wp_s dd_129_198 rfl hs]; rfl
theorem dd_129_199 : decode (mB 129) 199 = .ok (.goto 4, 3) := by decide +kernel
theorem u_129_199 {G : aG} {S : Nat → Bool} {f : Nat} {st : List Value} {ls : aL} {h : aH} {k n : Nat} (hs : S 199 = false) : WP 129 G S (f + 1) 199 ls st h k n = (WP 129 G S f 203 ls st h k n) := by rw [wp_s dd_129_199 rfl hs]; rfl
theorem dd_129_202 : decode (mB 129) 202 = .ok (.iconst 0, 1) := by decide +kernel
theorem u_129_202 {G : aG} {S : Nat → Bool} {f : Nat} {st : List Value} {ls : aL} {h : aH} {k n : Nat} (hs : S 202 = false) : WP 129 G S (f + 1) 202 ls st h k n = (WP 129 G S f 203 ls (.int (nI 0) :: st) h k n) := by rw [wp_s dd_129_202 rfl hs]; rfl
theorem dd_129_203 : decode (mB 129) 203 = .ok (.istore 5, 2) := by decide +kernel
theorem u_129_203 {G : aG} {S : Nat → Bool} {f : Nat} {st : List Value} {ls : aL} {h : aH} {k n : Nat} {x : Int32} (hs : S 203 = false) : WP 129 G S (f + 1) 203 ls (.int x :: st) h k n = (WP 129 G S f 205 (lput1 ls 5 (.int x)) st h k n) := by rw [wp_s dd_129_203 rfl hs]; rfl
theorem dd_129_205 : decode (mB 129) 205 = .ok (.goto 57, 3) := by decide +kernel
theorem u_129_205 {G : aG} {S : Nat → Bool} {f : Nat} {st : List Value} {ls : aL} {h : aH} {k n : Nat} (hs : S 205 = false) : WP 129 G S (f + 1) 205 ls st h k n = (WP 129 G S f 262 ls st h k n) := by rw [wp_s dd_129_205 rfl hs]; rfl
theorem dd_129_208 : decode (mB 129) 208 = .ok (.aload_n 0, 1) := by decide +kernel
theorem u_129_208 {G : aG} {S : Nat → Bool} {f : Nat} {st : List Value} {ls : aL} {h : aH} {k n : Nat} (hs : S 208 = false) : WP 129 G S (f + 1) 208 ls st h k n = (oA (lget ls 0) (WP 129 G S f) 209 ls st h k n) := by rw [wp_s dd_129_208 rfl hs]; rfl
theorem dd_129_209 : decode (mB 129) 209 = .ok (.getfield 40, 3) := by decide +kernel
theorem u_129_209 {G : aG} {S : Nat → Bool} {f : Nat} {st : List Value} {ls : aL} {h : aH} {k n : Nat} {a : Nat} (hs : S 209 = false) : WP 129 G S (f + 1) 209 ls (.ref a :: st) h k n = (oV (fget h a 10 12) (WP 129 G S f) 212 ls st h k n) := by rw [wp_s dd_129_209 rfl hs]; rfl
theorem dd_129_212 : decode (mB 129) 212 = .ok (.iload_n 3, 1) := by decide +kernel
theorem u_129_212 {G : aG} {S : Nat → Bool} {f : Nat} {st : List Value} {ls : aL} {h : aH} {k n : Nat} (hs : S 212 = false) : WP 129 G S (f + 1) 212 ls st h k n = (oI (lget ls 3) (WP 129 G S f) 213 ls st h k n) := by rw [wp_s dd_129_212 rfl hs]; rfl
theorem dd_129_213 : decode (mB 129) 213 = .ok (.iaload, 1) := by decide +kernel
theorem u_129_213 {G : aG} {S : Nat → Bool} {f : Nat} {st : List Value} {ls : aL} {h : aH} {k n : Nat} {i : Int32} {a : Nat} (hs : S 213 = false) : WP 129 G S (f + 1) 213 ls (.int i :: .ref a :: st) h k n = (oIld (iget h a 1) i (WP 129 G S f) 214 ls st h k n) := by rw [wp_s dd_129_213 rfl hs]; rfl
theorem dd_129_214 : decode (mB 129) 214 = .ok (.iconst 1, 1) := by decide +kernel
theorem u_129_214 {G : aG} {S : Nat → Bool} {f : Nat} {st : List Value} {ls : aL} {h : aH} {k n : Nat} (hs : S 214 = false) : WP 129 G S (f + 1) 214 ls st h k n = (WP 129 G S f 215 ls (.int (nI 1) :: st) h k n) := by rw [wp_s dd_129_214 rfl hs]; rfl
theorem dd_129_215 : decode (mB 129) 215 = .ok (.if_icmp .ne 18, 3) := by decide +kernel
theorem u_129_215 {G : aG} {S : Nat → Bool} {f : Nat} {st : List Value} {ls : aL} {h : aH} {k n : Nat} {x y : Int32} (hs : S 215 = false) : WP 129 G S (f + 1) 215 ls (.int y :: .int x :: st) h k n = (if x = y then WP 129 G S f 218 ls st h k n else WP 129 G S f 233 ls st h k n) := by rw [wp_s dd_129_215 rfl hs]; exact br_iten (c := x = y)
theorem dd_129_218 : decode (mB 129) 218 = .ok (.aload_n 0, 1) := by decide +kernel
theorem u_129_218 {G : aG} {S : Nat → Bool} {f : Nat} {st : List Value} {ls : aL} {h : aH} {k n : Nat} (hs : S 218 = false) : WP 129 G S (f + 1) 218 ls st h k n = (oA (lget ls 0) (WP 129 G S f) 219 ls st h k n) := by rw [wp_s dd_129_218 rfl hs]; rfl
theorem dd_129_219 : decode (mB 129) 219 = .ok (.getfield 40, 3) := by decide +kernel
theorem u_129_219 {G : aG} {S : Nat → Bool} {f : Nat} {st : List Value} {ls : aL} {h : aH} {k n : Nat} {a : Nat} (hs : S 219 = false) : WP 129 G S (f + 1) 219 ls (.ref a :: st) h k n = (oV (fget h a 10 12) (WP 129 G S f) 222 ls st h k n) := by rw [wp_s dd_129_219 rfl hs]; rfl
theorem dd_129_222 : decode (mB 129) 222 = .ok (.iload 4, 2) := by decide +kernel
theorem u_129_222 {G : aG} {S : Nat → Bool} {f : Nat} {st : List Value} {ls : aL} {h : aH} {k n : Nat} (hs : S 222 = false) : WP 129 G S (f + 1) 222 ls st h k n = (oI (lget ls 4) (WP 129 G S f) 224 ls st h k n) := by rw [wp_s dd_129_222 rfl hs]; rfl
theorem dd_129_224 : decode (mB 129) 224 = .ok (.iaload, 1) := by decide +kernel
theorem u_129_224 {G : aG} {S : Nat → Bool} {f : Nat} {st : List Value} {ls : aL} {h : aH} {k n : Nat} {i : Int32} {a : Nat} (hs : S 224 = false) : WP 129 G S (f + 1) 224 ls (.int i :: .ref a :: st) h k n = (oIld (iget h a 1) i (WP 129 G S f) 225 ls st h k n) := by rw [wp_s dd_129_224 rfl hs]; rfl
theorem dd_129_225 : decode (mB 129) 225 = .ok (.iconst 1, 1) := by decide +kernel
theorem u_129_225 {G : aG} {S : Nat → Bool} {f : Nat} {st : List Value} {ls : aL} {h : aH} {k n : Nat} (hs : S 225 = false) : WP 129 G S (f + 1) 225 ls st h k n = (WP 129 G S f 226 ls (.int (nI 1) :: st) h k n) := by rw [wp_s dd_129_225 rfl hs]; rfl
theorem dd_129_226 : decode (mB 129) 226 = .ok (.if_icmp .ne 7, 3) := by decide +kernel
theorem u_129_226 {G : aG} {S : Nat → Bool} {f : Nat} {st : List Value} {ls : aL} {h : aH} {k n : Nat} {x y : Int32} (hs : S 226 = false) : WP 129 G S (f + 1) 226 ls (.int y :: .int x :: st) h k n = (if x = y then WP 129 G S f 229 ls st h k n else WP 129 G S f 233 ls st h k n) := by rw [wp_s dd_129_226 rfl hs]; exact br_iten (c := x = y)
theorem dd_129_229 : decode (mB 129) 229 = .ok (.iconst 1, 1) := by decide +kernel
theorem u_129_229 {G : aG} {S : Nat → Bool} {f : Nat} {st : List Value} {ls : aL} {h : aH} {k n : Nat} (hs : S 229 = false) : WP 129 G S (f + 1) 229 ls st h k n = (WP 129 G S f 230 ls (.int (nI 1) :: st) h k n) := by rw [wp_s dd_129_229 rfl hs]; rfl
theorem dd_129_230 : decode (mB 129) 230 = .ok (.goto 4, 3) := by decide +kernel
theorem u_129_230 {G : aG} {S : Nat → Bool} {f : Nat} {st : List Value} {ls : aL} {h : aH} {k n : Nat} (hs : S 230 = false) : WP 129 G S (f + 1) 230 ls st h k n = (WP 129 G S f 234 ls st h k n) := by rw [wp_s dd_129_230 rfl hs]; rfl
theorem dd_129_233 : decode (mB 129) 233 = .ok (.iconst 0, 1) := by decide +kernel
theorem u_129_233 {G : aG} {S : Nat → Bool} {f : Nat} {st : List Value} {ls : aL} {h : aH} {k n : Nat} (hs : S 233 = false) : WP 129 G S (f + 1) 233 ls st h k n = (WP 129 G S f 234 ls (.int (nI 0) :: st) h k n) := by rw [wp_s dd_129_233 rfl hs]; rfl
theorem dd_129_234 : decode (mB 129) 234 = .ok (.istore 5, 2) := by decide +kernel
theorem u_129_234 {G : aG} {S : Nat → Bool} {f : Nat} {st : List Value} {ls : aL} {h : aH} {k n : Nat} {x : Int32} (hs : S 234 = false) : WP 129 G S (f + 1) 234 ls (.int x :: st) h k n = (WP 129 G S f 236 (lput1 ls 5 (.int x)) st h k n) := by rw [wp_s dd_129_234 rfl hs]; rfl
theorem dd_129_236 : decode (mB 129) 236 = .ok (.goto 26, 3) := by decide +kernel
theorem u_129_236 {G : aG} {S : Nat → Bool} {f : Nat} {st : List Value} {ls : aL} {h : aH} {k n : Nat} (hs : S 236 = false) : WP 129 G S (f + 1) 236 ls st h k n = (WP 129 G S f 262 ls st h k n) := by rw [wp_s dd_129_236 rfl hs]; rfl
theorem dd_129_239 : decode (mB 129) 239 = .ok (.aload_n 0, 1) := by decide +kernel
theorem u_129_239 {G : aG} {S : Nat → Bool} {f : Nat} {st : List Value} {ls : aL} {h : aH} {k n : Nat} (hs : S 239 = false) : WP 129 G S (f + 1) 239 ls st h k n = (oA (lget ls 0) (WP 129 G S f) 240 ls st h k n) := by rw [wp_s dd_129_239 rfl hs]; rfl
theorem dd_129_240 : decode (mB 129) 240 = .ok (.getfield 40, 3) := by decide +kernel
theorem u_129_240 {G : aG} {S : Nat → Bool} {f : Nat} {st : List Value} {ls : aL} {h : aH} {k n : Nat} {a : Nat} (hs : S 240 = false) : WP 129 G S (f + 1) 240 ls (.ref a :: st) h k n = (oV (fget h a 10 12) (WP 129 G S f) 243 ls st h k n) := by rw [wp_s dd_129_240 rfl hs]; rfl
theorem dd_129_243 : decode (mB 129) 243 = .ok (.iload_n 3, 1) := by decide +kernel
theorem u_129_243 {G : aG} {S : Nat → Bool} {f : Nat} {st : List Value} {ls : aL} {h : aH} {k n : Nat} (hs : S 243 = false) : WP 129 G S (f + 1) 243 ls st h k n = (oI (lget ls 3) (WP 129 G S f) 244 ls st h k n) := by rw [wp_s dd_129_243 rfl hs]; rfl
theorem dd_129_244 : decode (mB 129) 244 = .ok (.iaload, 1) := by decide +kernel
theorem u_129_244 {G : aG} {S : Nat → Bool} {f : Nat} {st : List Value} {ls : aL} {h : aH} {k n : Nat} {i : Int32} {a : Nat} (hs : S 244 = false) : WP 129 G S (f + 1) 244 ls (.int i :: .ref a :: st) h k n = (oIld (iget h a 1) i (WP 129 G S f) 245 ls st h k n) := by rw [wp_s dd_129_244 rfl hs]; rfl
theorem dd_129_245 : decode (mB 129) 245 = .ok (.iconst 1, 1) := by decide +kernel
theorem u_129_245 {G : aG} {S : Nat → Bool} {f : Nat} {st : List Value} {ls : aL} {h : aH} {k n : Nat} (hs : S 245 = false) : WP 129 G S (f + 1) 245 ls st h k n = (WP 129 G S f 246 ls (.int (nI 1) :: st) h k n) := by rw [wp_s dd_129_245 rfl hs]; rfl
theorem dd_129_246 : decode (mB 129) 246 = .ok (.if_icmp .ne 7, 3) := by decide +kernel
theorem u_129_246 {G : aG} {S : Nat → Bool} {f : Nat} {st : List Value} {ls : aL} {h : aH} {k n : Nat} {x y : Int32} (hs : S 246 = false) : WP 129 G S (f + 1) 246 ls (.int y :: .int x :: st) h k n = (if x = y then WP 129 G S f 249 ls st h k n else WP 129 G S f 253 ls st h k n) := by rw [wp_s dd_129_246 rfl hs]; exact br_iten (c := x = y)
theorem dd_129_249 : decode (mB 129) 249 = .ok (.iconst 1, 1) := by decide +kernel
theorem u_129_249 {G : aG} {S : Nat → Bool} {f : Nat} {st : List Value} {ls : aL} {h : aH} {k n : Nat} (hs : S 249 = false) : WP 129 G S (f + 1) 249 ls st h k n = (WP 129 G S f 250 ls (.int (nI 1) :: st) h k n) := by rw [wp_s dd_129_249 rfl hs]; rfl
theorem dd_129_250 : decode (mB 129) 250 = .ok (.goto 4, 3) := by decide +kernel
theorem u_129_250 {G : aG} {S : Nat → Bool} {f : Nat} {st : List Value} {ls : aL} {h : aH} {k n : Nat} (hs : S 250 = false) : WP 129 G S (f + 1) 250 ls st h k n = (WP 129 G S f 254 ls st h k n) := by rw [wp_s dd_129_250 rfl hs]; rfl
theorem dd_129_253 : decode (mB 129) 253 = .ok (.iconst 0, 1) := by decide +kernel
theorem u_129_253 {G : aG} {S : Nat → Bool} {f : Nat} {st : List Value} {ls : aL} {h : aH} {k n : Nat} (hs : S 253 = false) : WP 129 G S (f + 1) 253 ls st h k n = (WP 129 G S f 254 ls (.int (nI 0) :: st) h k n) := by rw [wp_s dd_129_253 rfl hs]; rfl
theorem dd_129_254 : decode (mB 129) 254 = .ok (.istore 5, 2) := by decide +kernel
theorem u_129_254 {G : aG} {S : Nat → Bool} {f : Nat} {st : List Value} {ls : aL} {h : aH} {k n : Nat} {x : Int32} (hs : S 254 = false) : WP 129 G S (f + 1) 254 ls (.int x :: st) h k n = (WP 129 G S f 256 (lput1 ls 5 (.int x)) st h k n) := by rw [wp_s dd_129_254 rfl hs]; rfl
theorem dd_129_256 : decode (mB 129) 256 = .ok (.goto 6, 3) := by decide +kernel
theorem u_129_256 {G : aG} {S : Nat → Bool} {f : Nat} {st : List Value} {ls : aL} {h : aH} {k n : Nat} (hs : S 256 = false) : WP 129 G S (f + 1) 256 ls st h k n = (WP 129 G S f 262 ls st h k n) := by rw [wp_s dd_129_256 rfl hs]; rfl
theorem dd_129_259 : decode (mB 129) 259 = .ok (.iconst 1, 1) := by decide +kernel
theorem u_129_259 {G : aG} {S : Nat → Bool} {f : Nat} {st : List Value} {ls : aL} {h : aH} {k n : Nat} (hs : S 259 = false) : WP 129 G S (f + 1) 259 ls st h k n = (WP 129 G S f 260 ls (.int (nI 1) :: st) h k n) := by rw [wp_s dd_129_259 rfl hs]; rfl
theorem dd_129_260 : decode (mB 129) 260 = .ok (.istore 5, 2) := by decide +kernel
theorem u_129_260 {G : aG} {S : Nat → Bool} {f : Nat} {st : List Value} {ls : aL} {h : aH} {k n : Nat} {x : Int32} (hs : S 260 = false) : WP 129 G S (f + 1) 260 ls (.int x :: st) h k n = (WP 129 G S f 262 (lput1 ls 5 (.int x)) st h k n) := by rw [wp_s dd_129_260 rfl hs]; rfl
theorem dd_129_262 : decode (mB 129) 262 = .ok (.aload_n 0, 1) := by decide +kernel
theorem u_129_262 {G : aG} {S : Nat → Bool} {f : Nat} {st : List Value} {ls : aL} {h : aH} {k n : Nat} (hs : S 262 = false) : WP 129 G S (f + 1) 262 ls st h k n = (oA (lget ls 0) (WP 129 G S f) 263 ls st h k n) := by rw [wp_s dd_129_262 rfl hs]; rfl
theorem dd_129_263 : decode (mB 129) 263 = .ok (.getfield 40, 3) := by decide +kernel
theorem u_129_263 {G : aG} {S : Nat → Bool} {f : Nat} {st : List Value} {ls : aL} {h : aH} {k n : Nat} {a : Nat} (hs : S 263 = false) : WP 129 G S (f + 1) 263 ls (.ref a :: st) h k n = (oV (fget h a 10 12) (WP 129 G S f) 266 ls st h k n) := by rw [wp_s dd_129_263 rfl hs]; rfl
theorem dd_129_266 : decode (mB 129) 266 = .ok (.iload_n 2, 1) := by decide +kernel
theorem u_129_266 {G : aG} {S : Nat → Bool} {f : Nat} {st : List Value} {ls : aL} {h : aH} {k n : Nat} (hs : S 266 = false) : WP 129 G S (f + 1) 266 ls st h k n = (oI (lget ls 2) (WP 129 G S f) 267 ls st h k n) := by rw [wp_s dd_129_266 rfl hs]; rfl
theorem dd_129_267 : decode (mB 129) 267 = .ok (.iload 5, 2) := by decide +kernel
theorem u_129_267 {G : aG} {S : Nat → Bool} {f : Nat} {st : List Value} {ls : aL} {h : aH} {k n : Nat} (hs : S 267 = false) : WP 129 G S (f + 1) 267 ls st h k n = (oI (lget ls 5) (WP 129 G S f) 269 ls st h k n) := by rw [wp_s dd_129_267 rfl hs]; rfl
theorem dd_129_269 : decode (mB 129) 269 = .ok (.ifCond .eq 7, 3) := by decide +kernel
theorem u_129_269 {G : aG} {S : Nat → Bool} {f : Nat} {st : List Value} {ls : aL} {h : aH} {k n : Nat} {x : Int32} (hs : S 269 = false) : WP 129 G S (f + 1) 269 ls (.int x :: st) h k n = (if x = nI 0 then WP 129 G S f 276 ls st h k n else WP 129 G S f 272 ls st h k n) := by rw [wp_s dd_129_269 rfl hs]; exact br_ite (c := x = nI 0)
theorem dd_129_272 : decode (mB 129) 272 = .ok (.iconst 1, 1) := by decide +kernel
theorem u_129_272 {G : aG} {S : Nat → Bool} {f : Nat} {st : List Value} {ls : aL} {h : aH} {k n : Nat} (hs : S 272 = false) : WP 129 G S (f + 1) 272 ls st h k n = (WP 129 G S f 273 ls (.int (nI 1) :: st) h k n) := by rw [wp_s dd_129_272 rfl hs]; rfl
theorem dd_129_273 : decode (mB 129) 273 = .ok (.goto 4, 3) := by decide +kernel
theorem u_129_273 {G : aG} {S : Nat → Bool} {f : Nat} {st : List Value} {ls : aL} {h : aH} {k n : Nat} (hs : S 273 = false) : WP 129 G S (f + 1) 273 ls st h k n = (WP 129 G S f 277 ls st h k n) := by rw [wp_s dd_129_273 rfl hs]; rfl
theorem dd_129_276 : decode (mB 129) 276 = .ok (.iconst 0, 1) := by decide +kernel
theorem u_129_276 {G : aG} {S : Nat → Bool} {f : Nat} {st : List Value} {ls : aL} {h : aH} {k n : Nat} (hs : S 276 = false) : WP 129 G S (f + 1) 276 ls st h k n = (WP 129 G S f 277 ls (.int (nI 0) :: st) h k n) := by rw [wp_s dd_129_276 rfl hs]; rfl
theorem dd_129_277 : decode (mB 129) 277 = .ok (.iastore, 1) := by decide +kernel
theorem u_129_277 {G : aG} {S : Nat → Bool} {f : Nat} {st : List Value} {ls : aL} {h : aH} {k n : Nat} {i x : Int32} {a : Nat} (hs : S 277 = false) : WP 129 G S (f + 1) 277 ls (.int x :: .int i :: .ref a :: st) h k n = (oIst (iget h a 1) a i x (WP 129 G S f) 278 ls st h k n) := by rw [wp_s dd_129_277 rfl hs]; rfl
theorem dd_129_278 : decode (mB 129) 278 = .ok (.iinc 2 1, 3) := by decide +kernel
theorem u_129_278 {G : aG} {S : Nat → Bool} {f : Nat} {st : List Value} {ls : aL} {h : aH} {k n : Nat} (hs : S 278 = false) : WP 129 G S (f + 1) 278 ls st h k n = (oInc (lget ls 2) (nI 1) (WP 129 G S f) 2 281 ls st h k n) := by rw [wp_s dd_129_278 rfl hs]; rfl
theorem dd_129_281 : decode (mB 129) 281 = .ok (.goto (-279), 3) := by decide +kernel
theorem u_129_281 {G : aG} {S : Nat → Bool} {f : Nat} {st : List Value} {ls : aL} {h : aH} {k n : Nat} (hs : S 281 = false) : WP 129 G S (f + 1) 281 ls st h k n = (WP 129 G S f 2 ls st h k n) := by rw [wp_s dd_129_281 rfl hs]; rfl
theorem dd_129_284 : decode (mB 129) 284 = .ok (.aload_n 0, 1) := by decide +kernel
theorem u_129_284 {G : aG} {S : Nat → Bool} {f : Nat} {st : List Value} {ls : aL} {h : aH} {k n : Nat} (hs : S 284 = false) : WP 129 G S (f + 1) 284 ls st h k n = (oA (lget ls 0) (WP 129 G S f) 285 ls st h k n) := by rw [wp_s dd_129_284 rfl hs]; rfl
theorem dd_129_285 : decode (mB 129) 285 = .ok (.getfield 40, 3) := by decide +kernel
theorem u_129_285 {G : aG} {S : Nat → Bool} {f : Nat} {st : List Value} {ls : aL} {h : aH} {k n : Nat} {a : Nat} (hs : S 285 = false) : WP 129 G S (f + 1) 285 ls (.ref a :: st) h k n = (oV (fget h a 10 12) (WP 129 G S f) 288 ls st h k n) := by rw [wp_s dd_129_285 rfl hs]; rfl
theorem dd_129_288 : decode (mB 129) 288 = .ok (.aload_n 0, 1) := by decide +kernel
theorem u_129_288 {G : aG} {S : Nat → Bool} {f : Nat} {st : List Value} {ls : aL} {h : aH} {k n : Nat} (hs : S 288 = false) : WP 129 G S (f + 1) 288 ls st h k n = (oA (lget ls 0) (WP 129 G S f) 289 ls st h k n) := by rw [wp_s dd_129_288 rfl hs]; rfl
theorem dd_129_289 : decode (mB 129) 289 = .ok (.getfield 81, 3) := by decide +kernel
theorem u_129_289 {G : aG} {S : Nat → Bool} {f : Nat} {st : List Value} {ls : aL} {h : aH} {k n : Nat} {a : Nat} (hs : S 289 = false) : WP 129 G S (f + 1) 289 ls (.ref a :: st) h k n = (oV (fget h a 10 4) (WP 129 G S f) 292 ls st h k n) := by rw [wp_s dd_129_289 rfl hs]; rfl
theorem dd_129_292 : decode (mB 129) 292 = .ok (.iconst 1, 1) := by decide +kernel
theorem u_129_292 {G : aG} {S : Nat → Bool} {f : Nat} {st : List Value} {ls : aL} {h : aH} {k n : Nat} (hs : S 292 = false) : WP 129 G S (f + 1) 292 ls st h k n = (WP 129 G S f 293 ls (.int (nI 1) :: st) h k n) := by rw [wp_s dd_129_292 rfl hs]; rfl
theorem dd_129_293 : decode (mB 129) 293 = .ok (.isub, 1) := by decide +kernel
theorem u_129_293 {G : aG} {S : Nat → Bool} {f : Nat} {st : List Value} {ls : aL} {h : aH} {k n : Nat} {x y : Int32} (hs : S 293 = false) : WP 129 G S (f + 1) 293 ls (.int y :: .int x :: st) h k n = (WP 129 G S f 294 ls (.int (x - y) :: st) h k n) := by rw [wp_s dd_129_293 rfl hs]; rfl
theorem dd_129_294 : decode (mB 129) 294 = .ok (.iaload, 1) := by decide +kernel
theorem u_129_294 {G : aG} {S : Nat → Bool} {f : Nat} {st : List Value} {ls : aL} {h : aH} {k n : Nat} {i : Int32} {a : Nat} (hs : S 294 = false) : WP 129 G S (f + 1) 294 ls (.int i :: .ref a :: st) h k n = (oIld (iget h a 1) i (WP 129 G S f) 295 ls st h k n) := by rw [wp_s dd_129_294 rfl hs]; rfl
theorem dd_129_295 : decode (mB 129) 295 = .ok (.iconst 1, 1) := by decide +kernel
theorem u_129_295 {G : aG} {S : Nat → Bool} {f : Nat} {st : List Value} {ls : aL} {h : aH} {k n : Nat} (hs : S 295 = false) : WP 129 G S (f + 1) 295 ls st h k n = (WP 129 G S f 296 ls (.int (nI 1) :: st) h k n) := by rw [wp_s dd_129_295 rfl hs]; rfl
theorem dd_129_296 : decode (mB 129) 296 = .ok (.if_icmp .ne 7, 3) := by decide +kernel
theorem u_129_296 {G : aG} {S : Nat → Bool} {f : Nat} {st : List Value} {ls : aL} {h : aH} {k n : Nat} {x y : Int32} (hs : S 296 = false) : WP 129 G S (f + 1) 296 ls (.int y :: .int x :: st) h k n = (if x = y then WP 129 G S f 299 ls st h k n else WP 129 G S f 303 ls st h k n) := by rw [wp_s dd_129_296 rfl hs]; exact br_iten (c := x = y)
theorem dd_129_299 : decode (mB 129) 299 = .ok (.iconst 1, 1) := by decide +kernel
theorem u_129_299 {G : aG} {S : Nat → Bool} {f : Nat} {st : List Value} {ls : aL} {h : aH} {k n : Nat} (hs : S 299 = false) : WP 129 G S (f + 1) 299 ls st h k n = (WP 129 G S f 300 ls (.int (nI 1) :: st) h k n) := by rw [wp_s dd_129_299 rfl hs]; rfl
theorem dd_129_300 : decode (mB 129) 300 = .ok (.goto 4, 3) := by decide +kernel
theorem u_129_300 {G : aG} {S : Nat → Bool} {f : Nat} {st : List Value} {ls : aL} {h : aH} {k n : Nat} (hs : S 300 = false) : WP 129 G S (f + 1) 300 ls st h k n = (WP 129 G S f 304 ls st h k n) := by rw [wp_s dd_129_300 rfl hs]; rfl
theorem dd_129_303 : decode (mB 129) 303 = .ok (.iconst 0, 1) := by decide +kernel
theorem u_129_303 {G : aG} {S : Nat → Bool} {f : Nat} {st : List Value} {ls : aL} {h : aH} {k n : Nat} (hs : S 303 = false) : WP 129 G S (f + 1) 303 ls st h k n = (WP 129 G S f 304 ls (.int (nI 0) :: st) h k n) := by rw [wp_s dd_129_303 rfl hs]; rfl
theorem dd_129_304 : decode (mB 129) 304 = .ok (.ireturn, 1) := by decide +kernel
theorem u_129_304 {G : aG} {S : Nat → Bool} {f : Nat} {ls : aL} {h : aH} {k n : Nat} {x : Int32} (hs : S 304 = false) : WP 129 G S (f + 1) 304 ls [.int x] h k n = (cond (x == nI 0 || x == nI 1) (RET G (some (.int x)) h k n) False) := by rw [wp_s dd_129_304 rfl hs]; rfl
theorem dd_130_0 : decode (mB 130) 0 = .ok (.iload_n 2, 1) := by decide +kernel
theorem u_130_0 {G : aG} {S : Nat → Bool} {f : Nat} {st : List Value} {ls : aL} {h : aH} {k n : Nat} (hs : S 0 = false) : WP 130 G S (f + 1) 0 ls st h k n = (oI (lget ls 2) (WP 130 G S f) 1 ls st h k n) := by rw [wp_s dd_130_0 rfl hs]; rfl
theorem dd_130_1 : decode (mB 130) 1 = .ok (.istore 4, 2) := by decide +kernel
theorem u_130_1 {G : aG} {S : Nat → Bool} {f : Nat} {st : List Value} {ls : aL} {h : aH} {k n : Nat} {x : Int32} (hs : S 1 = false) : WP 130 G S (f + 1) 1 ls (.int x :: st) h k n = (WP 130 G S f 3 (lput1 ls 4 (.int x)) st h k n) := by rw [wp_s dd_130_1 rfl hs]; rfl
theorem dd_130_3 : decode (mB 130) 3 = .ok (.iconst (-1), 1) := by decide +kernel
theorem u_130_3 {G : aG} {S : Nat → Bool} {f : Nat} {st : List Value} {ls : aL} {h : aH} {k n : Nat} (hs : S 3 = false) : WP 130 G S (f + 1) 3 ls st h k n = (WP 130 G S f 4 ls (.int (-1) :: st) h k n) := by rw [wp_s dd_130_3 rfl hs]; rfl
theorem dd_130_4 : decode (mB 130) 4 = .ok (.istore 5, 2) := by decide +kernel
theorem u_130_4 {G : aG} {S : Nat → Bool} {f : Nat} {st : List Value} {ls : aL} {h : aH} {k n : Nat} {x : Int32} (hs : S 4 = false) : WP 130 G S (f + 1) 4 ls (.int x :: st) h k n = (WP 130 G S f 6 (lput1 ls 5 (.int x)) st h k n) := by rw [wp_s dd_130_4 rfl hs]; rfl
theorem dd_130_6 : decode (mB 130) 6 = .ok (.iload 4, 2) := by decide +kernel
theorem u_130_6 {G : aG} {S : Nat → Bool} {f : Nat} {st : List Value} {ls : aL} {h : aH} {k n : Nat} (hs : S 6 = false) : WP 130 G S (f + 1) 6 ls st h k n = (oI (lget ls 4) (WP 130 G S f) 8 ls st h k n) := by rw [wp_s dd_130_6 rfl hs]; rfl
theorem v_130_6 {G : aG} {S : Nat → Bool} {f : Nat} {st : List Value} {ls : aL} {h : aH} {k n : Nat} : WQ 130 G S f 6 ls st h k n = (oI (lget ls 4) (WP 130 G S f) 8 ls st h k n) := by rw [wq_s dd_130_6 rfl]; rfl
theorem dd_130_8 : decode (mB 130) 8 = .ok (.iconst (-1), 1) := by decide +kernel
theorem u_130_8 {G : aG} {S : Nat → Bool} {f : Nat} {st : List Value} {ls : aL} {h : aH} {k n : Nat} (hs : S 8 = false) : WP 130 G S (f + 1) 8 ls st h k n = (WP 130 G S f 9 ls (.int (-1) :: st) h k n) := by rw [wp_s dd_130_8 rfl hs]; rfl
theorem dd_130_9 : decode (mB 130) 9 = .ok (.if_icmp .eq 31, 3) := by decide +kernel
theorem u_130_9 {G : aG} {S : Nat → Bool} {f : Nat} {st : List Value} {ls : aL} {h : aH} {k n : Nat} {x y : Int32} (hs : S 9 = false) : WP 130 G S (f + 1) 9 ls (.int y :: .int x :: st) h k n = (if x = y then WP 130 G S f 40 ls st h k n else WP 130 G S f 12 ls st h k n) := by rw [wp_s dd_130_9 rfl hs]; exact br_ite (c := x = y)
theorem dd_130_12 : decode (mB 130) 12 = .ok (.aload_n 0, 1) := by decide +kernel
theorem u_130_12 {G : aG} {S : Nat → Bool} {f : Nat} {st : List Value} {ls : aL} {h : aH} {k n : Nat} (hs : S 12 = false) : WP 130 G S (f + 1) 12 ls st h k n = (oA (lget ls 0) (WP 130 G S f) 13 ls st h k n) := by rw [wp_s dd_130_12 rfl hs]; rfl
theorem dd_130_13 : decode (mB 130) 13 = .ok (.getfield 31, 3) := by decide +kernel
theorem u_130_13 {G : aG} {S : Nat → Bool} {f : Nat} {st : List Value} {ls : aL} {h : aH} {k n : Nat} {a : Nat} (hs : S 13 = false) : WP 130 G S (f + 1) 13 ls (.ref a :: st) h k n = (oV (fget h a 10 9) (WP 130 G S f) 16 ls st h k n) := by rw [wp_s dd_130_13 rfl hs]; rfl
theorem dd_130_16 : decode (mB 130) 16 = .ok (.iload 4, 2) := by decide +kernel
theorem u_130_16 {G : aG} {S : Nat → Bool} {f : Nat} {st : List Value} {ls : aL} {h : aH} {k n : Nat} (hs : S 16 = false) : WP 130 G S (f + 1) 16 ls st h k n = (oI (lget ls 4) (WP 130 G S f) 18 ls st h k n) := by rw [wp_s dd_130_16 rfl hs]; rfl
theorem dd_130_18 : decode (mB 130) 18 = .ok (.iaload, 1) := by decide +kernel
theorem u_130_18 {G : aG} {S : Nat → Bool} {f : Nat} {st : List Value} {ls : aL} {h : aH} {k n : Nat} {i : Int32} {a : Nat} (hs : S 18 = false) : WP 130 G S (f + 1) 18 ls (.int i :: .ref a :: st) h k n = (oIld (iget h a 1) i (WP 130 G S f) 19 ls st h k n) := by rw [wp_s dd_130_18 rfl hs]; rfl
theorem dd_130_19 : decode (mB 130) 19 = .ok (.iload_n 1, 1) := by decide +kernel
theorem u_130_19 {G : aG} {S : Nat → Bool} {f : Nat} {st : List Value} {ls : aL} {h : aH} {k n : Nat} (hs : S 19 = false) : WP 130 G S (f + 1) 19 ls st h k n = (oI (lget ls 1) (WP 130 G S f) 20 ls st h k n) := by rw [wp_s dd_130_19 rfl hs]; rfl
theorem dd_130_20 : decode (mB 130) 20 = .ok (.iand, 1) := by decide +kernel
theorem u_130_20 {G : aG} {S : Nat → Bool} {f : Nat} {st : List Value} {ls : aL} {h : aH} {k n : Nat} {x y : Int32} (hs : S 20 = false) : WP 130 G S (f + 1) 20 ls (.int y :: .int x :: st) h k n = (WP 130 G S f 21 ls (.int (x &&& y) :: st) h k n) := by rw [wp_s dd_130_20 rfl hs]; rfl
theorem dd_130_21 : decode (mB 130) 21 = .ok (.ifCond .ne 19, 3) := by decide +kernel
theorem u_130_21 {G : aG} {S : Nat → Bool} {f : Nat} {st : List Value} {ls : aL} {h : aH} {k n : Nat} {x : Int32} (hs : S 21 = false) : WP 130 G S (f + 1) 21 ls (.int x :: st) h k n = (if x = nI 0 then WP 130 G S f 24 ls st h k n else WP 130 G S f 40 ls st h k n) := by rw [wp_s dd_130_21 rfl hs]; exact br_iten (c := x = nI 0)
theorem dd_130_24 : decode (mB 130) 24 = .ok (.iload 4, 2) := by decide +kernel
theorem u_130_24 {G : aG} {S : Nat → Bool} {f : Nat} {st : List Value} {ls : aL} {h : aH} {k n : Nat} (hs : S 24 = false) : WP 130 G S (f + 1) 24 ls st h k n = (oI (lget ls 4) (WP 130 G S f) 26 ls st h k n) := by rw [wp_s dd_130_24 rfl hs]; rfl
theorem dd_130_26 : decode (mB 130) 26 = .ok (.istore 5, 2) := by decide +kernel
theorem u_130_26 {G : aG} {S : Nat → Bool} {f : Nat} {st : List Value} {ls : aL} {h : aH} {k n : Nat} {x : Int32} (hs : S 26 = false) : WP 130 G S (f + 1) 26 ls (.int x :: st) h k n = (WP 130 G S f 28 (lput1 ls 5 (.int x)) st h k n) := by rw [wp_s dd_130_26 rfl hs]; rfl
theorem dd_130_28 : decode (mB 130) 28 = .ok (.aload_n 0, 1) := by decide +kernel
theorem u_130_28 {G : aG} {S : Nat → Bool} {f : Nat} {st : List Value} {ls : aL} {h : aH} {k n : Nat} (hs : S 28 = false) : WP 130 G S (f + 1) 28 ls st h k n = (oA (lget ls 0) (WP 130 G S f) 29 ls st h k n) := by rw [wp_s dd_130_28 rfl hs]; rfl
theorem dd_130_29 : decode (mB 130) 29 = .ok (.getfield 28, 3) := by decide +kernel
theorem u_130_29 {G : aG} {S : Nat → Bool} {f : Nat} {st : List Value} {ls : aL} {h : aH} {k n : Nat} {a : Nat} (hs : S 29 = false) : WP 130 G S (f + 1) 29 ls (.ref a :: st) h k n = (oV (fget h a 10 8) (WP 130 G S f) 32 ls st h k n) := by rw [wp_s dd_130_29 rfl hs]; rfl
theorem dd_130_32 : decode (mB 130) 32 = .ok (.iload 4, 2) := by decide +kernel
theorem u_130_32 {G : aG} {S : Nat → Bool} {f : Nat} {st : List Value} {ls : aL} {h : aH} {k n : Nat} (hs : S 32 = false) : WP 130 G S (f + 1) 32 ls st h k n = (oI (lget ls 4) (WP 130 G S f) 34 ls st h k n) := by rw [wp_s dd_130_32 rfl hs]; rfl
theorem dd_130_34 : decode (mB 130) 34 = .ok (.iaload, 1) := by decide +kernel
theorem u_130_34 {G : aG} {S : Nat → Bool} {f : Nat} {st : List Value} {ls : aL} {h : aH} {k n : Nat} {i : Int32} {a : Nat} (hs : S 34 = false) : WP 130 G S (f + 1) 34 ls (.int i :: .ref a :: st) h k n = (oIld (iget h a 1) i (WP 130 G S f) 35 ls st h k n) := by rw [wp_s dd_130_34 rfl hs]; rfl
theorem dd_130_35 : decode (mB 130) 35 = .ok (.istore 4, 2) := by decide +kernel
theorem u_130_35 {G : aG} {S : Nat → Bool} {f : Nat} {st : List Value} {ls : aL} {h : aH} {k n : Nat} {x : Int32} (hs : S 35 = false) : WP 130 G S (f + 1) 35 ls (.int x :: st) h k n = (WP 130 G S f 37 (lput1 ls 4 (.int x)) st h k n) := by rw [wp_s dd_130_35 rfl hs]; rfl
theorem dd_130_37 : decode (mB 130) 37 = .ok (.goto (-31), 3) := by decide +kernel
theorem u_130_37 {G : aG} {S : Nat → Bool} {f : Nat} {st : List Value} {ls : aL} {h : aH} {k n : Nat} (hs : S 37 = false) : WP 130 G S (f + 1) 37 ls st h k n = (WP 130 G S f 6 ls st h k n) := by rw [wp_s dd_130_37 rfl hs]; rfl
theorem dd_130_40 : decode (mB 130) 40 = .ok (.iload 4, 2) := by decide +kernel
theorem u_130_40 {G : aG} {S : Nat → Bool} {f : Nat} {st : List Value} {ls : aL} {h : aH} {k n : Nat} (hs : S 40 = false) : WP 130 G S (f + 1) 40 ls st h k n = (oI (lget ls 4) (WP 130 G S f) 42 ls st h k n) := by rw [wp_s dd_130_40 rfl hs]; rfl
theorem dd_130_42 : decode (mB 130) 42 = .ok (.iconst (-1), 1) := by decide +kernel
theorem u_130_42 {G : aG} {S : Nat → Bool} {f : Nat} {st : List Value} {ls : aL} {h : aH} {k n : Nat} (hs : S 42 = false) : WP 130 G S (f + 1) 42 ls st h k n = (WP 130 G S f 43 ls (.int (-1) :: st) h k n) := by rw [wp_s dd_130_42 rfl hs]; rfl
theorem dd_130_43 : decode (mB 130) 43 = .ok (.if_icmp .ne 31, 3) := by decide +kernel
theorem u_130_43 {G : aG} {S : Nat → Bool} {f : Nat} {st : List Value} {ls : aL} {h : aH} {k n : Nat} {x y : Int32} (hs : S 43 = false) : WP 130 G S (f + 1) 43 ls (.int y :: .int x :: st) h k n = (if x = y then WP 130 G S f 46 ls st h k n else WP 130 G S f 74 ls st h k n) := by rw [wp_s dd_130_43 rfl hs]; exact br_iten (c := x = y)
theorem dd_130_46 : decode (mB 130) 46 = .ok (.aload_n 0, 1) := by decide +kernel
theorem u_130_46 {G : aG} {S : Nat → Bool} {f : Nat} {st : List Value} {ls : aL} {h : aH} {k n : Nat} (hs : S 46 = false) : WP 130 G S (f + 1) 46 ls st h k n = (oA (lget ls 0) (WP 130 G S f) 47 ls st h k n) := by rw [wp_s dd_130_46 rfl hs]; rfl
theorem dd_130_47 : decode (mB 130) 47 = .ok (.iload_n 2, 1) := by decide +kernel
theorem u_130_47 {G : aG} {S : Nat → Bool} {f : Nat} {st : List Value} {ls : aL} {h : aH} {k n : Nat} (hs : S 47 = false) : WP 130 G S (f + 1) 47 ls st h k n = (oI (lget ls 2) (WP 130 G S f) 48 ls st h k n) := by rw [wp_s dd_130_47 rfl hs]; rfl
theorem dd_130_48 : decode (mB 130) 48 = .ok (.aload_n 0, 1) := by decide +kernel
theorem u_130_48 {G : aG} {S : Nat → Bool} {f : Nat} {st : List Value} {ls : aL} {h : aH} {k n : Nat} (hs : S 48 = false) : WP 130 G S (f + 1) 48 ls st h k n = (oA (lget ls 0) (WP 130 G S f) 49 ls st h k n) := by rw [wp_s dd_130_48 rfl hs]; rfl
theorem dd_130_49 : decode (mB 130) 49 = .ok (.getfield 81, 3) := by decide +kernel
theorem u_130_49 {G : aG} {S : Nat → Bool} {f : Nat} {st : List Value} {ls : aL} {h : aH} {k n : Nat} {a : Nat} (hs : S 49 = false) : WP 130 G S (f + 1) 49 ls (.ref a :: st) h k n = (oV (fget h a 10 4) (WP 130 G S f) 52 ls st h k n) := by rw [wp_s dd_130_49 rfl hs]; rfl
theorem dd_130_52 : decode (mB 130) 52 = .ok (.iconst 1, 1) := by decide +kernel
theorem u_130_52 {G : aG} {S : Nat → Bool} {f : Nat} {st : List Value} {ls : aL} {h : aH} {k n : Nat} (hs : S 52 = false) : WP 130 G S (f + 1) 52 ls st h k n = (WP 130 G S f 53 ls (.int (nI 1) :: st) h k n) := by rw [wp_s dd_130_52 rfl hs]; rfl
theorem dd_130_53 : decode (mB 130) 53 = .ok (.isub, 1) := by decide +kernel
theorem u_130_53 {G : aG} {S : Nat → Bool} {f : Nat} {st : List Value} {ls : aL} {h : aH} {k n : Nat} {x y : Int32} (hs : S 53 = false) : WP 130 G S (f + 1) 53 ls (.int y :: .int x :: st) h k n = (WP 130 G S f 54 ls (.int (x - y) :: st) h k n) := by rw [wp_s dd_130_53 rfl hs]; rfl
theorem dd_130_54 : decode (mB 130) 54 = .ok (.invokevirtual 88, 3) := by decide +kernel
theorem u_130_54 {G : aG} {S : Nat → Bool} {f : Nat} {st : List Value} {ls : aL} {h : aH} {k n : Nat} {v1 v2 : Value} {b : Nat} (hs : S 54 = false) : WP 130 G S (f + 1) 54 ls (v2 :: v1 :: .ref b :: st) h k n = (rcv (hget h b) 10 ∧ CAL G (WP 130 G S f) 131 [.ref b, v1, v2] 57 ls st h k n) := by rw [wp_s dd_130_54 rfl hs]; rfl
theorem dd_130_57 : decode (mB 130) 57 = .ok (.ifCond .eq 126, 3) := by decide +kernel
theorem u_130_57 {G : aG} {S : Nat → Bool} {f : Nat} {st : List Value} {ls : aL} {h : aH} {k n : Nat} {x : Int32} (hs : S 57 = false) : WP 130 G S (f + 1) 57 ls (.int x :: st) h k n = (if x = nI 0 then WP 130 G S f 183 ls st h k n else WP 130 G S f 60 ls st h k n) := by rw [wp_s dd_130_57 rfl hs]; exact br_ite (c := x = nI 0)
theorem dd_130_60 : decode (mB 130) 60 = .ok (.aload_n 0, 1) := by decide +kernel
theorem u_130_60 {G : aG} {S : Nat → Bool} {f : Nat} {st : List Value} {ls : aL} {h : aH} {k n : Nat} (hs : S 60 = false) : WP 130 G S (f + 1) 60 ls st h k n = (oA (lget ls 0) (WP 130 G S f) 61 ls st h k n) := by rw [wp_s dd_130_60 rfl hs]; rfl
theorem dd_130_61 : decode (mB 130) 61 = .ok (.iload_n 3, 1) := by decide +kernel
theorem u_130_61 {G : aG} {S : Nat → Bool} {f : Nat} {st : List Value} {ls : aL} {h : aH} {k n : Nat} (hs : S 61 = false) : WP 130 G S (f + 1) 61 ls st h k n = (oI (lget ls 3) (WP 130 G S f) 62 ls st h k n) := by rw [wp_s dd_130_61 rfl hs]; rfl
theorem dd_130_62 : decode (mB 130) 62 = .ok (.aload_n 0, 1) := by decide +kernel
theorem u_130_62 {G : aG} {S : Nat → Bool} {f : Nat} {st : List Value} {ls : aL} {h : aH} {k n : Nat} (hs : S 62 = false) : WP 130 G S (f + 1) 62 ls st h k n = (oA (lget ls 0) (WP 130 G S f) 63 ls st h k n) := by rw [wp_s dd_130_62 rfl hs]; rfl
theorem dd_130_63 : decode (mB 130) 63 = .ok (.getfield 34, 3) := by decide +kernel
theorem u_130_63 {G : aG} {S : Nat → Bool} {f : Nat} {st : List Value} {ls : aL} {h : aH} {k n : Nat} {a : Nat} (hs : S 63 = false) : WP 130 G S (f + 1) 63 ls (.ref a :: st) h k n = (oV (fget h a 10 10) (WP 130 G S f) 66 ls st h k n) := by rw [wp_s dd_130_63 rfl hs]; rfl
theorem dd_130_66 : decode (mB 130) 66 = .ok (.iload_n 2, 1) := by decide +kernel
theorem u_130_66 {G : aG} {S : Nat → Bool} {f : Nat} {st : List Value} {ls : aL} {h : aH} {k n : Nat} (hs : S 66 = false) : WP 130 G S (f + 1) 66 ls st h k n = (oI (lget ls 2) (WP 130 G S f) 67 ls st h k n) := by rw [wp_s dd_130_66 rfl hs]; rfl
theorem dd_130_67 : decode (mB 130) 67 = .ok (.iaload, 1) := by decide +kernel
theorem u_130_67 {G : aG} {S : Nat → Bool} {f : Nat} {st : List Value} {ls : aL} {h : aH} {k n : Nat} {i : Int32} {a : Nat} (hs : S 67 = false) : WP 130 G S (f + 1) 67 ls (.int i :: .ref a :: st) h k n = (oIld (iget h a 1) i (WP 130 G S f) 68 ls st h k n) := by rw [wp_s dd_130_67 rfl hs]; rfl
theorem dd_130_68 : decode (mB 130) 68 = .ok (.invokevirtual 92, 3) := by decide +kernel
theorem u_130_68 {G : aG} {S : Nat → Bool} {f : Nat} {st : List Value} {ls : aL} {h : aH} {k n : Nat} {v1 v2 : Value} {b : Nat} (hs : S 68 = false) : WP 130 G S (f + 1) 68 ls (v2 :: v1 :: .ref b :: st) h k n = (rcv (hget h b) 10 ∧ CAL G (WP 130 G S f) 132 [.ref b, v1, v2] 71 ls st h k n) := by rw [wp_s dd_130_68 rfl hs]; rfl
theorem dd_130_71 : decode (mB 130) 71 = .ok (.goto 112, 3) := by decide +kernel
theorem u_130_71 {G : aG} {S : Nat → Bool} {f : Nat} {st : List Value} {ls : aL} {h : aH} {k n : Nat} (hs : S 71 = false) : WP 130 G S (f + 1) 71 ls st h k n = (WP 130 G S f 183 ls st h k n) := by rw [wp_s dd_130_71 rfl hs]; rfl
theorem dd_130_74 : decode (mB 130) 74 = .ok (.iload 4, 2) := by decide +kernel
theorem u_130_74 {G : aG} {S : Nat → Bool} {f : Nat} {st : List Value} {ls : aL} {h : aH} {k n : Nat} (hs : S 74 = false) : WP 130 G S (f + 1) 74 ls st h k n = (oI (lget ls 4) (WP 130 G S f) 76 ls st h k n) := by rw [wp_s dd_130_74 rfl hs]; rfl
theorem dd_130_76 : decode (mB 130) 76 = .ok (.iload_n 2, 1) := by decide +kernel
theorem u_130_76 {G : aG} {S : Nat → Bool} {f : Nat} {st : List Value} {ls : aL} {h : aH} {k n : Nat} (hs : S 76 = false) : WP 130 G S (f + 1) 76 ls st h k n = (oI (lget ls 2) (WP 130 G S f) 77 ls st h k n) := by rw [wp_s dd_130_76 rfl hs]; rfl
theorem dd_130_77 : decode (mB 130) 77 = .ok (.if_icmp .eq 106, 3) := by decide +kernel
theorem u_130_77 {G : aG} {S : Nat → Bool} {f : Nat} {st : List Value} {ls : aL} {h : aH} {k n : Nat} {x y : Int32} (hs : S 77 = false) : WP 130 G S (f + 1) 77 ls (.int y :: .int x :: st) h k n = (if x = y then WP 130 G S f 183 ls st h k n else WP 130 G S f 80 ls st h k n) := by rw [wp_s dd_130_77 rfl hs]; exact br_ite (c := x = y)
theorem dd_130_80 : decode (mB 130) 80 = .ok (.aload_n 0, 1) := by decide +kernel
theorem u_130_80 {G : aG} {S : Nat → Bool} {f : Nat} {st : List Value} {ls : aL} {h : aH} {k n : Nat} (hs : S 80 = false) : WP 130 G S (f + 1) 80 ls st h k n = (oA (lget ls 0) (WP 130 G S f) 81 ls st h k n) := by rw [wp_s dd_130_80 rfl hs]; rfl
theorem dd_130_81 : decode (mB 130) 81 = .ok (.iload_n 2, 1) := by decide +kernel
theorem u_130_81 {G : aG} {S : Nat → Bool} {f : Nat} {st : List Value} {ls : aL} {h : aH} {k n : Nat} (hs : S 81 = false) : WP 130 G S (f + 1) 81 ls st h k n = (oI (lget ls 2) (WP 130 G S f) 82 ls st h k n) := by rw [wp_s dd_130_81 rfl hs]; rfl
theorem dd_130_82 : decode (mB 130) 82 = .ok (.iload 5, 2) := by decide +kernel
theorem u_130_82 {G : aG} {S : Nat → Bool} {f : Nat} {st : List Value} {ls : aL} {h : aH} {k n : Nat} (hs : S 82 = false) : WP 130 G S (f + 1) 82 ls st h k n = (oI (lget ls 5) (WP 130 G S f) 84 ls st h k n) := by rw [wp_s dd_130_82 rfl hs]; rfl
theorem dd_130_84 : decode (mB 130) 84 = .ok (.invokevirtual 88, 3) := by decide +kernel
theorem u_130_84 {G : aG} {S : Nat → Bool} {f : Nat} {st : List Value} {ls : aL} {h : aH} {k n : Nat} {v1 v2 : Value} {b : Nat} (hs : S 84 = false) : WP 130 G S (f + 1) 84 ls (v2 :: v1 :: .ref b :: st) h k n = (rcv (hget h b) 10 ∧ CAL G (WP 130 G S f) 131 [.ref b, v1, v2] 87 ls st h k n) := by rw [wp_s dd_130_84 rfl hs]; rfl
theorem dd_130_87 : decode (mB 130) 87 = .ok (.ifCond .eq 96, 3) := by decide +kernel
theorem u_130_87 {G : aG} {S : Nat → Bool} {f : Nat} {st : List Value} {ls : aL} {h : aH} {k n : Nat} {x : Int32} (hs : S 87 = false) : WP 130 G S (f + 1) 87 ls (.int x :: st) h k n = (if x = nI 0 then WP 130 G S f 183 ls st h k n else WP 130 G S f 90 ls st h k n) := by rw [wp_s dd_130_87 rfl hs]; exact br_ite (c := x = nI 0)
theorem dd_130_90 : decode (mB 130) 90 = .ok (.aload_n 0, 1) := by decide +kernel
theorem u_130_90 {G : aG} {S : Nat → Bool} {f : Nat} {st : List Value} {ls : aL} {h : aH} {k n : Nat} (hs : S 90 = false) : WP 130 G S (f + 1) 90 ls st h k n = (oA (lget ls 0) (WP 130 G S f) 91 ls st h k n) := by rw [wp_s dd_130_90 rfl hs]; rfl
theorem dd_130_91 : decode (mB 130) 91 = .ok (.getfield 19, 3) := by decide +kernel
theorem u_130_91 {G : aG} {S : Nat → Bool} {f : Nat} {st : List Value} {ls : aL} {h : aH} {k n : Nat} {a : Nat} (hs : S 91 = false) : WP 130 G S (f + 1) 91 ls (.ref a :: st) h k n = (oV (fget h a 10 5) (WP 130 G S f) 94 ls st h k n) := by rw [wp_s dd_130_91 rfl hs]; rfl
theorem dd_130_94 : decode (mB 130) 94 = .ok (.iload 4, 2) := by decide +kernel
theorem u_130_94 {G : aG} {S : Nat → Bool} {f : Nat} {st : List Value} {ls : aL} {h : aH} {k n : Nat} (hs : S 94 = false) : WP 130 G S (f + 1) 94 ls st h k n = (oI (lget ls 4) (WP 130 G S f) 96 ls st h k n) := by rw [wp_s dd_130_94 rfl hs]; rfl
theorem dd_130_96 : decode (mB 130) 96 = .ok (.iaload, 1) := by decide +kernel
theorem u_130_96 {G : aG} {S : Nat → Bool} {f : Nat} {st : List Value} {ls : aL} {h : aH} {k n : Nat} {i : Int32} {a : Nat} (hs : S 96 = false) : WP 130 G S (f + 1) 96 ls (.int i :: .ref a :: st) h k n = (oIld (iget h a 1) i (WP 130 G S f) 97 ls st h k n) := by rw [wp_s dd_130_96 rfl hs]; rfl
theorem dd_130_97 : decode (mB 130) 97 = .ok (.bipush 11, 2) := by decide +kernel
theorem u_130_97 {G : aG} {S : Nat → Bool} {f : Nat} {st : List Value} {ls : aL} {h : aH} {k n : Nat} (hs : S 97 = false) : WP 130 G S (f + 1) 97 ls st h k n = (WP 130 G S f 99 ls (.int (nI 11) :: st) h k n) := by rw [wp_s dd_130_97 rfl hs]; rfl
theorem dd_130_99 : decode (mB 130) 99 = .ok (.if_icmp .ne 16, 3) := by decide +kernel
theorem u_130_99 {G : aG} {S : Nat → Bool} {f : Nat} {st : List Value} {ls : aL} {h : aH} {k n : Nat} {x y : Int32} (hs : S 99 = false) : WP 130 G S (f + 1) 99 ls (.int y :: .int x :: st) h k n = (if x = y then WP 130 G S f 102 ls st h k n else WP 130 G S f 115 ls st h k n) := by rw [wp_s dd_130_99 rfl hs]; exact br_iten (c := x = y)
theorem dd_130_102 : decode (mB 130) 102 = .ok (.aload_n 0, 1) := by decide +kernel
theorem u_130_102 {G : aG} {S : Nat → Bool} {f : Nat} {st : List Value} {ls : aL} {h : aH} {k n : Nat} (hs : S 102 = false) : WP 130 G S (f + 1) 102 ls st h k n = (oA (lget ls 0) (WP 130 G S f) 103 ls st h k n) := by rw [wp_s dd_130_102 rfl hs]; rfl
theorem dd_130_103 : decode (mB 130) 103 = .ok (.iload_n 3, 1) := by decide +kernel
theorem u_130_103 {G : aG} {S : Nat → Bool} {f : Nat} {st : List Value} {ls : aL} {h : aH} {k n : Nat} (hs : S 103 = false) : WP 130 G S (f + 1) 103 ls st h k n = (oI (lget ls 3) (WP 130 G S f) 104 ls st h k n) := by rw [wp_s dd_130_103 rfl hs]; rfl
theorem dd_130_104 : decode (mB 130) 104 = .ok (.iload_n 1, 1) := by decide +kernel
theorem u_130_104 {G : aG} {S : Nat → Bool} {f : Nat} {st : List Value} {ls : aL} {h : aH} {k n : Nat} (hs : S 104 = false) : WP 130 G S (f + 1) 104 ls st h k n = (oI (lget ls 1) (WP 130 G S f) 105 ls st h k n) := by rw [wp_s dd_130_104 rfl hs]; rfl
theorem dd_130_105 : decode (mB 130) 105 = .ok (.aload_n 0, 1) := by decide +kernel
theorem u_130_105 {G : aG} {S : Nat → Bool} {f : Nat} {st : List Value} {ls : aL} {h : aH} {k n : Nat} (hs : S 105 = false) : WP 130 G S (f + 1) 105 ls st h k n = (oA (lget ls 0) (WP 130 G S f) 106 ls st h k n) := by rw [wp_s dd_130_105 rfl hs]; rfl
theorem dd_130_106 : decode (mB 130) 106 = .ok (.getfield 34, 3) := by decide +kernel
theorem u_130_106 {G : aG} {S : Nat → Bool} {f : Nat} {st : List Value} {ls : aL} {h : aH} {k n : Nat} {a : Nat} (hs : S 106 = false) : WP 130 G S (f + 1) 106 ls (.ref a :: st) h k n = (oV (fget h a 10 10) (WP 130 G S f) 109 ls st h k n) := by rw [wp_s dd_130_106 rfl hs]; rfl
theorem dd_130_109 : decode (mB 130) 109 = .ok (.iload_n 2, 1) := by decide +kernel
theorem u_130_109 {G : aG} {S : Nat → Bool} {f : Nat} {st : List Value} {ls : aL} {h : aH} {k n : Nat} (hs : S 109 = false) : WP 130 G S (f + 1) 109 ls st h k n = (oI (lget ls 2) (WP 130 G S f) 110 ls st h k n) := by rw [wp_s dd_130_109 rfl hs]; rfl
theorem dd_130_110 : decode (mB 130) 110 = .ok (.iaload, 1) := by decide +kernel
theorem u_130_110 {G : aG} {S : Nat → Bool} {f : Nat} {st : List Value} {ls : aL} {h : aH} {k n : Nat} {i : Int32} {a : Nat} (hs : S 110 = false) : WP 130 G S (f + 1) 110 ls (.int i :: .ref a :: st) h k n = (oIld (iget h a 1) i (WP 130 G S f) 111 ls st h k n) := by rw [wp_s dd_130_110 rfl hs]; rfl
theorem dd_130_111 : decode (mB 130) 111 = .ok (.ior, 1) := by decide +kernel
theorem u_130_111 {G : aG} {S : Nat → Bool} {f : Nat} {st : List Value} {ls : aL} {h : aH} {k n : Nat} {x y : Int32} (hs : S 111 = false) : WP 130 G S (f + 1) 111 ls (.int y :: .int x :: st) h k n = (WP 130 G S f 112 ls (.int (x ||| y) :: st) h k n) := by rw [wp_s dd_130_111 rfl hs]; rfl
theorem dd_130_112 : decode (mB 130) 112 = .ok (.invokevirtual 92, 3) := by decide +kernel
theorem u_130_112 {G : aG} {S : Nat → Bool} {f : Nat} {st : List Value} {ls : aL} {h : aH} {k n : Nat} {v1 v2 : Value} {b : Nat} (hs : S 112 = false) : WP 130 G S (f + 1) 112 ls (v2 :: v1 :: .ref b :: st) h k n = (rcv (hget h b) 10 ∧ CAL G (WP 130 G S f) 132 [.ref b, v1, v2] 115 ls st h k n) := by rw [wp_s dd_130_112 rfl hs]; rfl
theorem dd_130_115 : decode (mB 130) 115 = .ok (.aload_n 0, 1) := by decide +kernel
theorem u_130_115 {G : aG} {S : Nat → Bool} {f : Nat} {st : List Value} {ls : aL} {h : aH} {k n : Nat} (hs : S 115 = false) : WP 130 G S (f + 1) 115 ls st h k n = (oA (lget ls 0) (WP 130 G S f) 116 ls st h k n) := by rw [wp_s dd_130_115 rfl hs]; rfl
theorem dd_130_116 : decode (mB 130) 116 = .ok (.getfield 19, 3) := by decide +kernel
theorem u_130_116 {G : aG} {S : Nat → Bool} {f : Nat} {st : List Value} {ls : aL} {h : aH} {k n : Nat} {a : Nat} (hs : S 116 = false) : WP 130 G S (f + 1) 116 ls (.ref a :: st) h k n = (oV (fget h a 10 5) (WP 130 G S f) 119 ls st h k n) := by rw [wp_s dd_130_116 rfl hs]; rfl
theorem dd_130_119 : decode (mB 130) 119 = .ok (.iload 4, 2) := by decide +kernel
theorem u_130_119 {G : aG} {S : Nat → Bool} {f : Nat} {st : List Value} {ls : aL} {h : aH} {k n : Nat} (hs : S 119 = false) : WP 130 G S (f + 1) 119 ls st h k n = (oI (lget ls 4) (WP 130 G S f) 121 ls st h k n) := by rw [wp_s dd_130_119 rfl hs]; rfl
theorem dd_130_121 : decode (mB 130) 121 = .ok (.iaload, 1) := by decide +kernel
theorem u_130_121 {G : aG} {S : Nat → Bool} {f : Nat} {st : List Value} {ls : aL} {h : aH} {k n : Nat} {i : Int32} {a : Nat} (hs : S 121 = false) : WP 130 G S (f + 1) 121 ls (.int i :: .ref a :: st) h k n = (oIld (iget h a 1) i (WP 130 G S f) 122 ls st h k n) := by rw [wp_s dd_130_121 rfl hs]; rfl
theorem dd_130_122 : decode (mB 130) 122 = .ok (.bipush 9, 2) := by decide +kernel
theorem u_130_122 {G : aG} {S : Nat → Bool} {f : Nat} {st : List Value} {ls : aL} {h : aH} {k n : Nat} (hs : S 122 = false) : WP 130 G S (f + 1) 122 ls st h k n = (WP 130 G S f 124 ls (.int (nI 9) :: st) h k n) := by rw [wp_s dd_130_122 rfl hs]; rfl
theorem dd_130_124 : decode (mB 130) 124 = .ok (.if_icmp .ne 59, 3) := by decide +kernel
theorem u_130_124 {G : aG} {S : Nat → Bool} {f : Nat} {st : List Value} {ls : aL} {h : aH} {k n : Nat} {x y : Int32} (hs : S 124 = false) : WP 130 G S (f + 1) 124 ls (.int y :: .int x :: st) h k n = (if x = y then WP 130 G S f 127 ls st h k n else WP 130 G S f 183 ls st h k n) := by rw [wp_s dd_130_124 rfl hs]; exact br_iten (c := x = y)
theorem dd_130_127 : decode (mB 130) 127 = .ok (.aload_n 0, 1) := by decide +kernel
theorem u_130_127 {G : aG} {S : Nat → Bool} {f : Nat} {st : List Value} {ls : aL} {h : aH} {k n : Nat} (hs : S 127 = false) : WP 130 G S (f + 1) 127 ls st h k n = (oA (lget ls 0) (WP 130 G S f) 128 ls st h k n) := by rw [wp_s dd_130_127 rfl hs]; rfl
theorem dd_130_128 : decode (mB 130) 128 = .ok (.getfield 25, 3) := by decide +kernel
theorem u_130_128 {G : aG} {S : Nat → Bool} {f : Nat} {st : List Value} {ls : aL} {h : aH} {k n : Nat} {a : Nat} (hs : S 128 = false) : WP 130 G S (f + 1) 128 ls (.ref a :: st) h k n = (oV (fget h a 10 7) (WP 130 G S f) 131 ls st h k n) := by rw [wp_s dd_130_128 rfl hs]; rfl
theorem dd_130_131 : decode (mB 130) 131 = .ok (.iload 4, 2) := by decide +kernel
theorem u_130_131 {G : aG} {S : Nat → Bool} {f : Nat} {st : List Value} {ls : aL} {h : aH} {k n : Nat} (hs : S 131 = false) : WP 130 G S (f + 1) 131 ls st h k n = (oI (lget ls 4) (WP 130 G S f) 133 ls st h k n) := by rw [wp_s dd_130_131 rfl hs]; rfl
theorem dd_130_133 : decode (mB 130) 133 = .ok (.iaload, 1) := by decide +kernel
theorem u_130_133 {G : aG} {S : Nat → Bool} {f : Nat} {st : List Value} {ls : aL} {h : aH} {k n : Nat} {i : Int32} {a : Nat} (hs : S 133 = false) : WP 130 G S (f + 1) 133 ls (.int i :: .ref a :: st) h k n = (oIld (iget h a 1) i (WP 130 G S f) 134 ls st h k n) := by rw [wp_s dd_130_133 rfl hs]; rfl
theorem dd_130_134 : decode (mB 130) 134 = .ok (.iload 5, 2) := by decide +kernel
theorem u_130_134 {G : aG} {S : Nat → Bool} {f : Nat} {st : List Value} {ls : aL} {h : aH} {k n : Nat} (hs : S 134 = false) : WP 130 G S (f + 1) 134 ls st h k n = (oI (lget ls 5) (WP 130 G S f) 136 ls st h k n) := by rw [wp_s dd_130_134 rfl hs]; rfl
theorem dd_130_136 : decode (mB 130) 136 = .ok (.if_icmp .ne 47, 3) := by decide +kernel
theorem u_130_136 {G : aG} {S : Nat → Bool} {f : Nat} {st : List Value} {ls : aL} {h : aH} {k n : Nat} {x y : Int32} (hs : S 136 = false) : WP 130 G S (f + 1) 136 ls (.int y :: .int x :: st) h k n = (if x = y then WP 130 G S f 139 ls st h k n else WP 130 G S f 183 ls st h k n) := by rw [wp_s dd_130_136 rfl hs]; exact br_iten (c := x = y)
theorem dd_130_139 : decode (mB 130) 139 = .ok (.aload_n 0, 1) := by decide +kernel
theorem u_130_139 {G : aG} {S : Nat → Bool} {f : Nat} {st : List Value} {ls : aL} {h : aH} {k n : Nat} (hs : S 139 = false) : WP 130 G S (f + 1) 139 ls st h k n = (oA (lget ls 0) (WP 130 G S f) 140 ls st h k n) := by rw [wp_s dd_130_139 rfl hs]; rfl
theorem dd_130_140 : decode (mB 130) 140 = .ok (.getfield 40, 3) := by decide +kernel
theorem u_130_140 {G : aG} {S : Nat → Bool} {f : Nat} {st : List Value} {ls : aL} {h : aH} {k n : Nat} {a : Nat} (hs : S 140 = false) : WP 130 G S (f + 1) 140 ls (.ref a :: st) h k n = (oV (fget h a 10 12) (WP 130 G S f) 143 ls st h k n) := by rw [wp_s dd_130_140 rfl hs]; rfl
theorem dd_130_143 : decode (mB 130) 143 = .ok (.aload_n 0, 1) := by decide +kernel
theorem u_130_143 {G : aG} {S : Nat → Bool} {f : Nat} {st : List Value} {ls : aL} {h : aH} {k n : Nat} (hs : S 143 = false) : WP 130 G S (f + 1) 143 ls st h k n = (oA (lget ls 0) (WP 130 G S f) 144 ls st h k n) := by rw [wp_s dd_130_143 rfl hs]; rfl
theorem dd_130_144 : decode (mB 130) 144 = .ok (.getfield 22, 3) := by decide +kernel
theorem u_130_144 {G : aG} {S : Nat → Bool} {f : Nat} {st : List Value} {ls : aL} {h : aH} {k n : Nat} {a : Nat} (hs : S 144 = false) : WP 130 G S (f + 1) 144 ls (.ref a :: st) h k n = (oV (fget h a 10 6) (WP 130 G S f) 147 ls st h k n) := by rw [wp_s dd_130_144 rfl hs]; rfl
theorem dd_130_147 : decode (mB 130) 147 = .ok (.iload 4, 2) := by decide +kernel
theorem u_130_147 {G : aG} {S : Nat → Bool} {f : Nat} {st : List Value} {ls : aL} {h : aH} {k n : Nat} (hs : S 147 = false) : WP 130 G S (f + 1) 147 ls st h k n = (oI (lget ls 4) (WP 130 G S f) 149 ls st h k n) := by rw [wp_s dd_130_147 rfl hs]; rfl
theorem dd_130_149 : decode (mB 130) 149 = .ok (.iaload, 1) := by decide +kernel
theorem u_130_149 {G : aG} {S : Nat → Bool} {f : Nat} {st : List Value} {ls : aL} {h : aH} {k n : Nat} {i : Int32} {a : Nat} (hs : S 149 = false) : WP 130 G S (f + 1) 149 ls (.int i :: .ref a :: st) h k n = (oIld (iget h a 1) i (WP 130 G S f) 150 ls st h k n) := by rw [wp_s dd_130_149 rfl hs]; rfl
theorem dd_130_150 : decode (mB 130) 150 = .ok (.iaload, 1) := by decide +kernel
theorem u_130_150 {G : aG} {S : Nat → Bool} {f : Nat} {st : List Value} {ls : aL} {h : aH} {k n : Nat} {i : Int32} {a : Nat} (hs : S 150 = false) : WP 130 G S (f + 1) 150 ls (.int i :: .ref a :: st) h k n = (oIld (iget h a 1) i (WP 130 G S f) 151 ls st h k n) := by rw [wp_s dd_130_150 rfl hs]; rfl
theorem dd_130_151 : decode (mB 130) 151 = .ok (.iconst 1, 1) := by decide +kernel
theorem u_130_151 {G : aG} {S : Nat → Bool} {f : Nat} {st : List Value} {ls : aL} {h : aH} {k n : Nat} (hs : S 151 = false) : WP 130 G S (f + 1) 151 ls st h k n = (WP 130 G S f 152 ls (.int (nI 1) :: st) h k n) := by rw [wp_s dd_130_151 rfl hs]; rfl
theorem dd_130_152 : decode (mB 130) 152 = .ok (.if_icmp .ne 31, 3) := by decide +kernel
theorem u_130_152 {G : aG} {S : Nat → Bool} {f : Nat} {st : List Value} {ls : aL} {h : aH} {k n : Nat} {x y : Int32} (hs : S 152 = false) : WP 130 G S (f + 1) 152 ls (.int y :: .int x :: st) h k n = (if x = y then WP 130 G S f 155 ls st h k n else WP 130 G S f 183 ls st h k n) := by rw [wp_s dd_130_152 rfl hs]; exact br_iten (c := x = y)
theorem dd_130_155 : decode (mB 130) 155 = .ok (.aload_n 0, 1) := by decide +kernel
theorem u_130_155 {G : aG} {S : Nat → Bool} {f : Nat} {st : List Value} {ls : aL} {h : aH} {k n : Nat} (hs : S 155 = false) : WP 130 G S (f + 1) 155 ls st h k n = (oA (lget ls 0) (WP 130 G S f) 156 ls st h k n) := by rw [wp_s dd_130_155 rfl hs]; rfl
theorem dd_130_156 : decode (mB 130) 156 = .ok (.iload_n 3, 1) := by decide +kernel
theorem u_130_156 {G : aG} {S : Nat → Bool} {f : Nat} {st : List Value} {ls : aL} {h : aH} {k n : Nat} (hs : S 156 = false) : WP 130 G S (f + 1) 156 ls st h k n = (oI (lget ls 3) (WP 130 G S f) 157 ls st h k n) := by rw [wp_s dd_130_156 rfl hs]; rfl
theorem dd_130_157 : decode (mB 130) 157 = .ok (.iload_n 1, 1) := by decide +kernel
theorem u_130_157 {G : aG} {S : Nat → Bool} {f : Nat} {st : List Value} {ls : aL} {h : aH} {k n : Nat} (hs : S 157 = false) : WP 130 G S (f + 1) 157 ls st h k n = (oI (lget ls 1) (WP 130 G S f) 158 ls st h k n) := by rw [wp_s dd_130_157 rfl hs]; rfl
theorem dd_130_158 : decode (mB 130) 158 = .ok (.aload_n 0, 1) := by decide +kernel
theorem u_130_158 {G : aG} {S : Nat → Bool} {f : Nat} {st : List Value} {ls : aL} {h : aH} {k n : Nat} (hs : S 158 = false) : WP 130 G S (f + 1) 158 ls st h k n = (oA (lget ls 0) (WP 130 G S f) 159 ls st h k n) := by rw [wp_s dd_130_158 rfl hs]; rfl
theorem dd_130_159 : decode (mB 130) 159 = .ok (.getfield 31, 3) := by decide +kernel
theorem u_130_159 {G : aG} {S : Nat → Bool} {f : Nat} {st : List Value} {ls : aL} {h : aH} {k n : Nat} {a : Nat} (hs : S 159 = false) : WP 130 G S (f + 1) 159 ls (.ref a :: st) h k n = (oV (fget h a 10 9) (WP 130 G S f) 162 ls st h k n) := by rw [wp_s dd_130_159 rfl hs]; rfl
theorem dd_130_162 : decode (mB 130) 162 = .ok (.aload_n 0, 1) := by decide +kernel
theorem u_130_162 {G : aG} {S : Nat → Bool} {f : Nat} {st : List Value} {ls : aL} {h : aH} {k n : Nat} (hs : S 162 = false) : WP 130 G S (f + 1) 162 ls st h k n = (oA (lget ls 0) (WP 130 G S f) 163 ls st h k n) := by rw [wp_s dd_130_162 rfl hs]; rfl
theorem dd_130_163 : decode (mB 130) 163 = .ok (.getfield 22, 3) := by decide +kernel
theorem u_130_163 {G : aG} {S : Nat → Bool} {f : Nat} {st : List Value} {ls : aL} {h : aH} {k n : Nat} {a : Nat} (hs : S 163 = false) : WP 130 G S (f + 1) 163 ls (.ref a :: st) h k n = (oV (fget h a 10 6) (WP 130 G S f) 166 ls st h k n) := by rw [wp_s dd_130_163 rfl hs]; rfl
theorem dd_130_166 : decode (mB 130) 166 = .ok (.iload 4, 2) := by decide +kernel
theorem u_130_166 {G : aG} {S : Nat → Bool} {f : Nat} {st : List Value} {ls : aL} {h : aH} {k n : Nat} (hs : S 166 = false) : WP 130 G S (f + 1) 166 ls st h k n = (oI (lget ls 4) (WP 130 G S f) 168 ls st h k n) := by rw [wp_s dd_130_166 rfl hs]; rfl
theorem dd_130_168 : decode (mB 130) 168 = .ok (.iaload, 1) := by decide +kernel
theorem u_130_168 {G : aG} {S : Nat → Bool} {f : Nat} {st : List Value} {ls : aL} {h : aH} {k n : Nat} {i : Int32} {a : Nat} (hs : S 168 = false) : WP 130 G S (f + 1) 168 ls (.int i :: .ref a :: st) h k n = (oIld (iget h a 1) i (WP 130 G S f) 169 ls st h k n) := by rw [wp_s dd_130_168 rfl hs]; rfl
theorem dd_130_169 : decode (mB 130) 169 = .ok (.iaload, 1) := by decide +kernel
theorem u_130_169 {G : aG} {S : Nat → Bool} {f : Nat} {st : List Value} {ls : aL} {h : aH} {k n : Nat} {i : Int32} {a : Nat} (hs : S 169 = false) : WP 130 G S (f + 1) 169 ls (.int i :: .ref a :: st) h k n = (oIld (iget h a 1) i (WP 130 G S f) 170 ls st h k n) := by rw [wp_s dd_130_169 rfl hs]; rfl
theorem dd_130_170 : decode (mB 130) 170 = .ok (.iconst (-1), 1) := by decide +kernel
theorem u_130_170 {G : aG} {S : Nat → Bool} {f : Nat} {st : List Value} {ls : aL} {h : aH} {k n : Nat} (hs : S 170 = false) : WP 130 G S (f + 1) 170 ls st h k n = (WP 130 G S f 171 ls (.int (-1) :: st) h k n) := by rw [wp_s dd_130_170 rfl hs]; rfl
theorem dd_130_171 : decode (mB 130) 171 = .ok (.ixor, 1) := by decide +kernel
theorem u_130_171 {G : aG} {S : Nat → Bool} {f : Nat} {st : List Value} {ls : aL} {h : aH} {k n : Nat} {x y : Int32} (hs : S 171 = false) : WP 130 G S (f + 1) 171 ls (.int y :: .int x :: st) h k n = (WP 130 G S f 172 ls (.int (x ^^^ y) :: st) h k n) := by rw [wp_s dd_130_171 rfl hs]; rfl
theorem dd_130_172 : decode (mB 130) 172 = .ok (.iand, 1) := by decide +kernel
theorem u_130_172 {G : aG} {S : Nat → Bool} {f : Nat} {st : List Value} {ls : aL} {h : aH} {k n : Nat} {x y : Int32} (hs : S 172 = false) : WP 130 G S (f + 1) 172 ls (.int y :: .int x :: st) h k n = (WP 130 G S f 173 ls (.int (x &&& y) :: st) h k n) := by rw [wp_s dd_130_172 rfl hs]; rfl
theorem dd_130_173 : decode (mB 130) 173 = .ok (.aload_n 0, 1) := by decide +kernel
theorem u_130_173 {G : aG} {S : Nat → Bool} {f : Nat} {st : List Value} {ls : aL} {h : aH} {k n : Nat} (hs : S 173 = false) : WP 130 G S (f + 1) 173 ls st h k n = (oA (lget ls 0) (WP 130 G S f) 174 ls st h k n) := by rw [wp_s dd_130_173 rfl hs]; rfl
theorem dd_130_174 : decode (mB 130) 174 = .ok (.getfield 34, 3) := by decide +kernel
theorem u_130_174 {G : aG} {S : Nat → Bool} {f : Nat} {st : List Value} {ls : aL} {h : aH} {k n : Nat} {a : Nat} (hs : S 174 = false) : WP 130 G S (f + 1) 174 ls (.ref a :: st) h k n = (oV (fget h a 10 10) (WP 130 G S f) 177 ls st h k n) := by rw [wp_s dd_130_174 rfl hs]; rfl
theorem dd_130_177 : decode (mB 130) 177 = .ok (.iload_n 2, 1) := by decide +kernel
theorem u_130_177 {G : aG} {S : Nat → Bool} {f : Nat} {st : List Value} {ls : aL} {h : aH} {k n : Nat} (hs : S 177 = false) : WP 130 G S (f + 1) 177 ls st h k n = (oI (lget ls 2) (WP 130 G S f) 178 ls st h k n) := by rw [wp_s dd_130_177 rfl hs]; rfl
theorem dd_130_178 : decode (mB 130) 178 = .ok (.iaload, 1) := by decide +kernel
theorem u_130_178 {G : aG} {S : Nat → Bool} {f : Nat} {st : List Value} {ls : aL} {h : aH} {k n : Nat} {i : Int32} {a : Nat} (hs : S 178 = false) : WP 130 G S (f + 1) 178 ls (.int i :: .ref a :: st) h k n = (oIld (iget h a 1) i (WP 130 G S f) 179 ls st h k n) := by rw [wp_s dd_130_178 rfl hs]; rfl
theorem dd_130_179 : decode (mB 130) 179 = .ok (.ior, 1) := by decide +kernel
theorem u_130_179 {G : aG} {S : Nat → Bool} {f : Nat} {st : List Value} {ls : aL} {h : aH} {k n : Nat} {x y : Int32} (hs : S 179 = false) : WP 130 G S (f + 1) 179 ls (.int y :: .int x :: st) h k n = (WP 130 G S f 180 ls (.int (x ||| y) :: st) h k n) := by rw [wp_s dd_130_179 rfl hs]; rfl
theorem dd_130_180 : decode (mB 130) 180 = .ok (.invokevirtual 92, 3) := by decide +kernel
theorem u_130_180 {G : aG} {S : Nat → Bool} {f : Nat} {st : List Value} {ls : aL} {h : aH} {k n : Nat} {v1 v2 : Value} {b : Nat} (hs : S 180 = false) : WP 130 G S (f + 1) 180 ls (v2 :: v1 :: .ref b :: st) h k n = (rcv (hget h b) 10 ∧ CAL G (WP 130 G S f) 132 [.ref b, v1, v2] 183 ls st h k n) := by rw [wp_s dd_130_180 rfl hs]; rfl
theorem dd_130_183 : decode (mB 130) 183 = .ok (.aload_n 0, 1) := by decide +kernel
theorem u_130_183 {G : aG} {S : Nat → Bool} {f : Nat} {st : List Value} {ls : aL} {h : aH} {k n : Nat} (hs : S 183 = false) : WP 130 G S (f + 1) 183 ls st h k n = (oA (lget ls 0) (WP 130 G S f) 184 ls st h k n) := by rw [wp_s dd_130_183 rfl hs]; rfl
theorem dd_130_184 : decode (mB 130) 184 = .ok (.getfield 28, 3) := by decide +kernel
theorem u_130_184 {G : aG} {S : Nat → Bool} {f : Nat} {st : List Value} {ls : aL} {h : aH} {k n : Nat} {a : Nat} (hs : S 184 = false) : WP 130 G S (f + 1) 184 ls (.ref a :: st) h k n = (oV (fget h a 10 8) (WP 130 G S f) 187 ls st h k n) := by rw [wp_s dd_130_184 rfl hs]; rfl
theorem dd_130_187 : decode (mB 130) 187 = .ok (.iload_n 2, 1) := by decide +kernel
theorem u_130_187 {G : aG} {S : Nat → Bool} {f : Nat} {st : List Value} {ls : aL} {h : aH} {k n : Nat} (hs : S 187 = false) : WP 130 G S (f + 1) 187 ls st h k n = (oI (lget ls 2) (WP 130 G S f) 188 ls st h k n) := by rw [wp_s dd_130_187 rfl hs]; rfl
theorem dd_130_188 : decode (mB 130) 188 = .ok (.iaload, 1) := by decide +kernel
theorem u_130_188 {G : aG} {S : Nat → Bool} {f : Nat} {st : List Value} {ls : aL} {h : aH} {k n : Nat} {i : Int32} {a : Nat} (hs : S 188 = false) : WP 130 G S (f + 1) 188 ls (.int i :: .ref a :: st) h k n = (oIld (iget h a 1) i (WP 130 G S f) 189 ls st h k n) := by rw [wp_s dd_130_188 rfl hs]; rfl
theorem dd_130_189 : decode (mB 130) 189 = .ok (.istore 6, 2) := by decide +kernel
theorem u_130_189 {G : aG} {S : Nat → Bool} {f : Nat} {st : List Value} {ls : aL} {h : aH} {k n : Nat} {x : Int32} (hs : S 189 = false) : WP 130 G S (f + 1) 189 ls (.int x :: st) h k n = (WP 130 G S f 191 (lput1 ls 6 (.int x)) st h k n) := by rw [wp_s dd_130_189 rfl hs]; rfl
theorem dd_130_191 : decode (mB 130) 191 = .ok (.iload 6, 2) := by decide +kernel
theorem u_130_191 {G : aG} {S : Nat → Bool} {f : Nat} {st : List Value} {ls : aL} {h : aH} {k n : Nat} (hs : S 191 = false) : WP 130 G S (f + 1) 191 ls st h k n = (oI (lget ls 6) (WP 130 G S f) 193 ls st h k n) := by rw [wp_s dd_130_191 rfl hs]; rfl
theorem v_130_191 {G : aG} {S : Nat → Bool} {f : Nat} {st : List Value} {ls : aL} {h : aH} {k n : Nat} : WQ 130 G S f 191 ls st h k n = (oI (lget ls 6) (WP 130 G S f) 193 ls st h k n) := by rw [wq_s dd_130_191 rfl]; rfl
theorem dd_130_193 : decode (mB 130) 193 = .ok (.iconst (-1), 1) := by decide +kernel
theorem u_130_193 {G : aG} {S : Nat → Bool} {f : Nat} {st : List Value} {ls : aL} {h : aH} {k n : Nat} (hs : S 193 = false) : WP 130 G S (f + 1) 193 ls st h k n = (WP 130 G S f 194 ls (.int (-1) :: st) h k n) := by rw [wp_s dd_130_193 rfl hs]; rfl
theorem dd_130_194 : decode (mB 130) 194 = .ok (.if_icmp .eq 117, 3) := by decide +kernel
theorem u_130_194 {G : aG} {S : Nat → Bool} {f : Nat} {st : List Value} {ls : aL} {h : aH} {k n : Nat} {x y : Int32} (hs : S 194 = false) : WP 130 G S (f + 1) 194 ls (.int y :: .int x :: st) h k n = (if x = y then WP 130 G S f 311 ls st h k n else WP 130 G S f 197 ls st h k n) := by rw [wp_s dd_130_194 rfl hs]; exact br_ite (c := x = y)
theorem dd_130_197 : decode (mB 130) 197 = .ok (.aload_n 0, 1) := by decide +kernel
theorem u_130_197 {G : aG} {S : Nat → Bool} {f : Nat} {st : List Value} {ls : aL} {h : aH} {k n : Nat} (hs : S 197 = false) : WP 130 G S (f + 1) 197 ls st h k n = (oA (lget ls 0) (WP 130 G S f) 198 ls st h k n) := by rw [wp_s dd_130_197 rfl hs]; rfl
theorem dd_130_198 : decode (mB 130) 198 = .ok (.getfield 19, 3) := by decide +kernel
theorem u_130_198 {G : aG} {S : Nat → Bool} {f : Nat} {st : List Value} {ls : aL} {h : aH} {k n : Nat} {a : Nat} (hs : S 198 = false) : WP 130 G S (f + 1) 198 ls (.ref a :: st) h k n = (oV (fget h a 10 5) (WP 130 G S f) 201 ls st h k n) := by rw [wp_s dd_130_198 rfl hs]; rfl
theorem dd_130_201 : decode (mB 130) 201 = .ok (.iload 6, 2) := by decide +kernel
theorem u_130_201 {G : aG} {S : Nat → Bool} {f : Nat} {st : List Value} {ls : aL} {h : aH} {k n : Nat} (hs : S 201 = false) : WP 130 G S (f + 1) 201 ls st h k n = (oI (lget ls 6) (WP 130 G S f) 203 ls st h k n) := by rw [wp_s dd_130_201 rfl hs]; rfl
theorem dd_130_203 : decode (mB 130) 203 = .ok (.iaload, 1) := by decide +kernel
theorem u_130_203 {G : aG} {S : Nat → Bool} {f : Nat} {st : List Value} {ls : aL} {h : aH} {k n : Nat} {i : Int32} {a : Nat} (hs : S 203 = false) : WP 130 G S (f + 1) 203 ls (.int i :: .ref a :: st) h k n = (oIld (iget h a 1) i (WP 130 G S f) 204 ls st h k n) := by rw [wp_s dd_130_203 rfl hs]; rfl
theorem dd_130_204 : decode (mB 130) 204 = .ok (.bipush 13, 2) := by decide +kernel
theorem u_130_204 {G : aG} {S : Nat → Bool} {f : Nat} {st : List Value} {ls : aL} {h : aH} {k n : Nat} (hs : S 204 = false) : WP 130 G S (f + 1) 204 ls st h k n = (WP 130 G S f 206 ls (.int (nI 13) :: st) h k n) := by rw [wp_s dd_130_204 rfl hs]; rfl
theorem dd_130_206 : decode (mB 130) 206 = .ok (.if_icmp .eq 15, 3) := by decide +kernel
theorem u_130_206 {G : aG} {S : Nat → Bool} {f : Nat} {st : List Value} {ls : aL} {h : aH} {k n : Nat} {x y : Int32} (hs : S 206 = false) : WP 130 G S (f + 1) 206 ls (.int y :: .int x :: st) h k n = (if x = y then WP 130 G S f 221 ls st h k n else WP 130 G S f 209 ls st h k n) := by rw [wp_s dd_130_206 rfl hs]; exact br_ite (c := x = y)
theorem dd_130_209 : decode (mB 130) 209 = .ok (.aload_n 0, 1) := by decide +kernel
theorem u_130_209 {G : aG} {S : Nat → Bool} {f : Nat} {st : List Value} {ls : aL} {h : aH} {k n : Nat} (hs : S 209 = false) : WP 130 G S (f + 1) 209 ls st h k n = (oA (lget ls 0) (WP 130 G S f) 210 ls st h k n) := by rw [wp_s dd_130_209 rfl hs]; rfl
theorem dd_130_210 : decode (mB 130) 210 = .ok (.getfield 19, 3) := by decide +kernel
theorem u_130_210 {G : aG} {S : Nat → Bool} {f : Nat} {st : List Value} {ls : aL} {h : aH} {k n : Nat} {a : Nat} (hs : S 210 = false) : WP 130 G S (f + 1) 210 ls (.ref a :: st) h k n = (oV (fget h a 10 5) (WP 130 G S f) 213 ls st h k n) := by rw [wp_s dd_130_210 rfl hs]; rfl
theorem dd_130_213 : decode (mB 130) 213 = .ok (.iload 6, 2) := by decide +kernel
theorem u_130_213 {G : aG} {S : Nat → Bool} {f : Nat} {st : List Value} {ls : aL} {h : aH} {k n : Nat} (hs : S 213 = false) : WP 130 G S (f + 1) 213 ls st h k n = (oI (lget ls 6) (WP 130 G S f) 215 ls st h k n) := by rw [wp_s dd_130_213 rfl hs]; rfl
theorem dd_130_215 : decode (mB 130) 215 = .ok (.iaload, 1) := by decide +kernel
theorem u_130_215 {G : aG} {S : Nat → Bool} {f : Nat} {st : List Value} {ls : aL} {h : aH} {k n : Nat} {i : Int32} {a : Nat} (hs : S 215 = false) : WP 130 G S (f + 1) 215 ls (.int i :: .ref a :: st) h k n = (oIld (iget h a 1) i (WP 130 G S f) 216 ls st h k n) := by rw [wp_s dd_130_215 rfl hs]; rfl
theorem dd_130_216 : decode (mB 130) 216 = .ok (.bipush 14, 2) := by decide +kernel
theorem u_130_216 {G : aG} {S : Nat → Bool} {f : Nat} {st : List Value} {ls : aL} {h : aH} {k n : Nat} (hs : S 216 = false) : WP 130 G S (f + 1) 216 ls st h k n = (WP 130 G S f 218 ls (.int (nI 14) :: st) h k n) := by rw [wp_s dd_130_216 rfl hs]; rfl
theorem dd_130_218 : decode (mB 130) 218 = .ok (.if_icmp .ne 7, 3) := by decide +kernel
theorem u_130_218 {G : aG} {S : Nat → Bool} {f : Nat} {st : List Value} {ls : aL} {h : aH} {k n : Nat} {x y : Int32} (hs : S 218 = false) : WP 130 G S (f + 1) 218 ls (.int y :: .int x :: st) h k n = (if x = y then WP 130 G S f 221 ls st h k n else WP 130 G S f 225 ls st h k n) := by rw [wp_s dd_130_218 rfl hs]; exact br_iten (c := x = y)
theorem dd_130_221 : decode (mB 130) 221 = .ok (.iconst 1, 1) := by decide +kernel
theorem u_130_221 {G : aG} {S : Nat → Bool} {f : Nat} {st : List Value} {ls : aL} {h : aH} {k n : Nat} (hs : S 221 = false) : WP 130 G S (f + 1) 221 ls st h k n = (WP 130 G S f 222 ls (.int (nI 1) :: st) h k n) := by rw [wp_s dd_130_221 rfl hs]; rfl
theorem dd_130_222 : decode (mB 130) 222 = .ok (.goto 4, 3) := by decide +kernel
theorem u_130_222 {G : aG} {S : Nat → Bool} {f : Nat} {st : List Value} {ls : aL} {h : aH} {k n : Nat} (hs : S 222 = false) : WP 130 G S (f + 1) 222 ls st h k n = (WP 130 G S f 226 ls st h k n) := by rw [wp_s dd_130_222 rfl hs]; rfl
theorem dd_130_225 : decode (mB 130) 225 = .ok (.iconst 0, 1) := by decide +kernel
theorem u_130_225 {G : aG} {S : Nat → Bool} {f : Nat} {st : List Value} {ls : aL} {h : aH} {k n : Nat} (hs : S 225 = false) : WP 130 G S (f + 1) 225 ls st h k n = (WP 130 G S f 226 ls (.int (nI 0) :: st) h k n) := by rw [wp_s dd_130_225 rfl hs]; rfl
theorem dd_130_226 : decode (mB 130) 226 = .ok (.istore 7, 2) := by decide +kernel
theorem u_130_226 {G : aG} {S : Nat → Bool} {f : Nat} {st : List Value} {ls : aL} {h : aH} {k n : Nat} {x : Int32} (hs : S 226 = false) : WP 130 G S (f + 1) 226 ls (.int x :: st) h k n = (WP 130 G S f 228 (lput1 ls 7 (.int x)) st h k n) := by rw [wp_s dd_130_226 rfl hs]; rfl
theorem dd_130_228 : decode (mB 130) 228 = .ok (.iload 7, 2) := by decide +kernel
theorem u_130_228 {G : aG} {S : Nat → Bool} {f : Nat} {st : List Value} {ls : aL} {h : aH} {k n : Nat} (hs : S 228 = false) : WP 130 G S (f + 1) 228 ls st h k n = (oI (lget ls 7) (WP 130 G S f) 230 ls st h k n) := by rw [wp_s dd_130_228 rfl hs]; rfl
theorem dd_130_230 : decode (mB 130) 230 = .ok (.ifCond .eq 69, 3) := by decide +kernel
theorem u_130_230 {G : aG} {S : Nat → Bool} {f : Nat} {st : List Value} {ls : aL} {h : aH} {k n : Nat} {x : Int32} (hs : S 230 = false) : WP 130 G S (f + 1) 230 ls (.int x :: st) h k n = (if x = nI 0 then WP 130 G S f 299 ls st h k n else WP 130 G S f 233 ls st h k n) := by rw [wp_s dd_130_230 rfl hs]; exact br_ite (c := x = nI 0)
theorem dd_130_233 : decode (mB 130) 233 = .ok (.aload_n 0, 1) := by decide +kernel
theorem u_130_233 {G : aG} {S : Nat → Bool} {f : Nat} {st : List Value} {ls : aL} {h : aH} {k n : Nat} (hs : S 233 = false) : WP 130 G S (f + 1) 233 ls st h k n = (oA (lget ls 0) (WP 130 G S f) 234 ls st h k n) := by rw [wp_s dd_130_233 rfl hs]; rfl
theorem dd_130_234 : decode (mB 130) 234 = .ok (.getfield 31, 3) := by decide +kernel
theorem u_130_234 {G : aG} {S : Nat → Bool} {f : Nat} {st : List Value} {ls : aL} {h : aH} {k n : Nat} {a : Nat} (hs : S 234 = false) : WP 130 G S (f + 1) 234 ls (.ref a :: st) h k n = (oV (fget h a 10 9) (WP 130 G S f) 237 ls st h k n) := by rw [wp_s dd_130_234 rfl hs]; rfl
theorem dd_130_237 : decode (mB 130) 237 = .ok (.iload 6, 2) := by decide +kernel
theorem u_130_237 {G : aG} {S : Nat → Bool} {f : Nat} {st : List Value} {ls : aL} {h : aH} {k n : Nat} (hs : S 237 = false) : WP 130 G S (f + 1) 237 ls st h k n = (oI (lget ls 6) (WP 130 G S f) 239 ls st h k n) := by rw [wp_s dd_130_237 rfl hs]; rfl
theorem dd_130_239 : decode (mB 130) 239 = .ok (.iaload, 1) := by decide +kernel
theorem u_130_239 {G : aG} {S : Nat → Bool} {f : Nat} {st : List Value} {ls : aL} {h : aH} {k n : Nat} {i : Int32} {a : Nat} (hs : S 239 = false) : WP 130 G S (f + 1) 239 ls (.int i :: .ref a :: st) h k n = (oIld (iget h a 1) i (WP 130 G S f) 240 ls st h k n) := by rw [wp_s dd_130_239 rfl hs]; rfl
theorem dd_130_240 : decode (mB 130) 240 = .ok (.iload_n 1, 1) := by decide +kernel
theorem u_130_240 {G : aG} {S : Nat → Bool} {f : Nat} {st : List Value} {ls : aL} {h : aH} {k n : Nat} (hs : S 240 = false) : WP 130 G S (f + 1) 240 ls st h k n = (oI (lget ls 1) (WP 130 G S f) 241 ls st h k n) := by rw [wp_s dd_130_240 rfl hs]; rfl
theorem dd_130_241 : decode (mB 130) 241 = .ok (.iand, 1) := by decide +kernel
theorem u_130_241 {G : aG} {S : Nat → Bool} {f : Nat} {st : List Value} {ls : aL} {h : aH} {k n : Nat} {x y : Int32} (hs : S 241 = false) : WP 130 G S (f + 1) 241 ls (.int y :: .int x :: st) h k n = (WP 130 G S f 242 ls (.int (x &&& y) :: st) h k n) := by rw [wp_s dd_130_241 rfl hs]; rfl
theorem dd_130_242 : decode (mB 130) 242 = .ok (.ifCond .eq 57, 3) := by decide +kernel
theorem u_130_242 {G : aG} {S : Nat → Bool} {f : Nat} {st : List Value} {ls : aL} {h : aH} {k n : Nat} {x : Int32} (hs : S 242 = false) : WP 130 G S (f + 1) 242 ls (.int x :: st) h k n = (if x = nI 0 then WP 130 G S f 299 ls st h k n else WP 130 G S f 245 ls st h k n) := by rw [wp_s dd_130_242 rfl hs]; exact br_ite (c := x = nI 0)
theorem dd_130_245 : decode (mB 130) 245 = .ok (.aload_n 0, 1) := by decide +kernel
theorem u_130_245 {G : aG} {S : Nat → Bool} {f : Nat} {st : List Value} {ls : aL} {h : aH} {k n : Nat} (hs : S 245 = false) : WP 130 G S (f + 1) 245 ls st h k n = (oA (lget ls 0) (WP 130 G S f) 246 ls st h k n) := by rw [wp_s dd_130_245 rfl hs]; rfl
theorem dd_130_246 : decode (mB 130) 246 = .ok (.getfield 40, 3) := by decide +kernel
theorem u_130_246 {G : aG} {S : Nat → Bool} {f : Nat} {st : List Value} {ls : aL} {h : aH} {k n : Nat} {a : Nat} (hs : S 246 = false) : WP 130 G S (f + 1) 246 ls (.ref a :: st) h k n = (oV (fget h a 10 12) (WP 130 G S f) 249 ls st h k n) := by rw [wp_s dd_130_246 rfl hs]; rfl
theorem dd_130_249 : decode (mB 130) 249 = .ok (.aload_n 0, 1) := by decide +kernel
theorem u_130_249 {G : aG} {S : Nat → Bool} {f : Nat} {st : List Value} {ls : aL} {h : aH} {k n : Nat} (hs : S 249 = false) : WP 130 G S (f + 1) 249 ls st h k n = (oA (lget ls 0) (WP 130 G S f) 250 ls st h k n) := by rw [wp_s dd_130_249 rfl hs]; rfl
theorem dd_130_250 : decode (mB 130) 250 = .ok (.getfield 22, 3) := by decide +kernel
theorem u_130_250 {G : aG} {S : Nat → Bool} {f : Nat} {st : List Value} {ls : aL} {h : aH} {k n : Nat} {a : Nat} (hs : S 250 = false) : WP 130 G S (f + 1) 250 ls (.ref a :: st) h k n = (oV (fget h a 10 6) (WP 130 G S f) 253 ls st h k n) := by rw [wp_s dd_130_250 rfl hs]; rfl
theorem dd_130_253 : decode (mB 130) 253 = .ok (.iload 6, 2) := by decide +kernel
theorem u_130_253 {G : aG} {S : Nat → Bool} {f : Nat} {st : List Value} {ls : aL} {h : aH} {k n : Nat} (hs : S 253 = false) : WP 130 G S (f + 1) 253 ls st h k n = (oI (lget ls 6) (WP 130 G S f) 255 ls st h k n) := by rw [wp_s dd_130_253 rfl hs]; rfl
theorem dd_130_255 : decode (mB 130) 255 = .ok (.iaload, 1) := by decide +kernel
theorem u_130_255 {G : aG} {S : Nat → Bool} {f : Nat} {st : List Value} {ls : aL} {h : aH} {k n : Nat} {i : Int32} {a : Nat} (hs : S 255 = false) : WP 130 G S (f + 1) 255 ls (.int i :: .ref a :: st) h k n = (oIld (iget h a 1) i (WP 130 G S f) 256 ls st h k n) := by rw [wp_s dd_130_255 rfl hs]; rfl
theorem dd_130_256 : decode (mB 130) 256 = .ok (.iaload, 1) := by decide +kernel
theorem u_130_256 {G : aG} {S : Nat → Bool} {f : Nat} {st : List Value} {ls : aL} {h : aH} {k n : Nat} {i : Int32} {a : Nat} (hs : S 256 = false) : WP 130 G S (f + 1) 256 ls (.int i :: .ref a :: st) h k n = (oIld (iget h a 1) i (WP 130 G S f) 257 ls st h k n) := by rw [wp_s dd_130_256 rfl hs]; rfl
theorem dd_130_257 : decode (mB 130) 257 = .ok (.iconst 1, 1) := by decide +kernel
theorem u_130_257 {G : aG} {S : Nat → Bool} {f : Nat} {st : List Value} {ls : aL} {h : aH} {k n : Nat} (hs : S 257 = false) : WP 130 G S (f + 1) 257 ls st h k n = (WP 130 G S f 258 ls (.int (nI 1) :: st) h k n) := by rw [wp_s dd_130_257 rfl hs]; rfl
theorem dd_130_258 : decode (mB 130) 258 = .ok (.if_icmp .ne 41, 3) := by decide +kernel
theorem u_130_258 {G : aG} {S : Nat → Bool} {f : Nat} {st : List Value} {ls : aL} {h : aH} {k n : Nat} {x y : Int32} (hs : S 258 = false) : WP 130 G S (f + 1) 258 ls (.int y :: .int x :: st) h k n = (if x = y then WP 130 G S f 261 ls st h k n else WP 130 G S f 299 ls st h k n) := by rw [wp_s dd_130_258 rfl hs]; exact br_iten (c := x = y)
theorem dd_130_261 : decode (mB 130) 261 = .ok (.aload_n 0, 1) := by decide +kernel
theorem u_130_261 {G : aG} {S : Nat → Bool} {f : Nat} {st : List Value} {ls : aL} {h : aH} {k n : Nat} (hs : S 261 = false) : WP 130 G S (f + 1) 261 ls st h k n = (oA (lget ls 0) (WP 130 G S f) 262 ls st h k n) := by rw [wp_s dd_130_261 rfl hs]; rfl
theorem dd_130_262 : decode (mB 130) 262 = .ok (.iload_n 2, 1) := by decide +kernel
theorem u_130_262 {G : aG} {S : Nat → Bool} {f : Nat} {st : List Value} {ls : aL} {h : aH} {k n : Nat} (hs : S 262 = false) : WP 130 G S (f + 1) 262 ls st h k n = (oI (lget ls 2) (WP 130 G S f) 263 ls st h k n) := by rw [wp_s dd_130_262 rfl hs]; rfl
theorem dd_130_263 : decode (mB 130) 263 = .ok (.aload_n 0, 1) := by decide +kernel
theorem u_130_263 {G : aG} {S : Nat → Bool} {f : Nat} {st : List Value} {ls : aL} {h : aH} {k n : Nat} (hs : S 263 = false) : WP 130 G S (f + 1) 263 ls st h k n = (oA (lget ls 0) (WP 130 G S f) 264 ls st h k n) := by rw [wp_s dd_130_263 rfl hs]; rfl
theorem dd_130_264 : decode (mB 130) 264 = .ok (.getfield 22, 3) := by decide +kernel
theorem u_130_264 {G : aG} {S : Nat → Bool} {f : Nat} {st : List Value} {ls : aL} {h : aH} {k n : Nat} {a : Nat} (hs : S 264 = false) : WP 130 G S (f + 1) 264 ls (.ref a :: st) h k n = (oV (fget h a 10 6) (WP 130 G S f) 267 ls st h k n) := by rw [wp_s dd_130_264 rfl hs]; rfl
theorem dd_130_267 : decode (mB 130) 267 = .ok (.iload 6, 2) := by decide +kernel
theorem u_130_267 {G : aG} {S : Nat → Bool} {f : Nat} {st : List Value} {ls : aL} {h : aH} {k n : Nat} (hs : S 267 = false) : WP 130 G S (f + 1) 267 ls st h k n = (oI (lget ls 6) (WP 130 G S f) 269 ls st h k n) := by rw [wp_s dd_130_267 rfl hs]; rfl
theorem dd_130_269 : decode (mB 130) 269 = .ok (.iaload, 1) := by decide +kernel
theorem u_130_269 {G : aG} {S : Nat → Bool} {f : Nat} {st : List Value} {ls : aL} {h : aH} {k n : Nat} {i : Int32} {a : Nat} (hs : S 269 = false) : WP 130 G S (f + 1) 269 ls (.int i :: .ref a :: st) h k n = (oIld (iget h a 1) i (WP 130 G S f) 270 ls st h k n) := by rw [wp_s dd_130_269 rfl hs]; rfl
theorem dd_130_270 : decode (mB 130) 270 = .ok (.invokevirtual 88, 3) := by decide +kernel
theorem u_130_270 {G : aG} {S : Nat → Bool} {f : Nat} {st : List Value} {ls : aL} {h : aH} {k n : Nat} {v1 v2 : Value} {b : Nat} (hs : S 270 = false) : WP 130 G S (f + 1) 270 ls (v2 :: v1 :: .ref b :: st) h k n = (rcv (hget h b) 10 ∧ CAL G (WP 130 G S f) 131 [.ref b, v1, v2] 273 ls st h k n) := by rw [wp_s dd_130_270 rfl hs]; rfl
theorem dd_130_273 : decode (mB 130) 273 = .ok (.ifCond .eq 26, 3) := by decide +kernel
theorem u_130_273 {G : aG} {S : Nat → Bool} {f : Nat} {st : List Value} {ls : aL} {h : aH} {k n : Nat} {x : Int32} (hs : S 273 = false) : WP 130 G S (f + 1) 273 ls (.int x :: st) h k n = (if x = nI 0 then WP 130 G S f 299 ls st h k n else WP 130 G S f 276 ls st h k n) := by rw [wp_s dd_130_273 rfl hs]; exact br_ite (c := x = nI 0)
theorem dd_130_276 : decode (mB 130) 276 = .ok (.aload_n 0, 1) := by decide +kernel
theorem u_130_276 {G : aG} {S : Nat → Bool} {f : Nat} {st : List Value} {ls : aL} {h : aH} {k n : Nat} (hs : S 276 = false) : WP 130 G S (f + 1) 276 ls st h k n = (oA (lget ls 0) (WP 130 G S f) 277 ls st h k n) := by rw [wp_s dd_130_276 rfl hs]; rfl
theorem dd_130_277 : decode (mB 130) 277 = .ok (.iload_n 3, 1) := by decide +kernel
theorem u_130_277 {G : aG} {S : Nat → Bool} {f : Nat} {st : List Value} {ls : aL} {h : aH} {k n : Nat} (hs : S 277 = false) : WP 130 G S (f + 1) 277 ls st h k n = (oI (lget ls 3) (WP 130 G S f) 278 ls st h k n) := by rw [wp_s dd_130_277 rfl hs]; rfl
theorem dd_130_278 : decode (mB 130) 278 = .ok (.iload_n 1, 1) := by decide +kernel
theorem u_130_278 {G : aG} {S : Nat → Bool} {f : Nat} {st : List Value} {ls : aL} {h : aH} {k n : Nat} (hs : S 278 = false) : WP 130 G S (f + 1) 278 ls st h k n = (oI (lget ls 1) (WP 130 G S f) 279 ls st h k n) := by rw [wp_s dd_130_278 rfl hs]; rfl
theorem dd_130_279 : decode (mB 130) 279 = .ok (.aload_n 0, 1) := by decide +kernel
theorem u_130_279 {G : aG} {S : Nat → Bool} {f : Nat} {st : List Value} {ls : aL} {h : aH} {k n : Nat} (hs : S 279 = false) : WP 130 G S (f + 1) 279 ls st h k n = (oA (lget ls 0) (WP 130 G S f) 280 ls st h k n) := by rw [wp_s dd_130_279 rfl hs]; rfl
theorem dd_130_280 : decode (mB 130) 280 = .ok (.getfield 31, 3) := by decide +kernel
theorem u_130_280 {G : aG} {S : Nat → Bool} {f : Nat} {st : List Value} {ls : aL} {h : aH} {k n : Nat} {a : Nat} (hs : S 280 = false) : WP 130 G S (f + 1) 280 ls (.ref a :: st) h k n = (oV (fget h a 10 9) (WP 130 G S f) 283 ls st h k n) := by rw [wp_s dd_130_280 rfl hs]; rfl
theorem dd_130_283 : decode (mB 130) 283 = .ok (.iload 6, 2) := by decide +kernel
theorem u_130_283 {G : aG} {S : Nat → Bool} {f : Nat} {st : List Value} {ls : aL} {h : aH} {k n : Nat} (hs : S 283 = false) : WP 130 G S (f + 1) 283 ls st h k n = (oI (lget ls 6) (WP 130 G S f) 285 ls st h k n) := by rw [wp_s dd_130_283 rfl hs]; rfl
theorem dd_130_285 : decode (mB 130) 285 = .ok (.iaload, 1) := by decide +kernel
theorem u_130_285 {G : aG} {S : Nat → Bool} {f : Nat} {st : List Value} {ls : aL} {h : aH} {k n : Nat} {i : Int32} {a : Nat} (hs : S 285 = false) : WP 130 G S (f + 1) 285 ls (.int i :: .ref a :: st) h k n = (oIld (iget h a 1) i (WP 130 G S f) 286 ls st h k n) := by rw [wp_s dd_130_285 rfl hs]; rfl
theorem dd_130_286 : decode (mB 130) 286 = .ok (.iconst (-1), 1) := by decide +kernel
theorem u_130_286 {G : aG} {S : Nat → Bool} {f : Nat} {st : List Value} {ls : aL} {h : aH} {k n : Nat} (hs : S 286 = false) : WP 130 G S (f + 1) 286 ls st h k n = (WP 130 G S f 287 ls (.int (-1) :: st) h k n) := by rw [wp_s dd_130_286 rfl hs]; rfl
theorem dd_130_287 : decode (mB 130) 287 = .ok (.ixor, 1) := by decide +kernel
theorem u_130_287 {G : aG} {S : Nat → Bool} {f : Nat} {st : List Value} {ls : aL} {h : aH} {k n : Nat} {x y : Int32} (hs : S 287 = false) : WP 130 G S (f + 1) 287 ls (.int y :: .int x :: st) h k n = (WP 130 G S f 288 ls (.int (x ^^^ y) :: st) h k n) := by rw [wp_s dd_130_287 rfl hs]; rfl
theorem dd_130_288 : decode (mB 130) 288 = .ok (.iand, 1) := by decide +kernel
theorem u_130_288 {G : aG} {S : Nat → Bool} {f : Nat} {st : List Value} {ls : aL} {h : aH} {k n : Nat} {x y : Int32} (hs : S 288 = false) : WP 130 G S (f + 1) 288 ls (.int y :: .int x :: st) h k n = (WP 130 G S f 289 ls (.int (x &&& y) :: st) h k n) := by rw [wp_s dd_130_288 rfl hs]; rfl
theorem dd_130_289 : decode (mB 130) 289 = .ok (.aload_n 0, 1) := by decide +kernel
theorem u_130_289 {G : aG} {S : Nat → Bool} {f : Nat} {st : List Value} {ls : aL} {h : aH} {k n : Nat} (hs : S 289 = false) : WP 130 G S (f + 1) 289 ls st h k n = (oA (lget ls 0) (WP 130 G S f) 290 ls st h k n) := by rw [wp_s dd_130_289 rfl hs]; rfl
theorem dd_130_290 : decode (mB 130) 290 = .ok (.getfield 34, 3) := by decide +kernel
theorem u_130_290 {G : aG} {S : Nat → Bool} {f : Nat} {st : List Value} {ls : aL} {h : aH} {k n : Nat} {a : Nat} (hs : S 290 = false) : WP 130 G S (f + 1) 290 ls (.ref a :: st) h k n = (oV (fget h a 10 10) (WP 130 G S f) 293 ls st h k n) := by rw [wp_s dd_130_290 rfl hs]; rfl
theorem dd_130_293 : decode (mB 130) 293 = .ok (.iload_n 2, 1) := by decide +kernel
theorem u_130_293 {G : aG} {S : Nat → Bool} {f : Nat} {st : List Value} {ls : aL} {h : aH} {k n : Nat} (hs : S 293 = false) : WP 130 G S (f + 1) 293 ls st h k n = (oI (lget ls 2) (WP 130 G S f) 294 ls st h k n) := by rw [wp_s dd_130_293 rfl hs]; rfl
theorem dd_130_294 : decode (mB 130) 294 = .ok (.iaload, 1) := by decide +kernel
theorem u_130_294 {G : aG} {S : Nat → Bool} {f : Nat} {st : List Value} {ls : aL} {h : aH} {k n : Nat} {i : Int32} {a : Nat} (hs : S 294 = false) : WP 130 G S (f + 1) 294 ls (.int i :: .ref a :: st) h k n = (oIld (iget h a 1) i (WP 130 G S f) 295 ls st h k n) := by rw [wp_s dd_130_294 rfl hs]; rfl
theorem dd_130_295 : decode (mB 130) 295 = .ok (.ior, 1) := by decide +kernel
theorem u_130_295 {G : aG} {S : Nat → Bool} {f : Nat} {st : List Value} {ls : aL} {h : aH} {k n : Nat} {x y : Int32} (hs : S 295 = false) : WP 130 G S (f + 1) 295 ls (.int y :: .int x :: st) h k n = (WP 130 G S f 296 ls (.int (x ||| y) :: st) h k n) := by rw [wp_s dd_130_295 rfl hs]; rfl
theorem dd_130_296 : decode (mB 130) 296 = .ok (.invokevirtual 92, 3) := by decide +kernel
theorem u_130_296 {G : aG} {S : Nat → Bool} {f : Nat} {st : List Value} {ls : aL} {h : aH} {k n : Nat} {v1 v2 : Value} {b : Nat} (hs : S 296 = false) : WP 130 G S (f + 1) 296 ls (v2 :: v1 :: .ref b :: st) h k n = (rcv (hget h b) 10 ∧ CAL G (WP 130 G S f) 132 [.ref b, v1, v2] 299 ls st h k n) := by rw [wp_s dd_130_296 rfl hs]; rfl
theorem dd_130_299 : decode (mB 130) 299 = .ok (.aload_n 0, 1) := by decide +kernel
theorem u_130_299 {G : aG} {S : Nat → Bool} {f : Nat} {st : List Value} {ls : aL} {h : aH} {k n : Nat} (hs : S 299 = false) : WP 130 G S (f + 1) 299 ls st h k n = (oA (lget ls 0) (WP 130 G S f) 300 ls st h k n) := by rw [wp_s dd_130_299 rfl hs]; rfl
theorem dd_130_300 : decode (mB 130) 300 = .ok (.getfield 28, 3) := by decide +kernel
theorem u_130_300 {G : aG} {S : Nat → Bool} {f : Nat} {st : List Value} {ls : aL} {h : aH} {k n : Nat} {a : Nat} (hs : S 300 = false) : WP 130 G S (f + 1) 300 ls (.ref a :: st) h k n = (oV (fget h a 10 8) (WP 130 G S f) 303 ls st h k n) := by rw [wp_s dd_130_300 rfl hs]; rfl
theorem dd_130_303 : decode (mB 130) 303 = .ok (.iload 6, 2) := by decide +kernel
theorem u_130_303 {G : aG} {S : Nat → Bool} {f : Nat} {st : List Value} {ls : aL} {h : aH} {k n : Nat} (hs : S 303 = false) : WP 130 G S (f + 1) 303 ls st h k n = (oI (lget ls 6) (WP 130 G S f) 305 ls st h k n) := by rw [wp_s dd_130_303 rfl hs]; rfl
theorem dd_130_305 : decode (mB 130) 305 = .ok (.iaload, 1) := by decide +kernel
theorem u_130_305 {G : aG} {S : Nat → Bool} {f : Nat} {st : List Value} {ls : aL} {h : aH} {k n : Nat} {i : Int32} {a : Nat} (hs : S 305 = false) : WP 130 G S (f + 1) 305 ls (.int i :: .ref a :: st) h k n = (oIld (iget h a 1) i (WP 130 G S f) 306 ls st h k n) := by rw [wp_s dd_130_305 rfl hs]; rfl
theorem dd_130_306 : decode (mB 130) 306 = .ok (.istore 6, 2) := by decide +kernel
theorem u_130_306 {G : aG} {S : Nat → Bool} {f : Nat} {st : List Value} {ls : aL} {h : aH} {k n : Nat} {x : Int32} (hs : S 306 = false) : WP 130 G S (f + 1) 306 ls (.int x :: st) h k n = (WP 130 G S f 308 (lput1 ls 6 (.int x)) st h k n) := by rw [wp_s dd_130_306 rfl hs]; rfl
theorem dd_130_308 : decode (mB 130) 308 = .ok (.goto (-117), 3) := by decide +kernel
theorem u_130_308 {G : aG} {S : Nat → Bool} {f : Nat} {st : List Value} {ls : aL} {h : aH} {k n : Nat} (hs : S 308 = false) : WP 130 G S (f + 1) 308 ls st h k n = (WP 130 G S f 191 ls st h k n) := by rw [wp_s dd_130_308 rfl hs]; rfl
theorem dd_130_311 : decode (mB 130) 311 = .ok (.return_, 1) := by decide +kernel
theorem u_130_311 {G : aG} {S : Nat → Bool} {f : Nat} {ls : aL} {h : aH} {k n : Nat} (hs : S 311 = false) : WP 130 G S (f + 1) 311 ls [] h k n = (RET G none h k n) := by rw [wp_s dd_130_311 rfl hs]; rfl
theorem dd_131_0 : decode (mB 131) 0 = .ok (.iconst 1, 1) := by decide +kernel
theorem u_131_0 {G : aG} {S : Nat → Bool} {f : Nat} {st : List Value} {ls : aL} {h : aH} {k n : Nat} (hs : S 0 = false) : WP 131 G S (f + 1) 0 ls st h k n = (WP 131 G S f 1 ls (.int (nI 1) :: st) h k n) := by rw [wp_s dd_131_0 rfl hs]; rfl
theorem dd_131_1 : decode (mB 131) 1 = .ok (.istore_n 3, 1) := by decide +kernel
theorem u_131_1 {G : aG} {S : Nat → Bool} {f : Nat} {st : List Value} {ls : aL} {h : aH} {k n : Nat} {x : Int32} (hs : S 1 = false) : WP 131 G S (f + 1) 1 ls (.int x :: st) h k n = (WP 131 G S f 2 (lput1 ls 3 (.int x)) st h k n) := by rw [wp_s dd_131_1 rfl hs]; rfl
theorem dd_131_2 : decode (mB 131) 2 = .ok (.iload_n 1, 1) := by decide +kernel
theorem u_131_2 {G : aG} {S : Nat → Bool} {f : Nat} {st : List Value} {ls : aL} {h : aH} {k n : Nat} (hs : S 2 = false) : WP 131 G S (f + 1) 2 ls st h k n = (oI (lget ls 1) (WP 131 G S f) 3 ls st h k n) := by rw [wp_s dd_131_2 rfl hs]; rfl
theorem dd_131_3 : decode (mB 131) 3 = .ok (.istore 4, 2) := by decide +kernel
theorem u_131_3 {G : aG} {S : Nat → Bool} {f : Nat} {st : List Value} {ls : aL} {h : aH} {k n : Nat} {x : Int32} (hs : S 3 = false) : WP 131 G S (f + 1) 3 ls (.int x :: st) h k n = (WP 131 G S f 5 (lput1 ls 4 (.int x)) st h k n) := by rw [wp_s dd_131_3 rfl hs]; rfl
theorem dd_131_5 : decode (mB 131) 5 = .ok (.iload 4, 2) := by decide +kernel
theorem u_131_5 {G : aG} {S : Nat → Bool} {f : Nat} {st : List Value} {ls : aL} {h : aH} {k n : Nat} (hs : S 5 = false) : WP 131 G S (f + 1) 5 ls st h k n = (oI (lget ls 4) (WP 131 G S f) 7 ls st h k n) := by rw [wp_s dd_131_5 rfl hs]; rfl
theorem v_131_5 {G : aG} {S : Nat → Bool} {f : Nat} {st : List Value} {ls : aL} {h : aH} {k n : Nat} : WQ 131 G S f 5 ls st h k n = (oI (lget ls 4) (WP 131 G S f) 7 ls st h k n) := by rw [wq_s dd_131_5 rfl]; rfl
theorem dd_131_7 : decode (mB 131) 7 = .ok (.iload_n 2, 1) := by decide +kernel
theorem u_131_7 {G : aG} {S : Nat → Bool} {f : Nat} {st : List Value} {ls : aL} {h : aH} {k n : Nat} (hs : S 7 = false) : WP 131 G S (f + 1) 7 ls st h k n = (oI (lget ls 2) (WP 131 G S f) 8 ls st h k n) := by rw [wp_s dd_131_7 rfl hs]; rfl
theorem dd_131_8 : decode (mB 131) 8 = .ok (.if_icmp .eq 74, 3) := by decide +kernel
theorem u_131_8 {G : aG} {S : Nat → Bool} {f : Nat} {st : List Value} {ls : aL} {h : aH} {k n : Nat} {x y : Int32} (hs : S 8 = false) : WP 131 G S (f + 1) 8 ls (.int y :: .int x :: st) h k n = (if x = y then WP 131 G S f 82 ls st h k n else WP 131 G S f 11 ls st h k n) := by rw [wp_s dd_131_8 rfl hs]; exact br_ite (c := x = y)
theorem dd_131_11 : decode (mB 131) 11 = .ok (.aload_n 0, 1) := by decide +kernel
theorem u_131_11 {G : aG} {S : Nat → Bool} {f : Nat} {st : List Value} {ls : aL} {h : aH} {k n : Nat} (hs : S 11 = false) : WP 131 G S (f + 1) 11 ls st h k n = (oA (lget ls 0) (WP 131 G S f) 12 ls st h k n) := by rw [wp_s dd_131_11 rfl hs]; rfl
theorem dd_131_12 : decode (mB 131) 12 = .ok (.getfield 28, 3) := by decide +kernel
theorem u_131_12 {G : aG} {S : Nat → Bool} {f : Nat} {st : List Value} {ls : aL} {h : aH} {k n : Nat} {a : Nat} (hs : S 12 = false) : WP 131 G S (f + 1) 12 ls (.ref a :: st) h k n = (oV (fget h a 10 8) (WP 131 G S f) 15 ls st h k n) := by rw [wp_s dd_131_12 rfl hs]; rfl
theorem dd_131_15 : decode (mB 131) 15 = .ok (.iload 4, 2) := by decide +kernel
theorem u_131_15 {G : aG} {S : Nat → Bool} {f : Nat} {st : List Value} {ls : aL} {h : aH} {k n : Nat} (hs : S 15 = false) : WP 131 G S (f + 1) 15 ls st h k n = (oI (lget ls 4) (WP 131 G S f) 17 ls st h k n) := by rw [wp_s dd_131_15 rfl hs]; rfl
theorem dd_131_17 : decode (mB 131) 17 = .ok (.iaload, 1) := by decide +kernel
theorem u_131_17 {G : aG} {S : Nat → Bool} {f : Nat} {st : List Value} {ls : aL} {h : aH} {k n : Nat} {i : Int32} {a : Nat} (hs : S 17 = false) : WP 131 G S (f + 1) 17 ls (.int i :: .ref a :: st) h k n = (oIld (iget h a 1) i (WP 131 G S f) 18 ls st h k n) := by rw [wp_s dd_131_17 rfl hs]; rfl
theorem dd_131_18 : decode (mB 131) 18 = .ok (.istore 5, 2) := by decide +kernel
theorem u_131_18 {G : aG} {S : Nat → Bool} {f : Nat} {st : List Value} {ls : aL} {h : aH} {k n : Nat} {x : Int32} (hs : S 18 = false) : WP 131 G S (f + 1) 18 ls (.int x :: st) h k n = (WP 131 G S f 20 (lput1 ls 5 (.int x)) st h k n) := by rw [wp_s dd_131_18 rfl hs]; rfl
theorem dd_131_20 : decode (mB 131) 20 = .ok (.iload_n 3, 1) := by decide +kernel
theorem u_131_20 {G : aG} {S : Nat → Bool} {f : Nat} {st : List Value} {ls : aL} {h : aH} {k n : Nat} (hs : S 20 = false) : WP 131 G S (f + 1) 20 ls st h k n = (oI (lget ls 3) (WP 131 G S f) 21 ls st h k n) := by rw [wp_s dd_131_20 rfl hs]; rfl
theorem dd_131_21 : decode (mB 131) 21 = .ok (.ifCond .eq 47, 3) := by decide +kernel
theorem u_131_21 {G : aG} {S : Nat → Bool} {f : Nat} {st : List Value} {ls : aL} {h : aH} {k n : Nat} {x : Int32} (hs : S 21 = false) : WP 131 G S (f + 1) 21 ls (.int x :: st) h k n = (if x = nI 0 then WP 131 G S f 68 ls st h k n else WP 131 G S f 24 ls st h k n) := by rw [wp_s dd_131_21 rfl hs]; exact br_ite (c := x = nI 0)
theorem dd_131_24 : decode (mB 131) 24 = .ok (.aload_n 0, 1) := by decide +kernel
theorem u_131_24 {G : aG} {S : Nat → Bool} {f : Nat} {st : List Value} {ls : aL} {h : aH} {k n : Nat} (hs : S 24 = false) : WP 131 G S (f + 1) 24 ls st h k n = (oA (lget ls 0) (WP 131 G S f) 25 ls st h k n) := by rw [wp_s dd_131_24 rfl hs]; rfl
theorem dd_131_25 : decode (mB 131) 25 = .ok (.getfield 19, 3) := by decide +kernel
theorem u_131_25 {G : aG} {S : Nat → Bool} {f : Nat} {st : List Value} {ls : aL} {h : aH} {k n : Nat} {a : Nat} (hs : S 25 = false) : WP 131 G S (f + 1) 25 ls (.ref a :: st) h k n = (oV (fget h a 10 5) (WP 131 G S f) 28 ls st h k n) := by rw [wp_s dd_131_25 rfl hs]; rfl
theorem dd_131_28 : decode (mB 131) 28 = .ok (.iload 5, 2) := by decide +kernel
theorem u_131_28 {G : aG} {S : Nat → Bool} {f : Nat} {st : List Value} {ls : aL} {h : aH} {k n : Nat} (hs : S 28 = false) : WP 131 G S (f + 1) 28 ls st h k n = (oI (lget ls 5) (WP 131 G S f) 30 ls st h k n) := by rw [wp_s dd_131_28 rfl hs]; rfl
theorem dd_131_30 : decode (mB 131) 30 = .ok (.iaload, 1) := by decide +kernel
theorem u_131_30 {G : aG} {S : Nat → Bool} {f : Nat} {st : List Value} {ls : aL} {h : aH} {k n : Nat} {i : Int32} {a : Nat} (hs : S 30 = false) : WP 131 G S (f + 1) 30 ls (.int i :: .ref a :: st) h k n = (oIld (iget h a 1) i (WP 131 G S f) 31 ls st h k n) := by rw [wp_s dd_131_30 rfl hs]; rfl
theorem dd_131_31 : decode (mB 131) 31 = .ok (.bipush 9, 2) := by decide +kernel
theorem u_131_31 {G : aG} {S : Nat → Bool} {f : Nat} {st : List Value} {ls : aL} {h : aH} {k n : Nat} (hs : S 31 = false) : WP 131 G S (f + 1) 31 ls st h k n = (WP 131 G S f 33 ls (.int (nI 9) :: st) h k n) := by rw [wp_s dd_131_31 rfl hs]; rfl
theorem dd_131_33 : decode (mB 131) 33 = .ok (.if_icmp .ne 31, 3) := by decide +kernel
theorem u_131_33 {G : aG} {S : Nat → Bool} {f : Nat} {st : List Value} {ls : aL} {h : aH} {k n : Nat} {x y : Int32} (hs : S 33 = false) : WP 131 G S (f + 1) 33 ls (.int y :: .int x :: st) h k n = (if x = y then WP 131 G S f 36 ls st h k n else WP 131 G S f 64 ls st h k n) := by rw [wp_s dd_131_33 rfl hs]; exact br_iten (c := x = y)
theorem dd_131_36 : decode (mB 131) 36 = .ok (.aload_n 0, 1) := by decide +kernel
theorem u_131_36 {G : aG} {S : Nat → Bool} {f : Nat} {st : List Value} {ls : aL} {h : aH} {k n : Nat} (hs : S 36 = false) : WP 131 G S (f + 1) 36 ls st h k n = (oA (lget ls 0) (WP 131 G S f) 37 ls st h k n) := by rw [wp_s dd_131_36 rfl hs]; rfl
theorem dd_131_37 : decode (mB 131) 37 = .ok (.getfield 25, 3) := by decide +kernel
theorem u_131_37 {G : aG} {S : Nat → Bool} {f : Nat} {st : List Value} {ls : aL} {h : aH} {k n : Nat} {a : Nat} (hs : S 37 = false) : WP 131 G S (f + 1) 37 ls (.ref a :: st) h k n = (oV (fget h a 10 7) (WP 131 G S f) 40 ls st h k n) := by rw [wp_s dd_131_37 rfl hs]; rfl
theorem dd_131_40 : decode (mB 131) 40 = .ok (.iload 5, 2) := by decide +kernel
theorem u_131_40 {G : aG} {S : Nat → Bool} {f : Nat} {st : List Value} {ls : aL} {h : aH} {k n : Nat} (hs : S 40 = false) : WP 131 G S (f + 1) 40 ls st h k n = (oI (lget ls 5) (WP 131 G S f) 42 ls st h k n) := by rw [wp_s dd_131_40 rfl hs]; rfl
theorem dd_131_42 : decode (mB 131) 42 = .ok (.iaload, 1) := by decide +kernel
theorem u_131_42 {G : aG} {S : Nat → Bool} {f : Nat} {st : List Value} {ls : aL} {h : aH} {k n : Nat} {i : Int32} {a : Nat} (hs : S 42 = false) : WP 131 G S (f + 1) 42 ls (.int i :: .ref a :: st) h k n = (oIld (iget h a 1) i (WP 131 G S f) 43 ls st h k n) := by rw [wp_s dd_131_42 rfl hs]; rfl
theorem dd_131_43 : decode (mB 131) 43 = .ok (.iload 4, 2) := by decide +kernel
theorem u_131_43 {G : aG} {S : Nat → Bool} {f : Nat} {st : List Value} {ls : aL} {h : aH} {k n : Nat} (hs : S 43 = false) : WP 131 G S (f + 1) 43 ls st h k n = (oI (lget ls 4) (WP 131 G S f) 45 ls st h k n) := by rw [wp_s dd_131_43 rfl hs]; rfl
theorem dd_131_45 : decode (mB 131) 45 = .ok (.if_icmp .ne 19, 3) := by decide +kernel
theorem u_131_45 {G : aG} {S : Nat → Bool} {f : Nat} {st : List Value} {ls : aL} {h : aH} {k n : Nat} {x y : Int32} (hs : S 45 = false) : WP 131 G S (f + 1) 45 ls (.int y :: .int x :: st) h k n = (if x = y then WP 131 G S f 48 ls st h k n else WP 131 G S f 64 ls st h k n) := by rw [wp_s dd_131_45 rfl hs]; exact br_iten (c := x = y)
theorem dd_131_48 : decode (mB 131) 48 = .ok (.aload_n 0, 1) := by decide +kernel
theorem u_131_48 {G : aG} {S : Nat → Bool} {f : Nat} {st : List Value} {ls : aL} {h : aH} {k n : Nat} (hs : S 48 = false) : WP 131 G S (f + 1) 48 ls st h k n = (oA (lget ls 0) (WP 131 G S f) 49 ls st h k n) := by rw [wp_s dd_131_48 rfl hs]; rfl
theorem dd_131_49 : decode (mB 131) 49 = .ok (.getfield 37, 3) := by decide +kernel
theorem u_131_49 {G : aG} {S : Nat → Bool} {f : Nat} {st : List Value} {ls : aL} {h : aH} {k n : Nat} {a : Nat} (hs : S 49 = false) : WP 131 G S (f + 1) 49 ls (.ref a :: st) h k n = (oV (fget h a 10 11) (WP 131 G S f) 52 ls st h k n) := by rw [wp_s dd_131_49 rfl hs]; rfl
theorem dd_131_52 : decode (mB 131) 52 = .ok (.aload_n 0, 1) := by decide +kernel
theorem u_131_52 {G : aG} {S : Nat → Bool} {f : Nat} {st : List Value} {ls : aL} {h : aH} {k n : Nat} (hs : S 52 = false) : WP 131 G S (f + 1) 52 ls st h k n = (oA (lget ls 0) (WP 131 G S f) 53 ls st h k n) := by rw [wp_s dd_131_52 rfl hs]; rfl
theorem dd_131_53 : decode (mB 131) 53 = .ok (.getfield 22, 3) := by decide +kernel
theorem u_131_53 {G : aG} {S : Nat → Bool} {f : Nat} {st : List Value} {ls : aL} {h : aH} {k n : Nat} {a : Nat} (hs : S 53 = false) : WP 131 G S (f + 1) 53 ls (.ref a :: st) h k n = (oV (fget h a 10 6) (WP 131 G S f) 56 ls st h k n) := by rw [wp_s dd_131_53 rfl hs]; rfl
theorem dd_131_56 : decode (mB 131) 56 = .ok (.iload 5, 2) := by decide +kernel
theorem u_131_56 {G : aG} {S : Nat → Bool} {f : Nat} {st : List Value} {ls : aL} {h : aH} {k n : Nat} (hs : S 56 = false) : WP 131 G S (f + 1) 56 ls st h k n = (oI (lget ls 5) (WP 131 G S f) 58 ls st h k n) := by rw [wp_s dd_131_56 rfl hs]; rfl
theorem dd_131_58 : decode (mB 131) 58 = .ok (.iaload, 1) := by decide +kernel
theorem u_131_58 {G : aG} {S : Nat → Bool} {f : Nat} {st : List Value} {ls : aL} {h : aH} {k n : Nat} {i : Int32} {a : Nat} (hs : S 58 = false) : WP 131 G S (f + 1) 58 ls (.int i :: .ref a :: st) h k n = (oIld (iget h a 1) i (WP 131 G S f) 59 ls st h k n) := by rw [wp_s dd_131_58 rfl hs]; rfl
theorem dd_131_59 : decode (mB 131) 59 = .ok (.iaload, 1) := by decide +kernel
theorem u_131_59 {G : aG} {S : Nat → Bool} {f : Nat} {st : List Value} {ls : aL} {h : aH} {k n : Nat} {i : Int32} {a : Nat} (hs : S 59 = false) : WP 131 G S (f + 1) 59 ls (.int i :: .ref a :: st) h k n = (oIld (iget h a 1) i (WP 131 G S f) 60 ls st h k n) := by rw [wp_s dd_131_59 rfl hs]; rfl
theorem dd_131_60 : decode (mB 131) 60 = .ok (.iconst 1, 1) := by decide +kernel
theorem u_131_60 {G : aG} {S : Nat → Bool} {f : Nat} {st : List Value} {ls : aL} {h : aH} {k n : Nat} (hs : S 60 = false) : WP 131 G S (f + 1) 60 ls st h k n = (WP 131 G S f 61 ls (.int (nI 1) :: st) h k n) := by rw [wp_s dd_131_60 rfl hs]; rfl
theorem dd_131_61 : decode (mB 131) 61 = .ok (.if_icmp .ne 7, 3) := by decide +kernel
theorem u_131_61 {G : aG} {S : Nat → Bool} {f : Nat} {st : List Value} {ls : aL} {h : aH} {k n : Nat} {x y : Int32} (hs : S 61 = false) : WP 131 G S (f + 1) 61 ls (.int y :: .int x :: st) h k n = (if x = y then WP 131 G S f 64 ls st h k n else WP 131 G S f 68 ls st h k n) := by rw [wp_s dd_131_61 rfl hs]; exact br_iten (c := x = y)
theorem dd_131_64 : decode (mB 131) 64 = .ok (.iconst 1, 1) := by decide +kernel
theorem u_131_64 {G : aG} {S : Nat → Bool} {f : Nat} {st : List Value} {ls : aL} {h : aH} {k n : Nat} (hs : S 64 = false) : WP 131 G S (f + 1) 64 ls st h k n = (WP 131 G S f 65 ls (.int (nI 1) :: st) h k n) := by rw [wp_s dd_131_64 rfl hs]; rfl
theorem dd_131_65 : decode (mB 131) 65 = .ok (.goto 4, 3) := by decide +kernel
theorem u_131_65 {G : aG} {S : Nat → Bool} {f : Nat} {st : List Value} {ls : aL} {h : aH} {k n : Nat} (hs : S 65 = false) : WP 131 G S (f + 1) 65 ls st h k n = (WP 131 G S f 69 ls st h k n) := by rw [wp_s dd_131_65 rfl hs]; rfl
theorem dd_131_68 : decode (mB 131) 68 = .ok (.iconst 0, 1) := by decide +kernel
theorem u_131_68 {G : aG} {S : Nat → Bool} {f : Nat} {st : List Value} {ls : aL} {h : aH} {k n : Nat} (hs : S 68 = false) : WP 131 G S (f + 1) 68 ls st h k n = (WP 131 G S f 69 ls (.int (nI 0) :: st) h k n) := by rw [wp_s dd_131_68 rfl hs]; rfl
theorem dd_131_69 : decode (mB 131) 69 = .ok (.istore_n 3, 1) := by decide +kernel
theorem u_131_69 {G : aG} {S : Nat → Bool} {f : Nat} {st : List Value} {ls : aL} {h : aH} {k n : Nat} {x : Int32} (hs : S 69 = false) : WP 131 G S (f + 1) 69 ls (.int x :: st) h k n = (WP 131 G S f 70 (lput1 ls 3 (.int x)) st h k n) := by rw [wp_s dd_131_69 rfl hs]; rfl
theorem dd_131_70 : decode (mB 131) 70 = .ok (.aload_n 0, 1) := by decide +kernel
theorem u_131_70 {G : aG} {S : Nat → Bool} {f : Nat} {st : List Value} {ls : aL} {h : aH} {k n : Nat} (hs : S 70 = false) : WP 131 G S (f + 1) 70 ls st h k n = (oA (lget ls 0) (WP 131 G S f) 71 ls st h k n) := by rw [wp_s dd_131_70 rfl hs]; rfl
theorem dd_131_71 : decode (mB 131) 71 = .ok (.getfield 28, 3) := by decide +kernel
theorem u_131_71 {G : aG} {S : Nat → Bool} {f : Nat} {st : List Value} {ls : aL} {h : aH} {k n : Nat} {a : Nat} (hs : S 71 = false) : WP 131 G S (f + 1) 71 ls (.ref a :: st) h k n = (oV (fget h a 10 8) (WP 131 G S f) 74 ls st h k n) := by rw [wp_s dd_131_71 rfl hs]; rfl
theorem dd_131_74 : decode (mB 131) 74 = .ok (.iload 4, 2) := by decide +kernel
theorem u_131_74 {G : aG} {S : Nat → Bool} {f : Nat} {st : List Value} {ls : aL} {h : aH} {k n : Nat} (hs : S 74 = false) : WP 131 G S (f + 1) 74 ls st h k n = (oI (lget ls 4) (WP 131 G S f) 76 ls st h k n) := by rw [wp_s dd_131_74 rfl hs]; rfl
theorem dd_131_76 : decode (mB 131) 76 = .ok (.iaload, 1) := by decide +kernel
theorem u_131_76 {G : aG} {S : Nat → Bool} {f : Nat} {st : List Value} {ls : aL} {h : aH} {k n : Nat} {i : Int32} {a : Nat} (hs : S 76 = false) : WP 131 G S (f + 1) 76 ls (.int i :: .ref a :: st) h k n = (oIld (iget h a 1) i (WP 131 G S f) 77 ls st h k n) := by rw [wp_s dd_131_76 rfl hs]; rfl
theorem dd_131_77 : decode (mB 131) 77 = .ok (.istore 4, 2) := by decide +kernel
theorem u_131_77 {G : aG} {S : Nat → Bool} {f : Nat} {st : List Value} {ls : aL} {h : aH} {k n : Nat} {x : Int32} (hs : S 77 = false) : WP 131 G S (f + 1) 77 ls (.int x :: st) h k n = (WP 131 G S f 79 (lput1 ls 4 (.int x)) st h k n) := by rw [wp_s dd_131_77 rfl hs]; rfl
theorem dd_131_79 : decode (mB 131) 79 = .ok (.goto (-74), 3) := by decide +kernel
theorem u_131_79 {G : aG} {S : Nat → Bool} {f : Nat} {st : List Value} {ls : aL} {h : aH} {k n : Nat} (hs : S 79 = false) : WP 131 G S (f + 1) 79 ls st h k n = (WP 131 G S f 5 ls st h k n) := by rw [wp_s dd_131_79 rfl hs]; rfl
theorem dd_131_82 : decode (mB 131) 82 = .ok (.iload_n 3, 1) := by decide +kernel
theorem u_131_82 {G : aG} {S : Nat → Bool} {f : Nat} {st : List Value} {ls : aL} {h : aH} {k n : Nat} (hs : S 82 = false) : WP 131 G S (f + 1) 82 ls st h k n = (oI (lget ls 3) (WP 131 G S f) 83 ls st h k n) := by rw [wp_s dd_131_82 rfl hs]; rfl
theorem dd_131_83 : decode (mB 131) 83 = .ok (.ireturn, 1) := by decide +kernel
theorem u_131_83 {G : aG} {S : Nat → Bool} {f : Nat} {ls : aL} {h : aH} {k n : Nat} {x : Int32} (hs : S 83 = false) : WP 131 G S (f + 1) 83 ls [.int x] h k n = (cond (x == nI 0 || x == nI 1) (RET G (some (.int x)) h k n) False) := by rw [wp_s dd_131_83 rfl hs]; rfl
theorem dd_132_0 : decode (mB 132) 0 = .ok (.iconst 0, 1) := by decide +kernel
theorem u_132_0 {G : aG} {S : Nat → Bool} {f : Nat} {st : List Value} {ls : aL} {h : aH} {k n : Nat} (hs : S 0 = false) : WP 132 G S (f + 1) 0 ls st h k n = (WP 132 G S f 1 ls (.int (nI 0) :: st) h k n) := by rw [wp_s dd_132_0 rfl hs]; rfl
theorem dd_132_1 : decode (mB 132) 1 = .ok (.istore_n 3, 1) := by decide +kernel
theorem u_132_1 {G : aG} {S : Nat → Bool} {f : Nat} {st : List Value} {ls : aL} {h : aH} {k n : Nat} {x : Int32} (hs : S 1 = false) : WP 132 G S (f + 1) 1 ls (.int x :: st) h k n = (WP 132 G S f 2 (lput1 ls 3 (.int x)) st h k n) := by rw [wp_s dd_132_1 rfl hs]; rfl
theorem dd_132_2 : decode (mB 132) 2 = .ok (.iload_n 3, 1) := by decide +kernel
theorem u_132_2 {G : aG} {S : Nat → Bool} {f : Nat} {st : List Value} {ls : aL} {h : aH} {k n : Nat} (hs : S 2 = false) : WP 132 G S (f + 1) 2 ls st h k n = (oI (lget ls 3) (WP 132 G S f) 3 ls st h k n) := by rw [wp_s dd_132_2 rfl hs]; rfl
theorem v_132_2 {G : aG} {S : Nat → Bool} {f : Nat} {st : List Value} {ls : aL} {h : aH} {k n : Nat} : WQ 132 G S f 2 ls st h k n = (oI (lget ls 3) (WP 132 G S f) 3 ls st h k n) := by rw [wq_s dd_132_2 rfl]; rfl
theorem dd_132_3 : decode (mB 132) 3 = .ok (.aload_n 0, 1) := by decide +kernel
theorem u_132_3 {G : aG} {S : Nat → Bool} {f : Nat} {st : List Value} {ls : aL} {h : aH} {k n : Nat} (hs : S 3 = false) : WP 132 G S (f + 1) 3 ls st h k n = (oA (lget ls 0) (WP 132 G S f) 4 ls st h k n) := by rw [wp_s dd_132_3 rfl hs]; rfl
theorem dd_132_4 : decode (mB 132) 4 = .ok (.getfield 46, 3) := by decide +kernel
theorem u_132_4 {G : aG} {S : Nat → Bool} {f : Nat} {st : List Value} {ls : aL} {h : aH} {k n : Nat} {a : Nat} (hs : S 4 = false) : WP 132 G S (f + 1) 4 ls (.ref a :: st) h k n = (oV (fget h a 10 14) (WP 132 G S f) 7 ls st h k n) := by rw [wp_s dd_132_4 rfl hs]; rfl
theorem dd_132_7 : decode (mB 132) 7 = .ok (.iload_n 1, 1) := by decide +kernel
theorem u_132_7 {G : aG} {S : Nat → Bool} {f : Nat} {st : List Value} {ls : aL} {h : aH} {k n : Nat} (hs : S 7 = false) : WP 132 G S (f + 1) 7 ls st h k n = (oI (lget ls 1) (WP 132 G S f) 8 ls st h k n) := by rw [wp_s dd_132_7 rfl hs]; rfl
theorem dd_132_8 : decode (mB 132) 8 = .ok (.iaload, 1) := by decide +kernel
theorem u_132_8 {G : aG} {S : Nat → Bool} {f : Nat} {st : List Value} {ls : aL} {h : aH} {k n : Nat} {i : Int32} {a : Nat} (hs : S 8 = false) : WP 132 G S (f + 1) 8 ls (.int i :: .ref a :: st) h k n = (oIld (iget h a 1) i (WP 132 G S f) 9 ls st h k n) := by rw [wp_s dd_132_8 rfl hs]; rfl
theorem dd_132_9 : decode (mB 132) 9 = .ok (.if_icmp .ge 26, 3) := by decide +kernel
theorem u_132_9 {G : aG} {S : Nat → Bool} {f : Nat} {st : List Value} {ls : aL} {h : aH} {k n : Nat} {x y : Int32} (hs : S 9 = false) : WP 132 G S (f + 1) 9 ls (.int y :: .int x :: st) h k n = (if y ≤ x then WP 132 G S f 35 ls st h k n else WP 132 G S f 12 ls st h k n) := by rw [wp_s dd_132_9 rfl hs]; exact br_ite (c := y ≤ x)
theorem dd_132_12 : decode (mB 132) 12 = .ok (.aload_n 0, 1) := by decide +kernel
theorem u_132_12 {G : aG} {S : Nat → Bool} {f : Nat} {st : List Value} {ls : aL} {h : aH} {k n : Nat} (hs : S 12 = false) : WP 132 G S (f + 1) 12 ls st h k n = (oA (lget ls 0) (WP 132 G S f) 13 ls st h k n) := by rw [wp_s dd_132_12 rfl hs]; rfl
theorem dd_132_13 : decode (mB 132) 13 = .ok (.getfield 43, 3) := by decide +kernel
theorem u_132_13 {G : aG} {S : Nat → Bool} {f : Nat} {st : List Value} {ls : aL} {h : aH} {k n : Nat} {a : Nat} (hs : S 13 = false) : WP 132 G S (f + 1) 13 ls (.ref a :: st) h k n = (oV (fget h a 10 13) (WP 132 G S f) 16 ls st h k n) := by rw [wp_s dd_132_13 rfl hs]; rfl
theorem dd_132_16 : decode (mB 132) 16 = .ok (.sipush 256, 3) := by decide +kernel
theorem u_132_16 {G : aG} {S : Nat → Bool} {f : Nat} {st : List Value} {ls : aL} {h : aH} {k n : Nat} (hs : S 16 = false) : WP 132 G S (f + 1) 16 ls st h k n = (WP 132 G S f 19 ls (.int (nI 256) :: st) h k n) := by rw [wp_s dd_132_16 rfl hs]; rfl
theorem dd_132_19 : decode (mB 132) 19 = .ok (.iload_n 1, 1) := by decide +kernel
theorem u_132_19 {G : aG} {S : Nat → Bool} {f : Nat} {st : List Value} {ls : aL} {h : aH} {k n : Nat} (hs : S 19 = false) : WP 132 G S (f + 1) 19 ls st h k n = (oI (lget ls 1) (WP 132 G S f) 20 ls st h k n) := by rw [wp_s dd_132_19 rfl hs]; rfl
theorem dd_132_20 : decode (mB 132) 20 = .ok (.imul, 1) := by decide +kernel
theorem u_132_20 {G : aG} {S : Nat → Bool} {f : Nat} {st : List Value} {ls : aL} {h : aH} {k n : Nat} {x y : Int32} (hs : S 20 = false) : WP 132 G S (f + 1) 20 ls (.int y :: .int x :: st) h k n = (WP 132 G S f 21 ls (.int (x * y) :: st) h k n) := by rw [wp_s dd_132_20 rfl hs]; rfl
theorem dd_132_21 : decode (mB 132) 21 = .ok (.iload_n 3, 1) := by decide +kernel
theorem u_132_21 {G : aG} {S : Nat → Bool} {f : Nat} {st : List Value} {ls : aL} {h : aH} {k n : Nat} (hs : S 21 = false) : WP 132 G S (f + 1) 21 ls st h k n = (oI (lget ls 3) (WP 132 G S f) 22 ls st h k n) := by rw [wp_s dd_132_21 rfl hs]; rfl
theorem dd_132_22 : decode (mB 132) 22 = .ok (.iadd, 1) := by decide +kernel
theorem u_132_22 {G : aG} {S : Nat → Bool} {f : Nat} {st : List Value} {ls : aL} {h : aH} {k n : Nat} {x y : Int32} (hs : S 22 = false) : WP 132 G S (f + 1) 22 ls (.int y :: .int x :: st) h k n = (WP 132 G S f 23 ls (.int (x + y) :: st) h k n) := by rw [wp_s dd_132_22 rfl hs]; rfl
theorem dd_132_23 : decode (mB 132) 23 = .ok (.iaload, 1) := by decide +kernel
theorem u_132_23 {G : aG} {S : Nat → Bool} {f : Nat} {st : List Value} {ls : aL} {h : aH} {k n : Nat} {i : Int32} {a : Nat} (hs : S 23 = false) : WP 132 G S (f + 1) 23 ls (.int i :: .ref a :: st) h k n = (oIld (iget h a 1) i (WP 132 G S f) 24 ls st h k n) := by rw [wp_s dd_132_23 rfl hs]; rfl
theorem dd_132_24 : decode (mB 132) 24 = .ok (.iload_n 2, 1) := by decide +kernel
theorem u_132_24 {G : aG} {S : Nat → Bool} {f : Nat} {st : List Value} {ls : aL} {h : aH} {k n : Nat} (hs : S 24 = false) : WP 132 G S (f + 1) 24 ls st h k n = (oI (lget ls 2) (WP 132 G S f) 25 ls st h k n) := by rw [wp_s dd_132_24 rfl hs]; rfl
theorem dd_132_25 : decode (mB 132) 25 = .ok (.if_icmp .ne 4, 3) := by decide +kernel
theorem u_132_25 {G : aG} {S : Nat → Bool} {f : Nat} {st : List Value} {ls : aL} {h : aH} {k n : Nat} {x y : Int32} (hs : S 25 = false) : WP 132 G S (f + 1) 25 ls (.int y :: .int x :: st) h k n = (if x = y then WP 132 G S f 28 ls st h k n else WP 132 G S f 29 ls st h k n) := by rw [wp_s dd_132_25 rfl hs]; exact br_iten (c := x = y)
theorem dd_132_28 : decode (mB 132) 28 = .ok (.return_, 1) := by decide +kernel
theorem u_132_28 {G : aG} {S : Nat → Bool} {f : Nat} {ls : aL} {h : aH} {k n : Nat} (hs : S 28 = false) : WP 132 G S (f + 1) 28 ls [] h k n = (RET G none h k n) := by rw [wp_s dd_132_28 rfl hs]; rfl
theorem dd_132_29 : decode (mB 132) 29 = .ok (.iinc 3 1, 3) := by decide +kernel
theorem u_132_29 {G : aG} {S : Nat → Bool} {f : Nat} {st : List Value} {ls : aL} {h : aH} {k n : Nat} (hs : S 29 = false) : WP 132 G S (f + 1) 29 ls st h k n = (oInc (lget ls 3) (nI 1) (WP 132 G S f) 3 32 ls st h k n) := by rw [wp_s dd_132_29 rfl hs]; rfl
theorem dd_132_32 : decode (mB 132) 32 = .ok (.goto (-30), 3) := by decide +kernel
theorem u_132_32 {G : aG} {S : Nat → Bool} {f : Nat} {st : List Value} {ls : aL} {h : aH} {k n : Nat} (hs : S 32 = false) : WP 132 G S (f + 1) 32 ls st h k n = (WP 132 G S f 2 ls st h k n) := by rw [wp_s dd_132_32 rfl hs]; rfl
theorem dd_132_35 : decode (mB 132) 35 = .ok (.aload_n 0, 1) := by decide +kernel
theorem u_132_35 {G : aG} {S : Nat → Bool} {f : Nat} {st : List Value} {ls : aL} {h : aH} {k n : Nat} (hs : S 35 = false) : WP 132 G S (f + 1) 35 ls st h k n = (oA (lget ls 0) (WP 132 G S f) 36 ls st h k n) := by rw [wp_s dd_132_35 rfl hs]; rfl
theorem dd_132_36 : decode (mB 132) 36 = .ok (.getfield 43, 3) := by decide +kernel
theorem u_132_36 {G : aG} {S : Nat → Bool} {f : Nat} {st : List Value} {ls : aL} {h : aH} {k n : Nat} {a : Nat} (hs : S 36 = false) : WP 132 G S (f + 1) 36 ls (.ref a :: st) h k n = (oV (fget h a 10 13) (WP 132 G S f) 39 ls st h k n) := by rw [wp_s dd_132_36 rfl hs]; rfl
theorem dd_132_39 : decode (mB 132) 39 = .ok (.sipush 256, 3) := by decide +kernel
theorem u_132_39 {G : aG} {S : Nat → Bool} {f : Nat} {st : List Value} {ls : aL} {h : aH} {k n : Nat} (hs : S 39 = false) : WP 132 G S (f + 1) 39 ls st h k n = (WP 132 G S f 42 ls (.int (nI 256) :: st) h k n) := by rw [wp_s dd_132_39 rfl hs]; rfl
theorem dd_132_42 : decode (mB 132) 42 = .ok (.iload_n 1, 1) := by decide +kernel
theorem u_132_42 {G : aG} {S : Nat → Bool} {f : Nat} {st : List Value} {ls : aL} {h : aH} {k n : Nat} (hs : S 42 = false) : WP 132 G S (f + 1) 42 ls st h k n = (oI (lget ls 1) (WP 132 G S f) 43 ls st h k n) := by rw [wp_s dd_132_42 rfl hs]; rfl
theorem dd_132_43 : decode (mB 132) 43 = .ok (.imul, 1) := by decide +kernel
theorem u_132_43 {G : aG} {S : Nat → Bool} {f : Nat} {st : List Value} {ls : aL} {h : aH} {k n : Nat} {x y : Int32} (hs : S 43 = false) : WP 132 G S (f + 1) 43 ls (.int y :: .int x :: st) h k n = (WP 132 G S f 44 ls (.int (x * y) :: st) h k n) := by rw [wp_s dd_132_43 rfl hs]; rfl
theorem dd_132_44 : decode (mB 132) 44 = .ok (.aload_n 0, 1) := by decide +kernel
theorem u_132_44 {G : aG} {S : Nat → Bool} {f : Nat} {st : List Value} {ls : aL} {h : aH} {k n : Nat} (hs : S 44 = false) : WP 132 G S (f + 1) 44 ls st h k n = (oA (lget ls 0) (WP 132 G S f) 45 ls st h k n) := by rw [wp_s dd_132_44 rfl hs]; rfl
theorem dd_132_45 : decode (mB 132) 45 = .ok (.getfield 46, 3) := by decide +kernel
theorem u_132_45 {G : aG} {S : Nat → Bool} {f : Nat} {st : List Value} {ls : aL} {h : aH} {k n : Nat} {a : Nat} (hs : S 45 = false) : WP 132 G S (f + 1) 45 ls (.ref a :: st) h k n = (oV (fget h a 10 14) (WP 132 G S f) 48 ls st h k n) := by rw [wp_s dd_132_45 rfl hs]; rfl
theorem dd_132_48 : decode (mB 132) 48 = .ok (.iload_n 1, 1) := by decide +kernel
theorem u_132_48 {G : aG} {S : Nat → Bool} {f : Nat} {st : List Value} {ls : aL} {h : aH} {k n : Nat} (hs : S 48 = false) : WP 132 G S (f + 1) 48 ls st h k n = (oI (lget ls 1) (WP 132 G S f) 49 ls st h k n) := by rw [wp_s dd_132_48 rfl hs]; rfl
theorem dd_132_49 : decode (mB 132) 49 = .ok (.iaload, 1) := by decide +kernel
theorem u_132_49 {G : aG} {S : Nat → Bool} {f : Nat} {st : List Value} {ls : aL} {h : aH} {k n : Nat} {i : Int32} {a : Nat} (hs : S 49 = false) : WP 132 G S (f + 1) 49 ls (.int i :: .ref a :: st) h k n = (oIld (iget h a 1) i (WP 132 G S f) 50 ls st h k n) := by rw [wp_s dd_132_49 rfl hs]; rfl
theorem dd_132_50 : decode (mB 132) 50 = .ok (.iadd, 1) := by decide +kernel
theorem u_132_50 {G : aG} {S : Nat → Bool} {f : Nat} {st : List Value} {ls : aL} {h : aH} {k n : Nat} {x y : Int32} (hs : S 50 = false) : WP 132 G S (f + 1) 50 ls (.int y :: .int x :: st) h k n = (WP 132 G S f 51 ls (.int (x + y) :: st) h k n) := by rw [wp_s dd_132_50 rfl hs]; rfl
theorem dd_132_51 : decode (mB 132) 51 = .ok (.iload_n 2, 1) := by decide +kernel
theorem u_132_51 {G : aG} {S : Nat → Bool} {f : Nat} {st : List Value} {ls : aL} {h : aH} {k n : Nat} (hs : S 51 = false) : WP 132 G S (f + 1) 51 ls st h k n = (oI (lget ls 2) (WP 132 G S f) 52 ls st h k n) := by rw [wp_s dd_132_51 rfl hs]; rfl
theorem dd_132_52 : decode (mB 132) 52 = .ok (.iastore, 1) := by decide +kernel
theorem u_132_52 {G : aG} {S : Nat → Bool} {f : Nat} {st : List Value} {ls : aL} {h : aH} {k n : Nat} {i x : Int32} {a : Nat} (hs : S 52 = false) : WP 132 G S (f + 1) 52 ls (.int x :: .int i :: .ref a :: st) h k n = (oIst (iget h a 1) a i x (WP 132 G S f) 53 ls st h k n) := by rw [wp_s dd_132_52 rfl hs]; rfl
theorem dd_132_53 : decode (mB 132) 53 = .ok (.aload_n 0, 1) := by decide +kernel
theorem u_132_53 {G : aG} {S : Nat → Bool} {f : Nat} {st : List Value} {ls : aL} {h : aH} {k n : Nat} (hs : S 53 = false) : WP 132 G S (f + 1) 53 ls st h k n = (oA (lget ls 0) (WP 132 G S f) 54 ls st h k n) := by rw [wp_s dd_132_53 rfl hs]; rfl
theorem dd_132_54 : decode (mB 132) 54 = .ok (.getfield 46, 3) := by decide +kernel
theorem u_132_54 {G : aG} {S : Nat → Bool} {f : Nat} {st : List Value} {ls : aL} {h : aH} {k n : Nat} {a : Nat} (hs : S 54 = false) : WP 132 G S (f + 1) 54 ls (.ref a :: st) h k n = (oV (fget h a 10 14) (WP 132 G S f) 57 ls st h k n) := by rw [wp_s dd_132_54 rfl hs]; rfl
theorem dd_132_57 : decode (mB 132) 57 = .ok (.iload_n 1, 1) := by decide +kernel
theorem u_132_57 {G : aG} {S : Nat → Bool} {f : Nat} {st : List Value} {ls : aL} {h : aH} {k n : Nat} (hs : S 57 = false) : WP 132 G S (f + 1) 57 ls st h k n = (oI (lget ls 1) (WP 132 G S f) 58 ls st h k n) := by rw [wp_s dd_132_57 rfl hs]; rfl
theorem dd_132_58 : decode (mB 132) 58 = .ok (.dup2, 1) := by decide +kernel
theorem u_132_58 {G : aG} {S : Nat → Bool} {f : Nat} {st : List Value} {ls : aL} {h : aH} {k n : Nat} {v v2 : Value} (hs : S 58 = false) : WP 132 G S (f + 1) 58 ls (v :: v2 :: st) h k n = (cond (cat1 v && cat1 v2) (WP 132 G S f 59 ls (v :: v2 :: v :: v2 :: st) h k n) False) := by rw [wp_s dd_132_58 rfl hs]; rfl
theorem dd_132_59 : decode (mB 132) 59 = .ok (.iaload, 1) := by decide +kernel
theorem u_132_59 {G : aG} {S : Nat → Bool} {f : Nat} {st : List Value} {ls : aL} {h : aH} {k n : Nat} {i : Int32} {a : Nat} (hs : S 59 = false) : WP 132 G S (f + 1) 59 ls (.int i :: .ref a :: st) h k n = (oIld (iget h a 1) i (WP 132 G S f) 60 ls st h k n) := by rw [wp_s dd_132_59 rfl hs]; rfl
theorem dd_132_60 : decode (mB 132) 60 = .ok (.iconst 1, 1) := by decide +kernel
theorem u_132_60 {G : aG} {S : Nat → Bool} {f : Nat} {st : List Value} {ls : aL} {h : aH} {k n : Nat} (hs : S 60 = false) : WP 132 G S (f + 1) 60 ls st h k n = (WP 132 G S f 61 ls (.int (nI 1) :: st) h k n) := by rw [wp_s dd_132_60 rfl hs]; rfl
theorem dd_132_61 : decode (mB 132) 61 = .ok (.iadd, 1) := by decide +kernel
theorem u_132_61 {G : aG} {S : Nat → Bool} {f : Nat} {st : List Value} {ls : aL} {h : aH} {k n : Nat} {x y : Int32} (hs : S 61 = false) : WP 132 G S (f + 1) 61 ls (.int y :: .int x :: st) h k n = (WP 132 G S f 62 ls (.int (x + y) :: st) h k n) := by rw [wp_s dd_132_61 rfl hs]; rfl
theorem dd_132_62 : decode (mB 132) 62 = .ok (.iastore, 1) := by decide +kernel
theorem u_132_62 {G : aG} {S : Nat → Bool} {f : Nat} {st : List Value} {ls : aL} {h : aH} {k n : Nat} {i x : Int32} {a : Nat} (hs : S 62 = false) : WP 132 G S (f + 1) 62 ls (.int x :: .int i :: .ref a :: st) h k n = (oIst (iget h a 1) a i x (WP 132 G S f) 63 ls st h k n) := by rw [wp_s dd_132_62 rfl hs]; rfl
theorem dd_132_63 : decode (mB 132) 63 = .ok (.return_, 1) := by decide +kernel
theorem u_132_63 {G : aG} {S : Nat → Bool} {f : Nat} {ls : aL} {h : aH} {k n : Nat} (hs : S 63 = false) : WP 132 G S (f + 1) 63 ls [] h k n = (RET G none h k n) := by rw [wp_s dd_132_63 rfl hs]; rfl
theorem dd_133_0 : decode (mB 133) 0 = .ok (.iload_n 1, 1) := by decide +kernel
theorem u_133_0 {G : aG} {S : Nat → Bool} {f : Nat} {st : List Value} {ls : aL} {h : aH} {k n : Nat} (hs : S 0 = false) : WP 133 G S (f + 1) 0 ls st h k n = (oI (lget ls 1) (WP 133 G S f) 1 ls st h k n) := by rw [wp_s dd_133_0 rfl hs]; rfl
theorem dd_133_1 : decode (mB 133) 1 = .ok (.invokestatic 177, 3) := by decide +kernel
theorem u_133_1 {G : aG} {S : Nat → Bool} {f : Nat} {st : List Value} {ls : aL} {h : aH} {k n : Nat} {v1 : Value} (hs : S 1 = false) : WP 133 G S (f + 1) 1 ls (v1 :: st) h k n = (CAL G (WP 133 G S f) 120 [v1] 4 ls st h k n) := by rw [wp_s dd_133_1 rfl hs]; rfl
theorem dd_133_4 : decode (mB 133) 4 = .ok (.ifCond .eq 24, 3) := by decide +kernel
theorem u_133_4 {G : aG} {S : Nat → Bool} {f : Nat} {st : List Value} {ls : aL} {h : aH} {k n : Nat} {x : Int32} (hs : S 4 = false) : WP 133 G S (f + 1) 4 ls (.int x :: st) h k n = (if x = nI 0 then WP 133 G S f 28 ls st h k n else WP 133 G S f 7 ls st h k n) := by rw [wp_s dd_133_4 rfl hs]; exact br_ite (c := x = nI 0)
theorem dd_133_7 : decode (mB 133) 7 = .ok (.iload_n 2, 1) := by decide +kernel
theorem u_133_7 {G : aG} {S : Nat → Bool} {f : Nat} {st : List Value} {ls : aL} {h : aH} {k n : Nat} (hs : S 7 = false) : WP 133 G S (f + 1) 7 ls st h k n = (oI (lget ls 2) (WP 133 G S f) 8 ls st h k n) := by rw [wp_s dd_133_7 rfl hs]; rfl
theorem dd_133_8 : decode (mB 133) 8 = .ok (.i2l, 1) := by decide +kernel
theorem u_133_8 {G : aG} {S : Nat → Bool} {f : Nat} {st : List Value} {ls : aL} {h : aH} {k n : Nat} {x : Int32} (hs : S 8 = false) : WP 133 G S (f + 1) 8 ls (.int x :: st) h k n = (WP 133 G S f 9 ls (.long x.toInt64 :: st) h k n) := by rw [wp_s dd_133_8 rfl hs]; rfl
theorem dd_133_9 : decode (mB 133) 9 = .ok (.lconst 0, 1) := by decide +kernel
theorem u_133_9 {G : aG} {S : Nat → Bool} {f : Nat} {st : List Value} {ls : aL} {h : aH} {k n : Nat} (hs : S 9 = false) : WP 133 G S (f + 1) 9 ls st h k n = (WP 133 G S f 10 ls (.long (lN 0) :: st) h k n) := by rw [wp_s dd_133_9 rfl hs]; rfl
theorem dd_133_10 : decode (mB 133) 10 = .ok (.ldc2_w 201, 3) := by decide +kernel
theorem u_133_10 {G : aG} {S : Nat → Bool} {f : Nat} {st : List Value} {ls : aL} {h : aH} {k n : Nat} (hs : S 10 = false) : WP 133 G S (f + 1) 10 ls st h k n = (WP 133 G S f 13 ls (.long (lN 6) :: st) h k n) := by rw [wp_s dd_133_10 rfl hs]; rfl
theorem dd_133_13 : decode (mB 133) 13 = .ok (.invokestatic 109, 3) := by decide +kernel
theorem u_133_13 {G : aG} {S : Nat → Bool} {f : Nat} {st : List Value} {ls : aL} {h : aH} {k n : Nat} {v1 v2 v3 : Value} (hs : S 13 = false) : WP 133 G S (f + 1) 13 ls (v3 :: v2 :: v1 :: st) h k n = (CAL G (WP 133 G S f) 104 [v1, v2, v3] 16 ls st h k n) := by rw [wp_s dd_133_13 rfl hs]; rfl
theorem dd_133_16 : decode (mB 133) 16 = .ok (.ifCond .eq 12, 3) := by decide +kernel
theorem u_133_16 {G : aG} {S : Nat → Bool} {f : Nat} {st : List Value} {ls : aL} {h : aH} {k n : Nat} {x : Int32} (hs : S 16 = false) : WP 133 G S (f + 1) 16 ls (.int x :: st) h k n = (if x = nI 0 then WP 133 G S f 28 ls st h k n else WP 133 G S f 19 ls st h k n) := by rw [wp_s dd_133_16 rfl hs]; exact br_ite (c := x = nI 0)
theorem dd_133_19 : decode (mB 133) 19 = .ok (.aload_n 0, 1) := by decide +kernel
theorem u_133_19 {G : aG} {S : Nat → Bool} {f : Nat} {st : List Value} {ls : aL} {h : aH} {k n : Nat} (hs : S 19 = false) : WP 133 G S (f + 1) 19 ls st h k n = (oA (lget ls 0) (WP 133 G S f) 20 ls st h k n) := by rw [wp_s dd_133_19 rfl hs]; rfl
theorem dd_133_20 : decode (mB 133) 20 = .ok (.iload_n 1, 1) := by decide +kernel
theorem u_133_20 {G : aG} {S : Nat → Bool} {f : Nat} {st : List Value} {ls : aL} {h : aH} {k n : Nat} (hs : S 20 = false) : WP 133 G S (f + 1) 20 ls st h k n = (oI (lget ls 1) (WP 133 G S f) 21 ls st h k n) := by rw [wp_s dd_133_20 rfl hs]; rfl
theorem dd_133_21 : decode (mB 133) 21 = .ok (.iload_n 2, 1) := by decide +kernel
theorem u_133_21 {G : aG} {S : Nat → Bool} {f : Nat} {st : List Value} {ls : aL} {h : aH} {k n : Nat} (hs : S 21 = false) : WP 133 G S (f + 1) 21 ls st h k n = (oI (lget ls 2) (WP 133 G S f) 22 ls st h k n) := by rw [wp_s dd_133_21 rfl hs]; rfl
theorem dd_133_22 : decode (mB 133) 22 = .ok (.invokevirtual 203, 3) := by decide +kernel
theorem u_133_22 {G : aG} {S : Nat → Bool} {f : Nat} {st : List Value} {ls : aL} {h : aH} {k n : Nat} {v1 v2 : Value} {b : Nat} (hs : S 22 = false) : WP 133 G S (f + 1) 22 ls (v2 :: v1 :: .ref b :: st) h k n = (rcv (hget h b) 10 ∧ CAL G (WP 133 G S f) 134 [.ref b, v1, v2] 25 ls st h k n) := by rw [wp_s dd_133_22 rfl hs]; rfl
theorem dd_133_25 : decode (mB 133) 25 = .ok (.goto 9, 3) := by decide +kernel
theorem u_133_25 {G : aG} {S : Nat → Bool} {f : Nat} {st : List Value} {ls : aL} {h : aH} {k n : Nat} (hs : S 25 = false) : WP 133 G S (f + 1) 25 ls st h k n = (WP 133 G S f 34 ls st h k n) := by rw [wp_s dd_133_25 rfl hs]; rfl
theorem dd_133_28 : decode (mB 133) 28 = .ok (.aload_n 0, 1) := by decide +kernel
theorem u_133_28 {G : aG} {S : Nat → Bool} {f : Nat} {st : List Value} {ls : aL} {h : aH} {k n : Nat} (hs : S 28 = false) : WP 133 G S (f + 1) 28 ls st h k n = (oA (lget ls 0) (WP 133 G S f) 29 ls st h k n) := by rw [wp_s dd_133_28 rfl hs]; rfl
theorem dd_133_29 : decode (mB 133) 29 = .ok (.bipush (-2), 2) := by decide +kernel
theorem u_133_29 {G : aG} {S : Nat → Bool} {f : Nat} {st : List Value} {ls : aL} {h : aH} {k n : Nat} (hs : S 29 = false) : WP 133 G S (f + 1) 29 ls st h k n = (WP 133 G S f 31 ls (.int (-2) :: st) h k n) := by rw [wp_s dd_133_29 rfl hs]; rfl
theorem dd_133_31 : decode (mB 133) 31 = .ok (.invokevirtual 113, 3) := by decide +kernel
theorem u_133_31 {G : aG} {S : Nat → Bool} {f : Nat} {st : List Value} {ls : aL} {h : aH} {k n : Nat} {v1 : Value} {b : Nat} (hs : S 31 = false) : WP 133 G S (f + 1) 31 ls (v1 :: .ref b :: st) h k n = (rcv (hget h b) 10 ∧ CAL G (WP 133 G S f) 105 [.ref b, v1] 34 ls st h k n) := by rw [wp_s dd_133_31 rfl hs]; rfl
theorem dd_133_34 : decode (mB 133) 34 = .ok (.ireturn, 1) := by decide +kernel
theorem u_133_34 {G : aG} {S : Nat → Bool} {f : Nat} {ls : aL} {h : aH} {k n : Nat} {x : Int32} (hs : S 34 = false) : WP 133 G S (f + 1) 34 ls [.int x] h k n = (RET G (some (.int x)) h k n) := by rw [wp_s dd_133_34 rfl hs]; rfl
theorem dd_134_0 : decode (mB 134) 0 = .ok (.aload_n 0, 1) := by decide +kernel
theorem u_134_0 {G : aG} {S : Nat → Bool} {f : Nat} {st : List Value} {ls : aL} {h : aH} {k n : Nat} (hs : S 0 = false) : WP 134 G S (f + 1) 0 ls st h k n = (oA (lget ls 0) (WP 134 G S f) 1 ls st h k n) := by rw [wp_s dd_134_0 rfl hs]; rfl
theorem dd_134_1 : decode (mB 134) 1 = .ok (.iload_n 1, 1) := by decide +kernel
theorem u_134_1 {G : aG} {S : Nat → Bool} {f : Nat} {st : List Value} {ls : aL} {h : aH} {k n : Nat} (hs : S 1 = false) : WP 134 G S (f + 1) 1 ls st h k n = (oI (lget ls 1) (WP 134 G S f) 2 ls st h k n) := by rw [wp_s dd_134_1 rfl hs]; rfl
theorem dd_134_2 : decode (mB 134) 2 = .ok (.invokevirtual 180, 3) := by decide +kernel
theorem u_134_2 {G : aG} {S : Nat → Bool} {f : Nat} {st : List Value} {ls : aL} {h : aH} {k n : Nat} {v1 : Value} {b : Nat} (hs : S 2 = false) : WP 134 G S (f + 1) 2 ls (v1 :: .ref b :: st) h k n = (rcv (hget h b) 10 ∧ CAL G (WP 134 G S f) 123 [.ref b, v1] 5 ls st h k n) := by rw [wp_s dd_134_2 rfl hs]; rfl
theorem dd_134_5 : decode (mB 134) 5 = .ok (.aload_n 0, 1) := by decide +kernel
theorem u_134_5 {G : aG} {S : Nat → Bool} {f : Nat} {st : List Value} {ls : aL} {h : aH} {k n : Nat} (hs : S 5 = false) : WP 134 G S (f + 1) 5 ls st h k n = (oA (lget ls 0) (WP 134 G S f) 6 ls st h k n) := by rw [wp_s dd_134_5 rfl hs]; rfl
theorem dd_134_6 : decode (mB 134) 6 = .ok (.iconst 0, 1) := by decide +kernel
theorem u_134_6 {G : aG} {S : Nat → Bool} {f : Nat} {st : List Value} {ls : aL} {h : aH} {k n : Nat} (hs : S 6 = false) : WP 134 G S (f + 1) 6 ls st h k n = (WP 134 G S f 7 ls (.int (nI 0) :: st) h k n) := by rw [wp_s dd_134_6 rfl hs]; rfl
theorem dd_134_7 : decode (mB 134) 7 = .ok (.invokevirtual 186, 3) := by decide +kernel
theorem u_134_7 {G : aG} {S : Nat → Bool} {f : Nat} {st : List Value} {ls : aL} {h : aH} {k n : Nat} {v1 : Value} {b : Nat} (hs : S 7 = false) : WP 134 G S (f + 1) 7 ls (v1 :: .ref b :: st) h k n = (rcv (hget h b) 10 ∧ CAL G (WP 134 G S f) 126 [.ref b, v1] 10 ls st h k n) := by rw [wp_s dd_134_7 rfl hs]; rfl
theorem dd_134_10 : decode (mB 134) 10 = .ok (.iload_n 2, 1) := by decide +kernel
theorem u_134_10 {G : aG} {S : Nat → Bool} {f : Nat} {st : List Value} {ls : aL} {h : aH} {k n : Nat} (hs : S 10 = false) : WP 134 G S (f + 1) 10 ls st h k n = (oI (lget ls 2) (WP 134 G S f) 11 ls st h k n) := by rw [wp_s dd_134_10 rfl hs]; rfl
theorem dd_134_11 : decode (mB 134) 11 = .ok (.ifCond .ne 17, 3) := by decide +kernel
theorem u_134_11 {G : aG} {S : Nat → Bool} {f : Nat} {st : List Value} {ls : aL} {h : aH} {k n : Nat} {x : Int32} (hs : S 11 = false) : WP 134 G S (f + 1) 11 ls (.int x :: st) h k n = (if x = nI 0 then WP 134 G S f 14 ls st h k n else WP 134 G S f 28 ls st h k n) := by rw [wp_s dd_134_11 rfl hs]; exact br_iten (c := x = nI 0)
theorem dd_134_14 : decode (mB 134) 14 = .ok (.aload_n 0, 1) := by decide +kernel
theorem u_134_14 {G : aG} {S : Nat → Bool} {f : Nat} {st : List Value} {ls : aL} {h : aH} {k n : Nat} (hs : S 14 = false) : WP 134 G S (f + 1) 14 ls st h k n = (oA (lget ls 0) (WP 134 G S f) 15 ls st h k n) := by rw [wp_s dd_134_14 rfl hs]; rfl
theorem dd_134_15 : decode (mB 134) 15 = .ok (.iconst 0, 1) := by decide +kernel
theorem u_134_15 {G : aG} {S : Nat → Bool} {f : Nat} {st : List Value} {ls : aL} {h : aH} {k n : Nat} (hs : S 15 = false) : WP 134 G S (f + 1) 15 ls st h k n = (WP 134 G S f 16 ls (.int (nI 0) :: st) h k n) := by rw [wp_s dd_134_15 rfl hs]; rfl
theorem dd_134_16 : decode (mB 134) 16 = .ok (.invokevirtual 198, 3) := by decide +kernel
theorem u_134_16 {G : aG} {S : Nat → Bool} {f : Nat} {st : List Value} {ls : aL} {h : aH} {k n : Nat} {v1 : Value} {b : Nat} (hs : S 16 = false) : WP 134 G S (f + 1) 16 ls (v1 :: .ref b :: st) h k n = (rcv (hget h b) 10 ∧ CAL G (WP 134 G S f) 135 [.ref b, v1] 19 ls st h k n) := by rw [wp_s dd_134_16 rfl hs]; rfl
theorem dd_134_19 : decode (mB 134) 19 = .ok (.ifCond .eq 7, 3) := by decide +kernel
theorem u_134_19 {G : aG} {S : Nat → Bool} {f : Nat} {st : List Value} {ls : aL} {h : aH} {k n : Nat} {x : Int32} (hs : S 19 = false) : WP 134 G S (f + 1) 19 ls (.int x :: st) h k n = (if x = nI 0 then WP 134 G S f 26 ls st h k n else WP 134 G S f 22 ls st h k n) := by rw [wp_s dd_134_19 rfl hs]; exact br_ite (c := x = nI 0)
theorem dd_134_22 : decode (mB 134) 22 = .ok (.iconst 1, 1) := by decide +kernel
theorem u_134_22 {G : aG} {S : Nat → Bool} {f : Nat} {st : List Value} {ls : aL} {h : aH} {k n : Nat} (hs : S 22 = false) : WP 134 G S (f + 1) 22 ls st h k n = (WP 134 G S f 23 ls (.int (nI 1) :: st) h k n) := by rw [wp_s dd_134_22 rfl hs]; rfl
theorem dd_134_23 : decode (mB 134) 23 = .ok (.goto 4, 3) := by decide +kernel
theorem u_134_23 {G : aG} {S : Nat → Bool} {f : Nat} {st : List Value} {ls : aL} {h : aH} {k n : Nat} (hs : S 23 = false) : WP 134 G S (f + 1) 23 ls st h k n = (WP 134 G S f 27 ls st h k n) := by rw [wp_s dd_134_23 rfl hs]; rfl
theorem dd_134_26 : decode (mB 134) 26 = .ok (.iconst 0, 1) := by decide +kernel
theorem u_134_26 {G : aG} {S : Nat → Bool} {f : Nat} {st : List Value} {ls : aL} {h : aH} {k n : Nat} (hs : S 26 = false) : WP 134 G S (f + 1) 26 ls st h k n = (WP 134 G S f 27 ls (.int (nI 0) :: st) h k n) := by rw [wp_s dd_134_26 rfl hs]; rfl
theorem dd_134_27 : decode (mB 134) 27 = .ok (.ireturn, 1) := by decide +kernel
theorem u_134_27 {G : aG} {S : Nat → Bool} {f : Nat} {ls : aL} {h : aH} {k n : Nat} {x : Int32} (hs : S 27 = false) : WP 134 G S (f + 1) 27 ls [.int x] h k n = (RET G (some (.int x)) h k n) := by rw [wp_s dd_134_27 rfl hs]; rfl
theorem dd_134_28 : decode (mB 134) 28 = .ok (.iconst 0, 1) := by decide +kernel
theorem u_134_28 {G : aG} {S : Nat → Bool} {f : Nat} {st : List Value} {ls : aL} {h : aH} {k n : Nat} (hs : S 28 = false) : WP 134 G S (f + 1) 28 ls st h k n = (WP 134 G S f 29 ls (.int (nI 0) :: st) h k n) := by rw [wp_s dd_134_28 rfl hs]; rfl
theorem dd_134_29 : decode (mB 134) 29 = .ok (.istore_n 3, 1) := by decide +kernel
theorem u_134_29 {G : aG} {S : Nat → Bool} {f : Nat} {st : List Value} {ls : aL} {h : aH} {k n : Nat} {x : Int32} (hs : S 29 = false) : WP 134 G S (f + 1) 29 ls (.int x :: st) h k n = (WP 134 G S f 30 (lput1 ls 3 (.int x)) st h k n) := by rw [wp_s dd_134_29 rfl hs]; rfl
theorem dd_134_30 : decode (mB 134) 30 = .ok (.iconst 0, 1) := by decide +kernel
theorem u_134_30 {G : aG} {S : Nat → Bool} {f : Nat} {st : List Value} {ls : aL} {h : aH} {k n : Nat} (hs : S 30 = false) : WP 134 G S (f + 1) 30 ls st h k n = (WP 134 G S f 31 ls (.int (nI 0) :: st) h k n) := by rw [wp_s dd_134_30 rfl hs]; rfl
theorem dd_134_31 : decode (mB 134) 31 = .ok (.istore 4, 2) := by decide +kernel
theorem u_134_31 {G : aG} {S : Nat → Bool} {f : Nat} {st : List Value} {ls : aL} {h : aH} {k n : Nat} {x : Int32} (hs : S 31 = false) : WP 134 G S (f + 1) 31 ls (.int x :: st) h k n = (WP 134 G S f 33 (lput1 ls 4 (.int x)) st h k n) := by rw [wp_s dd_134_31 rfl hs]; rfl
theorem dd_134_33 : decode (mB 134) 33 = .ok (.aload_n 0, 1) := by decide +kernel
theorem u_134_33 {G : aG} {S : Nat → Bool} {f : Nat} {st : List Value} {ls : aL} {h : aH} {k n : Nat} (hs : S 33 = false) : WP 134 G S (f + 1) 33 ls st h k n = (oA (lget ls 0) (WP 134 G S f) 34 ls st h k n) := by rw [wp_s dd_134_33 rfl hs]; rfl
theorem dd_134_34 : decode (mB 134) 34 = .ok (.getfield 64, 3) := by decide +kernel
theorem u_134_34 {G : aG} {S : Nat → Bool} {f : Nat} {st : List Value} {ls : aL} {h : aH} {k n : Nat} {a : Nat} (hs : S 34 = false) : WP 134 G S (f + 1) 34 ls (.ref a :: st) h k n = (oV (fget h a 10 26) (WP 134 G S f) 37 ls st h k n) := by rw [wp_s dd_134_34 rfl hs]; rfl
theorem dd_134_37 : decode (mB 134) 37 = .ok (.iconst 0, 1) := by decide +kernel
theorem u_134_37 {G : aG} {S : Nat → Bool} {f : Nat} {st : List Value} {ls : aL} {h : aH} {k n : Nat} (hs : S 37 = false) : WP 134 G S (f + 1) 37 ls st h k n = (WP 134 G S f 38 ls (.int (nI 0) :: st) h k n) := by rw [wp_s dd_134_37 rfl hs]; rfl
theorem dd_134_38 : decode (mB 134) 38 = .ok (.iconst (-1), 1) := by decide +kernel
theorem u_134_38 {G : aG} {S : Nat → Bool} {f : Nat} {st : List Value} {ls : aL} {h : aH} {k n : Nat} (hs : S 38 = false) : WP 134 G S (f + 1) 38 ls st h k n = (WP 134 G S f 39 ls (.int (-1) :: st) h k n) := by rw [wp_s dd_134_38 rfl hs]; rfl
theorem dd_134_39 : decode (mB 134) 39 = .ok (.iastore, 1) := by decide +kernel
theorem u_134_39 {G : aG} {S : Nat → Bool} {f : Nat} {st : List Value} {ls : aL} {h : aH} {k n : Nat} {i x : Int32} {a : Nat} (hs : S 39 = false) : WP 134 G S (f + 1) 39 ls (.int x :: .int i :: .ref a :: st) h k n = (oIst (iget h a 1) a i x (WP 134 G S f) 40 ls st h k n) := by rw [wp_s dd_134_39 rfl hs]; rfl
theorem dd_134_40 : decode (mB 134) 40 = .ok (.iload 4, 2) := by decide +kernel
theorem u_134_40 {G : aG} {S : Nat → Bool} {f : Nat} {st : List Value} {ls : aL} {h : aH} {k n : Nat} (hs : S 40 = false) : WP 134 G S (f + 1) 40 ls st h k n = (oI (lget ls 4) (WP 134 G S f) 42 ls st h k n) := by rw [wp_s dd_134_40 rfl hs]; rfl
theorem v_134_40 {G : aG} {S : Nat → Bool} {f : Nat} {st : List Value} {ls : aL} {h : aH} {k n : Nat} : WQ 134 G S f 40 ls st h k n = (oI (lget ls 4) (WP 134 G S f) 42 ls st h k n) := by rw [wq_s dd_134_40 rfl]; rfl
theorem dd_134_42 : decode (mB 134) 42 = .ok (.ifCond .lt 93, 3) := by decide +kernel
theorem u_134_42 {G : aG} {S : Nat → Bool} {f : Nat} {st : List Value} {ls : aL} {h : aH} {k n : Nat} {x : Int32} (hs : S 42 = false) : WP 134 G S (f + 1) 42 ls (.int x :: st) h k n = (if x < nI 0 then WP 134 G S f 135 ls st h k n else WP 134 G S f 45 ls st h k n) := by rw [wp_s dd_134_42 rfl hs]; exact br_ite (c := x < nI 0)
theorem dd_134_45 : decode (mB 134) 45 = .ok (.aload_n 0, 1) := by decide +kernel
theorem u_134_45 {G : aG} {S : Nat → Bool} {f : Nat} {st : List Value} {ls : aL} {h : aH} {k n : Nat} (hs : S 45 = false) : WP 134 G S (f + 1) 45 ls st h k n = (oA (lget ls 0) (WP 134 G S f) 46 ls st h k n) := by rw [wp_s dd_134_45 rfl hs]; rfl
theorem dd_134_46 : decode (mB 134) 46 = .ok (.getfield 64, 3) := by decide +kernel
theorem u_134_46 {G : aG} {S : Nat → Bool} {f : Nat} {st : List Value} {ls : aL} {h : aH} {k n : Nat} {a : Nat} (hs : S 46 = false) : WP 134 G S (f + 1) 46 ls (.ref a :: st) h k n = (oV (fget h a 10 26) (WP 134 G S f) 49 ls st h k n) := by rw [wp_s dd_134_46 rfl hs]; rfl
theorem dd_134_49 : decode (mB 134) 49 = .ok (.iload 4, 2) := by decide +kernel
theorem u_134_49 {G : aG} {S : Nat → Bool} {f : Nat} {st : List Value} {ls : aL} {h : aH} {k n : Nat} (hs : S 49 = false) : WP 134 G S (f + 1) 49 ls st h k n = (oI (lget ls 4) (WP 134 G S f) 51 ls st h k n) := by rw [wp_s dd_134_49 rfl hs]; rfl
theorem dd_134_51 : decode (mB 134) 51 = .ok (.dup2, 1) := by decide +kernel
theorem u_134_51 {G : aG} {S : Nat → Bool} {f : Nat} {st : List Value} {ls : aL} {h : aH} {k n : Nat} {v v2 : Value} (hs : S 51 = false) : WP 134 G S (f + 1) 51 ls (v :: v2 :: st) h k n = (cond (cat1 v && cat1 v2) (WP 134 G S f 52 ls (v :: v2 :: v :: v2 :: st) h k n) False) := by rw [wp_s dd_134_51 rfl hs]; rfl
theorem dd_134_52 : decode (mB 134) 52 = .ok (.iaload, 1) := by decide +kernel
theorem u_134_52 {G : aG} {S : Nat → Bool} {f : Nat} {st : List Value} {ls : aL} {h : aH} {k n : Nat} {i : Int32} {a : Nat} (hs : S 52 = false) : WP 134 G S (f + 1) 52 ls (.int i :: .ref a :: st) h k n = (oIld (iget h a 1) i (WP 134 G S f) 53 ls st h k n) := by rw [wp_s dd_134_52 rfl hs]; rfl
theorem dd_134_53 : decode (mB 134) 53 = .ok (.iconst 1, 1) := by decide +kernel
theorem u_134_53 {G : aG} {S : Nat → Bool} {f : Nat} {st : List Value} {ls : aL} {h : aH} {k n : Nat} (hs : S 53 = false) : WP 134 G S (f + 1) 53 ls st h k n = (WP 134 G S f 54 ls (.int (nI 1) :: st) h k n) := by rw [wp_s dd_134_53 rfl hs]; rfl
theorem dd_134_54 : decode (mB 134) 54 = .ok (.iadd, 1) := by decide +kernel
theorem u_134_54 {G : aG} {S : Nat → Bool} {f : Nat} {st : List Value} {ls : aL} {h : aH} {k n : Nat} {x y : Int32} (hs : S 54 = false) : WP 134 G S (f + 1) 54 ls (.int y :: .int x :: st) h k n = (WP 134 G S f 55 ls (.int (x + y) :: st) h k n) := by rw [wp_s dd_134_54 rfl hs]; rfl
theorem dd_134_55 : decode (mB 134) 55 = .ok (.iastore, 1) := by decide +kernel
theorem u_134_55 {G : aG} {S : Nat → Bool} {f : Nat} {st : List Value} {ls : aL} {h : aH} {k n : Nat} {i x : Int32} {a : Nat} (hs : S 55 = false) : WP 134 G S (f + 1) 55 ls (.int x :: .int i :: .ref a :: st) h k n = (oIst (iget h a 1) a i x (WP 134 G S f) 56 ls st h k n) := by rw [wp_s dd_134_55 rfl hs]; rfl
theorem dd_134_56 : decode (mB 134) 56 = .ok (.aload_n 0, 1) := by decide +kernel
theorem u_134_56 {G : aG} {S : Nat → Bool} {f : Nat} {st : List Value} {ls : aL} {h : aH} {k n : Nat} (hs : S 56 = false) : WP 134 G S (f + 1) 56 ls st h k n = (oA (lget ls 0) (WP 134 G S f) 57 ls st h k n) := by rw [wp_s dd_134_56 rfl hs]; rfl
theorem dd_134_57 : decode (mB 134) 57 = .ok (.getfield 64, 3) := by decide +kernel
theorem u_134_57 {G : aG} {S : Nat → Bool} {f : Nat} {st : List Value} {ls : aL} {h : aH} {k n : Nat} {a : Nat} (hs : S 57 = false) : WP 134 G S (f + 1) 57 ls (.ref a :: st) h k n = (oV (fget h a 10 26) (WP 134 G S f) 60 ls st h k n) := by rw [wp_s dd_134_57 rfl hs]; rfl
theorem dd_134_60 : decode (mB 134) 60 = .ok (.iload 4, 2) := by decide +kernel
theorem u_134_60 {G : aG} {S : Nat → Bool} {f : Nat} {st : List Value} {ls : aL} {h : aH} {k n : Nat} (hs : S 60 = false) : WP 134 G S (f + 1) 60 ls st h k n = (oI (lget ls 4) (WP 134 G S f) 62 ls st h k n) := by rw [wp_s dd_134_60 rfl hs]; rfl
theorem dd_134_62 : decode (mB 134) 62 = .ok (.iaload, 1) := by decide +kernel
theorem u_134_62 {G : aG} {S : Nat → Bool} {f : Nat} {st : List Value} {ls : aL} {h : aH} {k n : Nat} {i : Int32} {a : Nat} (hs : S 62 = false) : WP 134 G S (f + 1) 62 ls (.int i :: .ref a :: st) h k n = (oIld (iget h a 1) i (WP 134 G S f) 63 ls st h k n) := by rw [wp_s dd_134_62 rfl hs]; rfl
theorem dd_134_63 : decode (mB 134) 63 = .ok (.bipush 8, 2) := by decide +kernel
theorem u_134_63 {G : aG} {S : Nat → Bool} {f : Nat} {st : List Value} {ls : aL} {h : aH} {k n : Nat} (hs : S 63 = false) : WP 134 G S (f + 1) 63 ls st h k n = (WP 134 G S f 65 ls (.int (nI 8) :: st) h k n) := by rw [wp_s dd_134_63 rfl hs]; rfl
theorem dd_134_65 : decode (mB 134) 65 = .ok (.if_icmp .ne 9, 3) := by decide +kernel
theorem u_134_65 {G : aG} {S : Nat → Bool} {f : Nat} {st : List Value} {ls : aL} {h : aH} {k n : Nat} {x y : Int32} (hs : S 65 = false) : WP 134 G S (f + 1) 65 ls (.int y :: .int x :: st) h k n = (if x = y then WP 134 G S f 68 ls st h k n else WP 134 G S f 74 ls st h k n) := by rw [wp_s dd_134_65 rfl hs]; exact br_iten (c := x = y)
theorem dd_134_68 : decode (mB 134) 68 = .ok (.iinc 4 (-1), 3) := by decide +kernel
theorem u_134_68 {G : aG} {S : Nat → Bool} {f : Nat} {st : List Value} {ls : aL} {h : aH} {k n : Nat} (hs : S 68 = false) : WP 134 G S (f + 1) 68 ls st h k n = (oInc (lget ls 4) (-1) (WP 134 G S f) 4 71 ls st h k n) := by rw [wp_s dd_134_68 rfl hs]; rfl
theorem dd_134_71 : decode (mB 134) 71 = .ok (.goto (-31), 3) := by decide +kernel
theorem u_134_71 {G : aG} {S : Nat → Bool} {f : Nat} {st : List Value} {ls : aL} {h : aH} {k n : Nat} (hs : S 71 = false) : WP 134 G S (f + 1) 71 ls st h k n = (WP 134 G S f 40 ls st h k n) := by rw [wp_s dd_134_71 rfl hs]; rfl
theorem dd_134_74 : decode (mB 134) 74 = .ok (.aload_n 0, 1) := by decide +kernel
theorem u_134_74 {G : aG} {S : Nat → Bool} {f : Nat} {st : List Value} {ls : aL} {h : aH} {k n : Nat} (hs : S 74 = false) : WP 134 G S (f + 1) 74 ls st h k n = (oA (lget ls 0) (WP 134 G S f) 75 ls st h k n) := by rw [wp_s dd_134_74 rfl hs]; rfl
theorem dd_134_75 : decode (mB 134) 75 = .ok (.iload 4, 2) := by decide +kernel
theorem u_134_75 {G : aG} {S : Nat → Bool} {f : Nat} {st : List Value} {ls : aL} {h : aH} {k n : Nat} (hs : S 75 = false) : WP 134 G S (f + 1) 75 ls st h k n = (oI (lget ls 4) (WP 134 G S f) 77 ls st h k n) := by rw [wp_s dd_134_75 rfl hs]; rfl
theorem dd_134_77 : decode (mB 134) 77 = .ok (.aload_n 0, 1) := by decide +kernel
theorem u_134_77 {G : aG} {S : Nat → Bool} {f : Nat} {st : List Value} {ls : aL} {h : aH} {k n : Nat} (hs : S 77 = false) : WP 134 G S (f + 1) 77 ls st h k n = (oA (lget ls 0) (WP 134 G S f) 78 ls st h k n) := by rw [wp_s dd_134_77 rfl hs]; rfl
theorem dd_134_78 : decode (mB 134) 78 = .ok (.getfield 64, 3) := by decide +kernel
theorem u_134_78 {G : aG} {S : Nat → Bool} {f : Nat} {st : List Value} {ls : aL} {h : aH} {k n : Nat} {a : Nat} (hs : S 78 = false) : WP 134 G S (f + 1) 78 ls (.ref a :: st) h k n = (oV (fget h a 10 26) (WP 134 G S f) 81 ls st h k n) := by rw [wp_s dd_134_78 rfl hs]; rfl
theorem dd_134_81 : decode (mB 134) 81 = .ok (.iload 4, 2) := by decide +kernel
theorem u_134_81 {G : aG} {S : Nat → Bool} {f : Nat} {st : List Value} {ls : aL} {h : aH} {k n : Nat} (hs : S 81 = false) : WP 134 G S (f + 1) 81 ls st h k n = (oI (lget ls 4) (WP 134 G S f) 83 ls st h k n) := by rw [wp_s dd_134_81 rfl hs]; rfl
theorem dd_134_83 : decode (mB 134) 83 = .ok (.iaload, 1) := by decide +kernel
theorem u_134_83 {G : aG} {S : Nat → Bool} {f : Nat} {st : List Value} {ls : aL} {h : aH} {k n : Nat} {i : Int32} {a : Nat} (hs : S 83 = false) : WP 134 G S (f + 1) 83 ls (.int i :: .ref a :: st) h k n = (oIld (iget h a 1) i (WP 134 G S f) 84 ls st h k n) := by rw [wp_s dd_134_83 rfl hs]; rfl
theorem dd_134_84 : decode (mB 134) 84 = .ok (.iload 4, 2) := by decide +kernel
theorem u_134_84 {G : aG} {S : Nat → Bool} {f : Nat} {st : List Value} {ls : aL} {h : aH} {k n : Nat} (hs : S 84 = false) : WP 134 G S (f + 1) 84 ls st h k n = (oI (lget ls 4) (WP 134 G S f) 86 ls st h k n) := by rw [wp_s dd_134_84 rfl hs]; rfl
theorem dd_134_86 : decode (mB 134) 86 = .ok (.iconst 1, 1) := by decide +kernel
theorem u_134_86 {G : aG} {S : Nat → Bool} {f : Nat} {st : List Value} {ls : aL} {h : aH} {k n : Nat} (hs : S 86 = false) : WP 134 G S (f + 1) 86 ls st h k n = (WP 134 G S f 87 ls (.int (nI 1) :: st) h k n) := by rw [wp_s dd_134_86 rfl hs]; rfl
theorem dd_134_87 : decode (mB 134) 87 = .ok (.iadd, 1) := by decide +kernel
theorem u_134_87 {G : aG} {S : Nat → Bool} {f : Nat} {st : List Value} {ls : aL} {h : aH} {k n : Nat} {x y : Int32} (hs : S 87 = false) : WP 134 G S (f + 1) 87 ls (.int y :: .int x :: st) h k n = (WP 134 G S f 88 ls (.int (x + y) :: st) h k n) := by rw [wp_s dd_134_87 rfl hs]; rfl
theorem dd_134_88 : decode (mB 134) 88 = .ok (.invokevirtual 104, 3) := by decide +kernel
theorem u_134_88 {G : aG} {S : Nat → Bool} {f : Nat} {st : List Value} {ls : aL} {h : aH} {k n : Nat} {v1 v2 v3 : Value} {b : Nat} (hs : S 88 = false) : WP 134 G S (f + 1) 88 ls (v3 :: v2 :: v1 :: .ref b :: st) h k n = (rcv (hget h b) 10 ∧ CAL G (WP 134 G S f) 128 [.ref b, v1, v2, v3] 91 ls st h k n) := by rw [wp_s dd_134_88 rfl hs]; rfl
theorem dd_134_91 : decode (mB 134) 91 = .ok (.ifCond .eq (-51), 3) := by decide +kernel
theorem u_134_91 {G : aG} {S : Nat → Bool} {f : Nat} {st : List Value} {ls : aL} {h : aH} {k n : Nat} {x : Int32} (hs : S 91 = false) : WP 134 G S (f + 1) 91 ls (.int x :: st) h k n = (if x = nI 0 then WP 134 G S f 40 ls st h k n else WP 134 G S f 94 ls st h k n) := by rw [wp_s dd_134_91 rfl hs]; exact br_ite (c := x = nI 0)
theorem dd_134_94 : decode (mB 134) 94 = .ok (.iload 4, 2) := by decide +kernel
theorem u_134_94 {G : aG} {S : Nat → Bool} {f : Nat} {st : List Value} {ls : aL} {h : aH} {k n : Nat} (hs : S 94 = false) : WP 134 G S (f + 1) 94 ls st h k n = (oI (lget ls 4) (WP 134 G S f) 96 ls st h k n) := by rw [wp_s dd_134_94 rfl hs]; rfl
theorem dd_134_96 : decode (mB 134) 96 = .ok (.iconst 1, 1) := by decide +kernel
theorem u_134_96 {G : aG} {S : Nat → Bool} {f : Nat} {st : List Value} {ls : aL} {h : aH} {k n : Nat} (hs : S 96 = false) : WP 134 G S (f + 1) 96 ls st h k n = (WP 134 G S f 97 ls (.int (nI 1) :: st) h k n) := by rw [wp_s dd_134_96 rfl hs]; rfl
theorem dd_134_97 : decode (mB 134) 97 = .ok (.iadd, 1) := by decide +kernel
theorem u_134_97 {G : aG} {S : Nat → Bool} {f : Nat} {st : List Value} {ls : aL} {h : aH} {k n : Nat} {x y : Int32} (hs : S 97 = false) : WP 134 G S (f + 1) 97 ls (.int y :: .int x :: st) h k n = (WP 134 G S f 98 ls (.int (x + y) :: st) h k n) := by rw [wp_s dd_134_97 rfl hs]; rfl
theorem dd_134_98 : decode (mB 134) 98 = .ok (.iload_n 2, 1) := by decide +kernel
theorem u_134_98 {G : aG} {S : Nat → Bool} {f : Nat} {st : List Value} {ls : aL} {h : aH} {k n : Nat} (hs : S 98 = false) : WP 134 G S (f + 1) 98 ls st h k n = (oI (lget ls 2) (WP 134 G S f) 99 ls st h k n) := by rw [wp_s dd_134_98 rfl hs]; rfl
theorem dd_134_99 : decode (mB 134) 99 = .ok (.if_icmp .ne 22, 3) := by decide +kernel
theorem u_134_99 {G : aG} {S : Nat → Bool} {f : Nat} {st : List Value} {ls : aL} {h : aH} {k n : Nat} {x y : Int32} (hs : S 99 = false) : WP 134 G S (f + 1) 99 ls (.int y :: .int x :: st) h k n = (if x = y then WP 134 G S f 102 ls st h k n else WP 134 G S f 121 ls st h k n) := by rw [wp_s dd_134_99 rfl hs]; exact br_iten (c := x = y)
theorem dd_134_102 : decode (mB 134) 102 = .ok (.iload_n 3, 1) := by decide +kernel
theorem u_134_102 {G : aG} {S : Nat → Bool} {f : Nat} {st : List Value} {ls : aL} {h : aH} {k n : Nat} (hs : S 102 = false) : WP 134 G S (f + 1) 102 ls st h k n = (oI (lget ls 3) (WP 134 G S f) 103 ls st h k n) := by rw [wp_s dd_134_102 rfl hs]; rfl
theorem dd_134_103 : decode (mB 134) 103 = .ok (.aload_n 0, 1) := by decide +kernel
theorem u_134_103 {G : aG} {S : Nat → Bool} {f : Nat} {st : List Value} {ls : aL} {h : aH} {k n : Nat} (hs : S 103 = false) : WP 134 G S (f + 1) 103 ls st h k n = (oA (lget ls 0) (WP 134 G S f) 104 ls st h k n) := by rw [wp_s dd_134_103 rfl hs]; rfl
theorem dd_134_104 : decode (mB 134) 104 = .ok (.iload_n 2, 1) := by decide +kernel
theorem u_134_104 {G : aG} {S : Nat → Bool} {f : Nat} {st : List Value} {ls : aL} {h : aH} {k n : Nat} (hs : S 104 = false) : WP 134 G S (f + 1) 104 ls st h k n = (oI (lget ls 2) (WP 134 G S f) 105 ls st h k n) := by rw [wp_s dd_134_104 rfl hs]; rfl
theorem dd_134_105 : decode (mB 134) 105 = .ok (.invokevirtual 198, 3) := by decide +kernel
theorem u_134_105 {G : aG} {S : Nat → Bool} {f : Nat} {st : List Value} {ls : aL} {h : aH} {k n : Nat} {v1 : Value} {b : Nat} (hs : S 105 = false) : WP 134 G S (f + 1) 105 ls (v1 :: .ref b :: st) h k n = (rcv (hget h b) 10 ∧ CAL G (WP 134 G S f) 135 [.ref b, v1] 108 ls st h k n) := by rw [wp_s dd_134_105 rfl hs]; rfl
theorem dd_134_108 : decode (mB 134) 108 = .ok (.ifCond .eq 7, 3) := by decide +kernel
theorem u_134_108 {G : aG} {S : Nat → Bool} {f : Nat} {st : List Value} {ls : aL} {h : aH} {k n : Nat} {x : Int32} (hs : S 108 = false) : WP 134 G S (f + 1) 108 ls (.int x :: st) h k n = (if x = nI 0 then WP 134 G S f 115 ls st h k n else WP 134 G S f 111 ls st h k n) := by rw [wp_s dd_134_108 rfl hs]; exact br_ite (c := x = nI 0)
theorem dd_134_111 : decode (mB 134) 111 = .ok (.iconst 1, 1) := by decide +kernel
theorem u_134_111 {G : aG} {S : Nat → Bool} {f : Nat} {st : List Value} {ls : aL} {h : aH} {k n : Nat} (hs : S 111 = false) : WP 134 G S (f + 1) 111 ls st h k n = (WP 134 G S f 112 ls (.int (nI 1) :: st) h k n) := by rw [wp_s dd_134_111 rfl hs]; rfl
theorem dd_134_112 : decode (mB 134) 112 = .ok (.goto 4, 3) := by decide +kernel
theorem u_134_112 {G : aG} {S : Nat → Bool} {f : Nat} {st : List Value} {ls : aL} {h : aH} {k n : Nat} (hs : S 112 = false) : WP 134 G S (f + 1) 112 ls st h k n = (WP 134 G S f 116 ls st h k n) := by rw [wp_s dd_134_112 rfl hs]; rfl
theorem dd_134_115 : decode (mB 134) 115 = .ok (.iconst 0, 1) := by decide +kernel
theorem u_134_115 {G : aG} {S : Nat → Bool} {f : Nat} {st : List Value} {ls : aL} {h : aH} {k n : Nat} (hs : S 115 = false) : WP 134 G S (f + 1) 115 ls st h k n = (WP 134 G S f 116 ls (.int (nI 0) :: st) h k n) := by rw [wp_s dd_134_115 rfl hs]; rfl
theorem dd_134_116 : decode (mB 134) 116 = .ok (.iadd, 1) := by decide +kernel
theorem u_134_116 {G : aG} {S : Nat → Bool} {f : Nat} {st : List Value} {ls : aL} {h : aH} {k n : Nat} {x y : Int32} (hs : S 116 = false) : WP 134 G S (f + 1) 116 ls (.int y :: .int x :: st) h k n = (WP 134 G S f 117 ls (.int (x + y) :: st) h k n) := by rw [wp_s dd_134_116 rfl hs]; rfl
theorem dd_134_117 : decode (mB 134) 117 = .ok (.istore_n 3, 1) := by decide +kernel
theorem u_134_117 {G : aG} {S : Nat → Bool} {f : Nat} {st : List Value} {ls : aL} {h : aH} {k n : Nat} {x : Int32} (hs : S 117 = false) : WP 134 G S (f + 1) 117 ls (.int x :: st) h k n = (WP 134 G S f 118 (lput1 ls 3 (.int x)) st h k n) := by rw [wp_s dd_134_117 rfl hs]; rfl
theorem dd_134_118 : decode (mB 134) 118 = .ok (.goto (-78), 3) := by decide +kernel
theorem u_134_118 {G : aG} {S : Nat → Bool} {f : Nat} {st : List Value} {ls : aL} {h : aH} {k n : Nat} (hs : S 118 = false) : WP 134 G S (f + 1) 118 ls st h k n = (WP 134 G S f 40 ls st h k n) := by rw [wp_s dd_134_118 rfl hs]; rfl
theorem dd_134_121 : decode (mB 134) 121 = .ok (.iinc 4 1, 3) := by decide +kernel
theorem u_134_121 {G : aG} {S : Nat → Bool} {f : Nat} {st : List Value} {ls : aL} {h : aH} {k n : Nat} (hs : S 121 = false) : WP 134 G S (f + 1) 121 ls st h k n = (oInc (lget ls 4) (nI 1) (WP 134 G S f) 4 124 ls st h k n) := by rw [wp_s dd_134_121 rfl hs]; rfl
theorem dd_134_124 : decode (mB 134) 124 = .ok (.aload_n 0, 1) := by decide +kernel
theorem u_134_124 {G : aG} {S : Nat → Bool} {f : Nat} {st : List Value} {ls : aL} {h : aH} {k n : Nat} (hs : S 124 = false) : WP 134 G S (f + 1) 124 ls st h k n = (oA (lget ls 0) (WP 134 G S f) 125 ls st h k n) := by rw [wp_s dd_134_124 rfl hs]; rfl
theorem dd_134_125 : decode (mB 134) 125 = .ok (.getfield 64, 3) := by decide +kernel
theorem u_134_125 {G : aG} {S : Nat → Bool} {f : Nat} {st : List Value} {ls : aL} {h : aH} {k n : Nat} {a : Nat} (hs : S 125 = false) : WP 134 G S (f + 1) 125 ls (.ref a :: st) h k n = (oV (fget h a 10 26) (WP 134 G S f) 128 ls st h k n) := by rw [wp_s dd_134_125 rfl hs]; rfl
theorem dd_134_128 : decode (mB 134) 128 = .ok (.iload 4, 2) := by decide +kernel
theorem u_134_128 {G : aG} {S : Nat → Bool} {f : Nat} {st : List Value} {ls : aL} {h : aH} {k n : Nat} (hs : S 128 = false) : WP 134 G S (f + 1) 128 ls st h k n = (oI (lget ls 4) (WP 134 G S f) 130 ls st h k n) := by rw [wp_s dd_134_128 rfl hs]; rfl
theorem dd_134_130 : decode (mB 134) 130 = .ok (.iconst (-1), 1) := by decide +kernel
theorem u_134_130 {G : aG} {S : Nat → Bool} {f : Nat} {st : List Value} {ls : aL} {h : aH} {k n : Nat} (hs : S 130 = false) : WP 134 G S (f + 1) 130 ls st h k n = (WP 134 G S f 131 ls (.int (-1) :: st) h k n) := by rw [wp_s dd_134_130 rfl hs]; rfl
theorem dd_134_131 : decode (mB 134) 131 = .ok (.iastore, 1) := by decide +kernel
theorem u_134_131 {G : aG} {S : Nat → Bool} {f : Nat} {st : List Value} {ls : aL} {h : aH} {k n : Nat} {i x : Int32} {a : Nat} (hs : S 131 = false) : WP 134 G S (f + 1) 131 ls (.int x :: .int i :: .ref a :: st) h k n = (oIst (iget h a 1) a i x (WP 134 G S f) 132 ls st h k n) := by rw [wp_s dd_134_131 rfl hs]; rfl
theorem dd_134_132 : decode (mB 134) 132 = .ok (.goto (-92), 3) := by decide +kernel
theorem u_134_132 {G : aG} {S : Nat → Bool} {f : Nat} {st : List Value} {ls : aL} {h : aH} {k n : Nat} (hs : S 132 = false) : WP 134 G S (f + 1) 132 ls st h k n = (WP 134 G S f 40 ls st h k n) := by rw [wp_s dd_134_132 rfl hs]; rfl
theorem dd_134_135 : decode (mB 134) 135 = .ok (.iload_n 3, 1) := by decide +kernel
theorem u_134_135 {G : aG} {S : Nat → Bool} {f : Nat} {st : List Value} {ls : aL} {h : aH} {k n : Nat} (hs : S 135 = false) : WP 134 G S (f + 1) 135 ls st h k n = (oI (lget ls 3) (WP 134 G S f) 136 ls st h k n) := by rw [wp_s dd_134_135 rfl hs]; rfl
theorem dd_134_136 : decode (mB 134) 136 = .ok (.ireturn, 1) := by decide +kernel
theorem u_134_136 {G : aG} {S : Nat → Bool} {f : Nat} {ls : aL} {h : aH} {k n : Nat} {x : Int32} (hs : S 136 = false) : WP 134 G S (f + 1) 136 ls [.int x] h k n = (RET G (some (.int x)) h k n) := by rw [wp_s dd_134_136 rfl hs]; rfl
