/-! ===== WP is sound ===== -/
theorem oI_s {o : Option Value} {K : aK} {pc : Nat} {ls : aL} {st : List Value} {h : aH} {k n : Nat} (q : oI o K pc ls st h k n) : ∃ x, o = some (.int x) ∧ K pc ls (.int x :: st) h k n := by
  cases o with
  | none => exact q.elim
  | some v => cases v <;> first | exact ⟨_, rfl, q⟩ | exact q.elim
theorem oJ_s {o : Option Value} {K : aK} {pc : Nat} {ls : aL} {st : List Value} {h : aH} {k n : Nat} (q : oJ o K pc ls st h k n) : ∃ x, o = some (.long x) ∧ K pc ls (.long x :: st) h k n := by
  cases o with
  | none => exact q.elim
  | some v => cases v <;> first | exact ⟨_, rfl, q⟩ | exact q.elim
theorem oF_s {o : Option Value} {K : aK} {pc : Nat} {ls : aL} {st : List Value} {h : aH} {k n : Nat} (q : oF o K pc ls st h k n) : ∃ x, o = some (.float x) ∧ K pc ls (.float x :: st) h k n := by
  cases o with
  | none => exact q.elim
  | some v => cases v <;> first | exact ⟨_, rfl, q⟩ | exact q.elim
theorem oA_s {o : Option Value} {K : aK} {pc : Nat} {ls : aL} {st : List Value} {h : aH} {k n : Nat} (q : oA o K pc ls st h k n) : ∃ x, o = some (.ref x) ∧ K pc ls (.ref x :: st) h k n := by
  cases o with
  | none => exact q.elim
  | some v => cases v <;> first | exact ⟨_, rfl, q⟩ | exact q.elim
theorem oV_s {o : Option Value} {K : aK} {pc : Nat} {ls : aL} {st : List Value} {h : aH} {k n : Nat} (q : oV o K pc ls st h k n) : ∃ v, o = some v ∧ K pc ls (v :: st) h k n := by
  cases o with
  | none => exact q.elim
  | some v => exact ⟨_, rfl, q⟩
theorem oInc_s {o : Option Value} {c : Int32} {K : aK} {i pc : Nat} {ls : aL} {st : List Value} {h : aH} {k n : Nat} (q : oInc o c K i pc ls st h k n) : ∃ x, o = some (.int x) ∧ K pc (lput1 ls i (.int (x + c))) st h k n := by
  cases o with
  | none => exact q.elim
  | some v => cases v <;> first | exact ⟨_, rfl, q⟩ | exact q.elim
theorem cond_s {b : Bool} {p : Prop} (q : cond b p False) : b = true ∧ p := by
  cases b with
  | false => exact q.elim
  | true => exact ⟨rfl, q⟩
theorem kV0 : cTab.all (fun q => !(q.2.2.2.1 == 0 || q.2.2.2.1 == 3) || Nat.blt (mK q.2.2.1) 11) = true := by decide +kernel
theorem kV_ok {own idx μ' kn : Nat} {host : String} {p1 p2 p3 : Nat} (_ : μ' < mN) (hz : 11 ≤ mK μ') (hk : kn = 0 ∨ kn = 3) (hf : (own, idx, μ', kn, host, p1, p2, p3) ∈ cTab) : False := by
  have h := List.all_eq_true.mp kV0 _ hf
  simp only [Bool.or_eq_true, Bool.not_eq_true', Bool.or_eq_false_iff, beq_eq_false_iff_ne, Nat.blt_eq] at h
  omega
section SND
variable {μ : Nat} {G : aG} {K : aK} {pc : Nat} {ls : aL} {st : List Value} {h : aH} {k n : Nat}
theorem wSt_i {i nL : Nat} {pc' : Nat} (hI : isI st = true) (q : wSt i nL K pc' ls st h k n) : ∃ x st', st = .int x :: st' ∧ i < nL ∧ K pc' (lput1 ls i (.int x)) st' h k n := by
  unfold wSt at q
  split at q
  · obtain ⟨q1, q2⟩ := cond_s q
    exact ⟨_, _, rfl, Nat.blt_eq.mp q1, q2⟩
  all_goals first | (simp [isI] at hI; done) | exact q.elim
theorem wSt_f {i nL : Nat} {pc' : Nat} (hI : isF st = true) (q : wSt i nL K pc' ls st h k n) : ∃ x st', st = .float x :: st' ∧ i < nL ∧ K pc' (lput1 ls i (.float x)) st' h k n := by
  unfold wSt at q
  split at q
  · simp [isF] at hI
  · obtain ⟨q1, q2⟩ := cond_s q
    exact ⟨_, _, rfl, Nat.blt_eq.mp q1, q2⟩
  all_goals first | (simp [isF] at hI; done) | exact q.elim
theorem wSt_a {i nL : Nat} {pc' : Nat} (hI : isA st = true) (q : wSt i nL K pc' ls st h k n) : ∃ x st', st = .ref x :: st' ∧ i < nL ∧ K pc' (lput1 ls i (.ref x)) st' h k n := by
  unfold wSt at q
  split at q
  · simp [isA] at hI
  · simp [isA] at hI
  · obtain ⟨q1, q2⟩ := cond_s q
    exact ⟨_, _, rfl, Nat.blt_eq.mp q1, q2⟩
  all_goals first | (simp [isA] at hI; done) | exact q.elim
theorem wSt_j {i nL : Nat} {pc' : Nat} (hI : isJ st = true) (q : wSt i nL K pc' ls st h k n) : ∃ x st', st = .long x :: st' ∧ i + 1 < nL ∧ K pc' (lput2 ls i (.long x)) st' h k n := by
  unfold wSt at q
  split at q
  · simp [isJ] at hI
  · simp [isJ] at hI
  · simp [isJ] at hI
  · obtain ⟨q1, q2⟩ := cond_s q
    exact ⟨_, _, rfl, Nat.blt_eq.mp q1, q2⟩
  all_goals first | (simp [isJ] at hI; done) | exact q.elim
theorem jmp_s {off : Int} (q : decide (0 ≤ (pc : Int) + off) = true) : (pc : Int) + off = ((jmp pc off : Nat) : Int) := by
  have := of_decide_eq_true q
  unfold jmp
  omega
theorem sd_iconst {x : Int} (hK : ∀ pc ls st h k n, K pc ls st h k n → AW μ G pc ls st h k n) (hμ : μ < mN) (hd : decode (mB μ) pc = .ok (.iconst x, 1)) (q : stepW μ G K (.iconst x) pc ls st h k n) : AW μ G pc ls st h k n := by
  exact aw_iconst hd rfl (hK _ _ _ _ _ _ q)
theorem sd_bipush {x : Int} (hK : ∀ pc ls st h k n, K pc ls st h k n → AW μ G pc ls st h k n) (hμ : μ < mN) (hd : decode (mB μ) pc = .ok (.bipush x, 2)) (q : stepW μ G K (.bipush x) pc ls st h k n) : AW μ G pc ls st h k n := by
  exact aw_bipush hd rfl (hK _ _ _ _ _ _ q)
theorem sd_sipush {x : Int} (hK : ∀ pc ls st h k n, K pc ls st h k n → AW μ G pc ls st h k n) (hμ : μ < mN) (hd : decode (mB μ) pc = .ok (.sipush x, 3)) (q : stepW μ G K (.sipush x) pc ls st h k n) : AW μ G pc ls st h k n := by
  exact aw_sipush hd rfl (hK _ _ _ _ _ _ q)
theorem sd_lconst {x : Fin 2} (hK : ∀ pc ls st h k n, K pc ls st h k n → AW μ G pc ls st h k n) (hμ : μ < mN) (hd : decode (mB μ) pc = .ok (.lconst x, 1)) (q : stepW μ G K (.lconst x) pc ls st h k n) : AW μ G pc ls st h k n := by
  exact aw_lconst hd rfl (hK _ _ _ _ _ _ q)
theorem sd_fconst {x : Fin 3} (hK : ∀ pc ls st h k n, K pc ls st h k n → AW μ G pc ls st h k n) (hμ : μ < mN) (hd : decode (mB μ) pc = .ok (.fconst x, 1)) (q : stepW μ G K (.fconst x) pc ls st h k n) : AW μ G pc ls st h k n := by
  match x, hd, q with
  | 0, hd, q => exact aw_fconst0 hd (hK _ _ _ _ _ _ q)
  | 1, hd, q => exact aw_fconst1 hd (hK _ _ _ _ _ _ q)
  | 2, hd, q => exact aw_fconst2 hd (hK _ _ _ _ _ _ q)
theorem sd_ldc {idx : Nat} (hK : ∀ pc ls st h k n, K pc ls st h k n → AW μ G pc ls st h k n) (hμ : μ < mN) (hd : decode (mB μ) pc = .ok (.ldc idx, 2)) (q : stepW μ G K (.ldc idx) pc ls st h k n) : AW μ G pc ls st h k n := by
  simp only [stepW] at q
  split at q
  next w hk =>
    have hw := List.all_eq_true.mp kIOk _ (find3 hk)
    simp only [beq_iff_eq] at hw
    rw [(mTab_ok hμ).2.2.2.2.2.2] at hw
    exact aw_ldc hd (List.mem_of_getElem? hw) (hK _ _ _ _ _ _ q)
  next =>
    split at q
    next w hk =>
      have hw := List.all_eq_true.mp kFOk _ (find3 hk)
      simp only [beq_iff_eq] at hw
      rw [(mTab_ok hμ).2.2.2.2.2.2] at hw
      exact aw_ldcf hd (List.mem_of_getElem? hw) (hK _ _ _ _ _ _ q)
    next => exact q.elim
theorem sd_ldc_w {idx : Nat} (hK : ∀ pc ls st h k n, K pc ls st h k n → AW μ G pc ls st h k n) (hμ : μ < mN) (hd : decode (mB μ) pc = .ok (.ldc_w idx, 3)) (q : stepW μ G K (.ldc_w idx) pc ls st h k n) : AW μ G pc ls st h k n := by
  simp only [stepW] at q
  split at q
  next w hk =>
    have hw := List.all_eq_true.mp kIOk _ (find3 hk)
    simp only [beq_iff_eq] at hw
    rw [(mTab_ok hμ).2.2.2.2.2.2] at hw
    exact aw_ldcw hd (List.mem_of_getElem? hw) (hK _ _ _ _ _ _ q)
  next => exact q.elim
theorem sd_ldc2_w {idx : Nat} (hK : ∀ pc ls st h k n, K pc ls st h k n → AW μ G pc ls st h k n) (hμ : μ < mN) (hd : decode (mB μ) pc = .ok (.ldc2_w idx, 3)) (q : stepW μ G K (.ldc2_w idx) pc ls st h k n) : AW μ G pc ls st h k n := by
  simp only [stepW] at q
  split at q
  next w hk =>
    have hw := List.all_eq_true.mp kJOk _ (find3 hk)
    simp only [beq_iff_eq] at hw
    rw [(mTab_ok hμ).2.2.2.2.2.2] at hw
    exact aw_ldc2 hd (List.mem_of_getElem? hw) (hK _ _ _ _ _ _ q)
  next => exact q.elim
theorem sd_iload_n {i : Fin 4} (hK : ∀ pc ls st h k n, K pc ls st h k n → AW μ G pc ls st h k n) (hμ : μ < mN) (hd : decode (mB μ) pc = .ok (.iload_n i, 1)) (q : stepW μ G K (.iload_n i) pc ls st h k n) : AW μ G pc ls st h k n := by
  obtain ⟨x, h1, h2⟩ := oI_s q
  exact aw_iload_n hd h1 (hK _ _ _ _ _ _ h2)
theorem sd_iload {i : Nat} (hK : ∀ pc ls st h k n, K pc ls st h k n → AW μ G pc ls st h k n) (hμ : μ < mN) (hd : decode (mB μ) pc = .ok (.iload i, 2)) (q : stepW μ G K (.iload i) pc ls st h k n) : AW μ G pc ls st h k n := by
  obtain ⟨x, h1, h2⟩ := oI_s q
  exact aw_iload hd h1 (hK _ _ _ _ _ _ h2)
theorem sd_lload_n {i : Fin 4} (hK : ∀ pc ls st h k n, K pc ls st h k n → AW μ G pc ls st h k n) (hμ : μ < mN) (hd : decode (mB μ) pc = .ok (.lload_n i, 1)) (q : stepW μ G K (.lload_n i) pc ls st h k n) : AW μ G pc ls st h k n := by
  obtain ⟨x, h1, h2⟩ := oJ_s q
  exact aw_lload_n hd h1 (hK _ _ _ _ _ _ h2)
theorem sd_lload {i : Nat} (hK : ∀ pc ls st h k n, K pc ls st h k n → AW μ G pc ls st h k n) (hμ : μ < mN) (hd : decode (mB μ) pc = .ok (.lload i, 2)) (q : stepW μ G K (.lload i) pc ls st h k n) : AW μ G pc ls st h k n := by
  obtain ⟨x, h1, h2⟩ := oJ_s q
  exact aw_lload hd h1 (hK _ _ _ _ _ _ h2)
theorem sd_fload_n {i : Fin 4} (hK : ∀ pc ls st h k n, K pc ls st h k n → AW μ G pc ls st h k n) (hμ : μ < mN) (hd : decode (mB μ) pc = .ok (.fload_n i, 1)) (q : stepW μ G K (.fload_n i) pc ls st h k n) : AW μ G pc ls st h k n := by
  obtain ⟨x, h1, h2⟩ := oF_s q
  exact aw_fload_n hd h1 (hK _ _ _ _ _ _ h2)
theorem sd_aload_n {i : Fin 4} (hK : ∀ pc ls st h k n, K pc ls st h k n → AW μ G pc ls st h k n) (hμ : μ < mN) (hd : decode (mB μ) pc = .ok (.aload_n i, 1)) (q : stepW μ G K (.aload_n i) pc ls st h k n) : AW μ G pc ls st h k n := by
  obtain ⟨x, h1, h2⟩ := oA_s q
  exact aw_aload_n hd h1 (hK _ _ _ _ _ _ h2)
theorem sd_aload {i : Nat} (hK : ∀ pc ls st h k n, K pc ls st h k n → AW μ G pc ls st h k n) (hμ : μ < mN) (hd : decode (mB μ) pc = .ok (.aload i, 2)) (q : stepW μ G K (.aload i) pc ls st h k n) : AW μ G pc ls st h k n := by
  obtain ⟨x, h1, h2⟩ := oA_s q
  exact aw_aload hd h1 (hK _ _ _ _ _ _ h2)
theorem sd_istore_n {i : Fin 4} (hK : ∀ pc ls st h k n, K pc ls st h k n → AW μ G pc ls st h k n) (hμ : μ < mN) (hd : decode (mB μ) pc = .ok (.istore_n i, 1)) (q : stepW μ G K (.istore_n i) pc ls st h k n) : AW μ G pc ls st h k n := by
  obtain ⟨q1, q2⟩ := cond_s q
  obtain ⟨x, st', rfl, h1, h2⟩ := wSt_i q1 q2
  exact aw_istore_n hd h1 (hK _ _ _ _ _ _ h2)
theorem sd_istore {i : Nat} (hK : ∀ pc ls st h k n, K pc ls st h k n → AW μ G pc ls st h k n) (hμ : μ < mN) (hd : decode (mB μ) pc = .ok (.istore i, 2)) (q : stepW μ G K (.istore i) pc ls st h k n) : AW μ G pc ls st h k n := by
  obtain ⟨q1, q2⟩ := cond_s q
  obtain ⟨x, st', rfl, h1, h2⟩ := wSt_i q1 q2
  exact aw_istore hd h1 (hK _ _ _ _ _ _ h2)
theorem sd_lstore_n {i : Fin 4} (hK : ∀ pc ls st h k n, K pc ls st h k n → AW μ G pc ls st h k n) (hμ : μ < mN) (hd : decode (mB μ) pc = .ok (.lstore_n i, 1)) (q : stepW μ G K (.lstore_n i) pc ls st h k n) : AW μ G pc ls st h k n := by
  obtain ⟨q1, q2⟩ := cond_s q
  obtain ⟨x, st', rfl, h1, h2⟩ := wSt_j q1 q2
  exact aw_lstore_n hd h1 (hK _ _ _ _ _ _ h2)
theorem sd_lstore {i : Nat} (hK : ∀ pc ls st h k n, K pc ls st h k n → AW μ G pc ls st h k n) (hμ : μ < mN) (hd : decode (mB μ) pc = .ok (.lstore i, 2)) (q : stepW μ G K (.lstore i) pc ls st h k n) : AW μ G pc ls st h k n := by
  obtain ⟨q1, q2⟩ := cond_s q
  obtain ⟨x, st', rfl, h1, h2⟩ := wSt_j q1 q2
  exact aw_lstore hd h1 (hK _ _ _ _ _ _ h2)
theorem sd_fstore_n {i : Fin 4} (hK : ∀ pc ls st h k n, K pc ls st h k n → AW μ G pc ls st h k n) (hμ : μ < mN) (hd : decode (mB μ) pc = .ok (.fstore_n i, 1)) (q : stepW μ G K (.fstore_n i) pc ls st h k n) : AW μ G pc ls st h k n := by
  obtain ⟨q1, q2⟩ := cond_s q
  obtain ⟨x, st', rfl, h1, h2⟩ := wSt_f q1 q2
  exact aw_fstore_n hd h1 (hK _ _ _ _ _ _ h2)
theorem sd_astore_n {i : Fin 4} (hK : ∀ pc ls st h k n, K pc ls st h k n → AW μ G pc ls st h k n) (hμ : μ < mN) (hd : decode (mB μ) pc = .ok (.astore_n i, 1)) (q : stepW μ G K (.astore_n i) pc ls st h k n) : AW μ G pc ls st h k n := by
  obtain ⟨q1, q2⟩ := cond_s q
  obtain ⟨x, st', rfl, h1, h2⟩ := wSt_a q1 q2
  exact aw_astore_n hd h1 (hK _ _ _ _ _ _ h2)
theorem sd_astore {i : Nat} (hK : ∀ pc ls st h k n, K pc ls st h k n → AW μ G pc ls st h k n) (hμ : μ < mN) (hd : decode (mB μ) pc = .ok (.astore i, 2)) (q : stepW μ G K (.astore i) pc ls st h k n) : AW μ G pc ls st h k n := by
  obtain ⟨q1, q2⟩ := cond_s q
  obtain ⟨x, st', rfl, h1, h2⟩ := wSt_a q1 q2
  exact aw_astore hd h1 (hK _ _ _ _ _ _ h2)
theorem sd_iinc {i : Nat} {c1 : Int} (hK : ∀ pc ls st h k n, K pc ls st h k n → AW μ G pc ls st h k n) (hμ : μ < mN) (hd : decode (mB μ) pc = .ok (.iinc i c1, 3)) (q : stepW μ G K (.iinc i c1) pc ls st h k n) : AW μ G pc ls st h k n := by
  obtain ⟨q1, q2⟩ := cond_s q
  obtain ⟨x, h1, h2⟩ := oInc_s q2
  exact aw_iinc hd (Nat.blt_eq.mp q1) h1 rfl (hK _ _ _ _ _ _ h2)
theorem sd_iadd (hK : ∀ pc ls st h k n, K pc ls st h k n → AW μ G pc ls st h k n) (hμ : μ < mN) (hd : decode (mB μ) pc = .ok (.iadd, 1)) (q : stepW μ G K (.iadd) pc ls st h k n) : AW μ G pc ls st h k n := by
  simp only [stepW, w2I] at q
  split at q
  · exact aw_iadd hd (hK _ _ _ _ _ _ q)
  · exact q.elim
theorem sd_isub (hK : ∀ pc ls st h k n, K pc ls st h k n → AW μ G pc ls st h k n) (hμ : μ < mN) (hd : decode (mB μ) pc = .ok (.isub, 1)) (q : stepW μ G K (.isub) pc ls st h k n) : AW μ G pc ls st h k n := by
  simp only [stepW, w2I] at q
  split at q
  · exact aw_isub hd (hK _ _ _ _ _ _ q)
  · exact q.elim
theorem sd_imul (hK : ∀ pc ls st h k n, K pc ls st h k n → AW μ G pc ls st h k n) (hμ : μ < mN) (hd : decode (mB μ) pc = .ok (.imul, 1)) (q : stepW μ G K (.imul) pc ls st h k n) : AW μ G pc ls st h k n := by
  simp only [stepW, w2I] at q
  split at q
  · exact aw_imul hd (hK _ _ _ _ _ _ q)
  · exact q.elim
theorem sd_iand (hK : ∀ pc ls st h k n, K pc ls st h k n → AW μ G pc ls st h k n) (hμ : μ < mN) (hd : decode (mB μ) pc = .ok (.iand, 1)) (q : stepW μ G K (.iand) pc ls st h k n) : AW μ G pc ls st h k n := by
  simp only [stepW, w2I] at q
  split at q
  · exact aw_iand hd (hK _ _ _ _ _ _ q)
  · exact q.elim
theorem sd_ior (hK : ∀ pc ls st h k n, K pc ls st h k n → AW μ G pc ls st h k n) (hμ : μ < mN) (hd : decode (mB μ) pc = .ok (.ior, 1)) (q : stepW μ G K (.ior) pc ls st h k n) : AW μ G pc ls st h k n := by
  simp only [stepW, w2I] at q
  split at q
  · exact aw_ior hd (hK _ _ _ _ _ _ q)
  · exact q.elim
theorem sd_ixor (hK : ∀ pc ls st h k n, K pc ls st h k n → AW μ G pc ls st h k n) (hμ : μ < mN) (hd : decode (mB μ) pc = .ok (.ixor, 1)) (q : stepW μ G K (.ixor) pc ls st h k n) : AW μ G pc ls st h k n := by
  simp only [stepW, w2I] at q
  split at q
  · exact aw_ixor hd (hK _ _ _ _ _ _ q)
  · exact q.elim
theorem sd_ishl (hK : ∀ pc ls st h k n, K pc ls st h k n → AW μ G pc ls st h k n) (hμ : μ < mN) (hd : decode (mB μ) pc = .ok (.ishl, 1)) (q : stepW μ G K (.ishl) pc ls st h k n) : AW μ G pc ls st h k n := by
  simp only [stepW, w2I] at q
  split at q
  · exact aw_ishl hd (hK _ _ _ _ _ _ q)
  · exact q.elim
theorem sd_ishr (hK : ∀ pc ls st h k n, K pc ls st h k n → AW μ G pc ls st h k n) (hμ : μ < mN) (hd : decode (mB μ) pc = .ok (.ishr, 1)) (q : stepW μ G K (.ishr) pc ls st h k n) : AW μ G pc ls st h k n := by
  simp only [stepW, w2I] at q
  split at q
  · exact aw_ishr hd (hK _ _ _ _ _ _ q)
  · exact q.elim
theorem sd_iushr (hK : ∀ pc ls st h k n, K pc ls st h k n → AW μ G pc ls st h k n) (hμ : μ < mN) (hd : decode (mB μ) pc = .ok (.iushr, 1)) (q : stepW μ G K (.iushr) pc ls st h k n) : AW μ G pc ls st h k n := by
  simp only [stepW, w2I] at q
  split at q
  · exact aw_iushr hd (hK _ _ _ _ _ _ q)
  · exact q.elim
theorem sd_idiv (hK : ∀ pc ls st h k n, K pc ls st h k n → AW μ G pc ls st h k n) (hμ : μ < mN) (hd : decode (mB μ) pc = .ok (.idiv, 1)) (q : stepW μ G K (.idiv) pc ls st h k n) : AW μ G pc ls st h k n := by
  simp only [stepW, w2D] at q
  split at q
  · exact aw_idiv hd q.1 (hK _ _ _ _ _ _ q.2)
  · exact q.elim
theorem sd_irem (hK : ∀ pc ls st h k n, K pc ls st h k n → AW μ G pc ls st h k n) (hμ : μ < mN) (hd : decode (mB μ) pc = .ok (.irem, 1)) (q : stepW μ G K (.irem) pc ls st h k n) : AW μ G pc ls st h k n := by
  simp only [stepW, w2D] at q
  split at q
  · exact aw_irem hd q.1 (hK _ _ _ _ _ _ q.2)
  · exact q.elim
theorem sd_ladd (hK : ∀ pc ls st h k n, K pc ls st h k n → AW μ G pc ls st h k n) (hμ : μ < mN) (hd : decode (mB μ) pc = .ok (.ladd, 1)) (q : stepW μ G K (.ladd) pc ls st h k n) : AW μ G pc ls st h k n := by
  simp only [stepW, w2J] at q
  split at q
  · exact aw_ladd hd (hK _ _ _ _ _ _ q)
  · exact q.elim
theorem sd_lsub (hK : ∀ pc ls st h k n, K pc ls st h k n → AW μ G pc ls st h k n) (hμ : μ < mN) (hd : decode (mB μ) pc = .ok (.lsub, 1)) (q : stepW μ G K (.lsub) pc ls st h k n) : AW μ G pc ls st h k n := by
  simp only [stepW, w2J] at q
  split at q
  · exact aw_lsub hd (hK _ _ _ _ _ _ q)
  · exact q.elim
theorem sd_lmul (hK : ∀ pc ls st h k n, K pc ls st h k n → AW μ G pc ls st h k n) (hμ : μ < mN) (hd : decode (mB μ) pc = .ok (.lmul, 1)) (q : stepW μ G K (.lmul) pc ls st h k n) : AW μ G pc ls st h k n := by
  simp only [stepW, w2J] at q
  split at q
  · exact aw_lmul hd (hK _ _ _ _ _ _ q)
  · exact q.elim
theorem sd_land (hK : ∀ pc ls st h k n, K pc ls st h k n → AW μ G pc ls st h k n) (hμ : μ < mN) (hd : decode (mB μ) pc = .ok (.land, 1)) (q : stepW μ G K (.land) pc ls st h k n) : AW μ G pc ls st h k n := by
  simp only [stepW, w2J] at q
  split at q
  · exact aw_land hd (hK _ _ _ _ _ _ q)
  · exact q.elim
theorem sd_lor (hK : ∀ pc ls st h k n, K pc ls st h k n → AW μ G pc ls st h k n) (hμ : μ < mN) (hd : decode (mB μ) pc = .ok (.lor, 1)) (q : stepW μ G K (.lor) pc ls st h k n) : AW μ G pc ls st h k n := by
  simp only [stepW, w2J] at q
  split at q
  · exact aw_lor hd (hK _ _ _ _ _ _ q)
  · exact q.elim
theorem sd_lxor (hK : ∀ pc ls st h k n, K pc ls st h k n → AW μ G pc ls st h k n) (hμ : μ < mN) (hd : decode (mB μ) pc = .ok (.lxor, 1)) (q : stepW μ G K (.lxor) pc ls st h k n) : AW μ G pc ls st h k n := by
  simp only [stepW, w2J] at q
  split at q
  · exact aw_lxor hd (hK _ _ _ _ _ _ q)
  · exact q.elim
theorem sd_lushr (hK : ∀ pc ls st h k n, K pc ls st h k n → AW μ G pc ls st h k n) (hμ : μ < mN) (hd : decode (mB μ) pc = .ok (.lushr, 1)) (q : stepW μ G K (.lushr) pc ls st h k n) : AW μ G pc ls st h k n := by
  simp only [stepW, wJI] at q
  split at q
  · exact aw_lushr hd (hK _ _ _ _ _ _ q)
  · exact q.elim
theorem sd_lshl (hK : ∀ pc ls st h k n, K pc ls st h k n → AW μ G pc ls st h k n) (hμ : μ < mN) (hd : decode (mB μ) pc = .ok (.lshl, 1)) (q : stepW μ G K (.lshl) pc ls st h k n) : AW μ G pc ls st h k n := by
  simp only [stepW, wJI] at q
  split at q
  · exact aw_lshl hd (hK _ _ _ _ _ _ q)
  · exact q.elim
theorem sd_lcmp (hK : ∀ pc ls st h k n, K pc ls st h k n → AW μ G pc ls st h k n) (hμ : μ < mN) (hd : decode (mB μ) pc = .ok (.lcmp, 1)) (q : stepW μ G K (.lcmp) pc ls st h k n) : AW μ G pc ls st h k n := by
  simp only [stepW, wCmp] at q
  split at q
  · exact aw_lcmp hd (hK _ _ _ _ _ _ q)
  · exact q.elim
theorem sd_lneg (hK : ∀ pc ls st h k n, K pc ls st h k n → AW μ G pc ls st h k n) (hμ : μ < mN) (hd : decode (mB μ) pc = .ok (.lneg, 1)) (q : stepW μ G K (.lneg) pc ls st h k n) : AW μ G pc ls st h k n := by
  simp only [stepW, wU] at q
  split at q
  next v st' =>
    obtain ⟨w, h1, h2⟩ := oV_s q
    cases v <;> simp only [fNegJ, Option.some.injEq] at h1 <;> first | (cases h1; done) | skip
    subst h1
    exact aw_lneg hd (hK _ _ _ _ _ _ h2)
  next => exact q.elim
theorem sd_i2l (hK : ∀ pc ls st h k n, K pc ls st h k n → AW μ G pc ls st h k n) (hμ : μ < mN) (hd : decode (mB μ) pc = .ok (.i2l, 1)) (q : stepW μ G K (.i2l) pc ls st h k n) : AW μ G pc ls st h k n := by
  simp only [stepW, wU] at q
  split at q
  next v st' =>
    obtain ⟨w, h1, h2⟩ := oV_s q
    cases v <;> simp only [fI2l, Option.some.injEq] at h1 <;> first | (cases h1; done) | skip
    subst h1
    exact aw_i2l hd (hK _ _ _ _ _ _ h2)
  next => exact q.elim
theorem sd_l2i (hK : ∀ pc ls st h k n, K pc ls st h k n → AW μ G pc ls st h k n) (hμ : μ < mN) (hd : decode (mB μ) pc = .ok (.l2i, 1)) (q : stepW μ G K (.l2i) pc ls st h k n) : AW μ G pc ls st h k n := by
  simp only [stepW, wU] at q
  split at q
  next v st' =>
    obtain ⟨w, h1, h2⟩ := oV_s q
    cases v <;> simp only [fL2i, Option.some.injEq] at h1 <;> first | (cases h1; done) | skip
    subst h1
    exact aw_l2i hd (hK _ _ _ _ _ _ h2)
  next => exact q.elim
theorem sd_i2b (hK : ∀ pc ls st h k n, K pc ls st h k n → AW μ G pc ls st h k n) (hμ : μ < mN) (hd : decode (mB μ) pc = .ok (.i2b, 1)) (q : stepW μ G K (.i2b) pc ls st h k n) : AW μ G pc ls st h k n := by
  simp only [stepW, wU] at q
  split at q
  next v st' =>
    obtain ⟨w, h1, h2⟩ := oV_s q
    cases v <;> simp only [fI2b, Option.some.injEq] at h1 <;> first | (cases h1; done) | skip
    subst h1
    exact aw_i2b hd (hK _ _ _ _ _ _ h2)
  next => exact q.elim
theorem sd_i2f (hK : ∀ pc ls st h k n, K pc ls st h k n → AW μ G pc ls st h k n) (hμ : μ < mN) (hd : decode (mB μ) pc = .ok (.i2f, 1)) (q : stepW μ G K (.i2f) pc ls st h k n) : AW μ G pc ls st h k n := by
  simp only [stepW, wU] at q
  split at q
  next v st' =>
    obtain ⟨w, h1, h2⟩ := oV_s q
    cases v <;> simp only [fI2f, Option.some.injEq] at h1 <;> first | (cases h1; done) | skip
    subst h1
    exact aw_i2f hd (hK _ _ _ _ _ _ h2)
  next => exact q.elim
theorem sd_f2i (hK : ∀ pc ls st h k n, K pc ls st h k n → AW μ G pc ls st h k n) (hμ : μ < mN) (hd : decode (mB μ) pc = .ok (.f2i, 1)) (q : stepW μ G K (.f2i) pc ls st h k n) : AW μ G pc ls st h k n := by
  simp only [stepW, wU] at q
  split at q
  next v st' =>
    obtain ⟨w, h1, h2⟩ := oV_s q
    cases v <;> simp only [fF2i, Option.some.injEq] at h1 <;> first | (cases h1; done) | skip
    subst h1
    exact aw_f2i hd (hK _ _ _ _ _ _ h2)
  next => exact q.elim
theorem sd_fsub (hK : ∀ pc ls st h k n, K pc ls st h k n → AW μ G pc ls st h k n) (hμ : μ < mN) (hd : decode (mB μ) pc = .ok (.fsub, 1)) (q : stepW μ G K (.fsub) pc ls st h k n) : AW μ G pc ls st h k n := by
  simp only [stepW, w2F] at q
  split at q
  · exact aw_fsub hd q.1 (hK _ _ _ _ _ _ q.2)
  · exact q.elim
theorem sd_fmul (hK : ∀ pc ls st h k n, K pc ls st h k n → AW μ G pc ls st h k n) (hμ : μ < mN) (hd : decode (mB μ) pc = .ok (.fmul, 1)) (q : stepW μ G K (.fmul) pc ls st h k n) : AW μ G pc ls st h k n := by
  simp only [stepW, w2F] at q
  split at q
  · exact aw_fmul hd q.1 (hK _ _ _ _ _ _ q.2)
  · exact q.elim
theorem sd_fdiv (hK : ∀ pc ls st h k n, K pc ls st h k n → AW μ G pc ls st h k n) (hμ : μ < mN) (hd : decode (mB μ) pc = .ok (.fdiv, 1)) (q : stepW μ G K (.fdiv) pc ls st h k n) : AW μ G pc ls st h k n := by
  simp only [stepW, w2F] at q
  split at q
  · exact aw_fdiv hd q.1 (hK _ _ _ _ _ _ q.2)
  · exact q.elim
theorem sd_fcmp {op : CmpOp} (hK : ∀ pc ls st h k n, K pc ls st h k n → AW μ G pc ls st h k n) (hμ : μ < mN) (hd : decode (mB μ) pc = .ok (.fcmp op, 1)) (q : stepW μ G K (.fcmp op) pc ls st h k n) : AW μ G pc ls st h k n := by
  simp only [stepW, wFc] at q
  split at q
  · exact aw_fcmp hd (hK _ _ _ _ _ _ q)
  · exact q.elim
theorem sd_dup (hK : ∀ pc ls st h k n, K pc ls st h k n → AW μ G pc ls st h k n) (hμ : μ < mN) (hd : decode (mB μ) pc = .ok (.dup, 1)) (q : stepW μ G K (.dup) pc ls st h k n) : AW μ G pc ls st h k n := by
  simp only [stepW, wDup] at q
  split at q
  · obtain ⟨q1, q2⟩ := cond_s q
    exact aw_dup hd (cat1_spec q1) (hK _ _ _ _ _ _ q2)
  · exact q.elim
theorem sd_pop (hK : ∀ pc ls st h k n, K pc ls st h k n → AW μ G pc ls st h k n) (hμ : μ < mN) (hd : decode (mB μ) pc = .ok (.pop, 1)) (q : stepW μ G K (.pop) pc ls st h k n) : AW μ G pc ls st h k n := by
  simp only [stepW, wPop] at q
  split at q
  · obtain ⟨q1, q2⟩ := cond_s q
    exact aw_pop hd (cat1_spec q1) (hK _ _ _ _ _ _ q2)
  · exact q.elim
theorem sd_dup2 (hK : ∀ pc ls st h k n, K pc ls st h k n → AW μ G pc ls st h k n) (hμ : μ < mN) (hd : decode (mB μ) pc = .ok (.dup2, 1)) (q : stepW μ G K (.dup2) pc ls st h k n) : AW μ G pc ls st h k n := by
  simp only [stepW, wDup2] at q
  split at q
  · obtain ⟨q1, q2⟩ := cond_s q
    simp only [Bool.and_eq_true] at q1
    exact aw_dup2 hd (cat1_spec q1.1) (cat1_spec q1.2) (hK _ _ _ _ _ _ q2)
  · exact q.elim
theorem sd_ifCond {c : ClassFile.Cond} {off : Int} (hK : ∀ pc ls st h k n, K pc ls st h k n → AW μ G pc ls st h k n) (hμ : μ < mN) (hd : decode (mB μ) pc = .ok (.ifCond c off, 3)) (q : stepW μ G K (.ifCond c off) pc ls st h k n) : AW μ G pc ls st h k n := by
  obtain ⟨q1, q2⟩ := cond_s q
  have ht := jmp_s q1
  simp only [wIf] at q2
  split at q2
  · cases c
    · exact aw_if_eq hd ht (fun z => hK _ _ _ _ _ _ (q2.1 z)) (fun z => hK _ _ _ _ _ _ (q2.2 z))
    · exact aw_if_ne hd ht (fun z => hK _ _ _ _ _ _ (q2.1 z)) (fun z => hK _ _ _ _ _ _ (q2.2 z))
    · exact aw_if_lt hd ht (fun z => hK _ _ _ _ _ _ (q2.1 z)) (fun z => hK _ _ _ _ _ _ (q2.2 z))
    · exact aw_if_ge hd ht (fun z => hK _ _ _ _ _ _ (q2.1 z)) (fun z => hK _ _ _ _ _ _ (q2.2 z))
    · exact aw_if_gt hd ht (fun z => hK _ _ _ _ _ _ (q2.1 z)) (fun z => hK _ _ _ _ _ _ (q2.2 z))
    · exact aw_if_le hd ht (fun z => hK _ _ _ _ _ _ (q2.1 z)) (fun z => hK _ _ _ _ _ _ (q2.2 z))
  · exact q2.elim
theorem sd_if_icmp {c : ClassFile.Cond} {off : Int} (hK : ∀ pc ls st h k n, K pc ls st h k n → AW μ G pc ls st h k n) (hμ : μ < mN) (hd : decode (mB μ) pc = .ok (.if_icmp c off, 3)) (q : stepW μ G K (.if_icmp c off) pc ls st h k n) : AW μ G pc ls st h k n := by
  obtain ⟨q1, q2⟩ := cond_s q
  have ht := jmp_s q1
  simp only [wIc] at q2
  split at q2
  · cases c
    · exact aw_icmp_eq hd ht (fun z => hK _ _ _ _ _ _ (q2.1 z)) (fun z => hK _ _ _ _ _ _ (q2.2 z))
    · exact aw_icmp_ne hd ht (fun z => hK _ _ _ _ _ _ (q2.1 z)) (fun z => hK _ _ _ _ _ _ (q2.2 z))
    · exact aw_icmp_lt hd ht (fun z => hK _ _ _ _ _ _ (q2.1 z)) (fun z => hK _ _ _ _ _ _ (q2.2 z))
    · exact aw_icmp_ge hd ht (fun z => hK _ _ _ _ _ _ (q2.1 z)) (fun z => hK _ _ _ _ _ _ (q2.2 z))
    · exact aw_icmp_gt hd ht (fun z => hK _ _ _ _ _ _ (q2.1 z)) (fun z => hK _ _ _ _ _ _ (q2.2 z))
    · exact aw_icmp_le hd ht (fun z => hK _ _ _ _ _ _ (q2.1 z)) (fun z => hK _ _ _ _ _ _ (q2.2 z))
  · exact q2.elim
theorem sd_goto {off : Int} (hK : ∀ pc ls st h k n, K pc ls st h k n → AW μ G pc ls st h k n) (hμ : μ < mN) (hd : decode (mB μ) pc = .ok (.goto off, 3)) (q : stepW μ G K (.goto off) pc ls st h k n) : AW μ G pc ls st h k n := by
  obtain ⟨q1, q2⟩ := cond_s q
  exact aw_goto hd (jmp_s q1) (hK _ _ _ _ _ _ q2)
theorem sd_tableswitch {dflt lo hi : Int} {offs : Array Int} {len : Nat} (hK : ∀ pc ls st h k n, K pc ls st h k n → AW μ G pc ls st h k n) (hμ : μ < mN) (hd : decode (mB μ) pc = .ok (.tableswitch dflt lo hi offs, len)) (q : stepW μ G K (.tableswitch dflt lo hi offs) pc ls st h k n) : AW μ G pc ls st h k n := by
  obtain ⟨q1, q2⟩ := cond_s q
  simp only [Bool.and_eq_true, decide_eq_true_eq, List.all_eq_true, beq_iff_eq] at q1
  obtain ⟨⟨⟨q3, q4⟩, q5⟩, q6⟩ := q1
  simp only [wTs] at q2
  split at q2
  next x st' =>
    by_cases hc : x.toInt < lo ∨ hi < x.toInt
    · simp only [tgtT, if_pos hc] at q2
      exact aw_tableOut hd hc (by omega) (hK _ _ _ _ _ _ q2)
    · simp only [tgtT, if_neg hc] at q2
      have h1 : ¬ x.toInt < lo := fun z => hc (Or.inl z)
      have h2 : ¬ hi < x.toInt := fun z => hc (Or.inr z)
      have hlt : (x.toInt - lo).toNat < offs.toList.length := by rw [q5]; omega
      have hg : offs.toList[(x.toInt - lo).toNat]? = some (offs.toList.getD (x.toInt - lo).toNat 0) := by
        rw [List.getD_eq_getElem?_getD, List.getElem?_eq_getElem hlt]; rfl
      have hm := q4 _ (List.mem_of_getElem? hg)
      exact aw_tableIn hd h1 h2 (by rw [← Array.getElem?_toList]; exact hg) (by omega) (hK _ _ _ _ _ _ q2)
  next => exact q2.elim
theorem sd_lookupswitch {dflt : Int} {ps : Array (Int × Int)} {len : Nat} (hK : ∀ pc ls st h k n, K pc ls st h k n → AW μ G pc ls st h k n) (hμ : μ < mN) (hd : decode (mB μ) pc = .ok (.lookupswitch dflt ps, len)) (q : stepW μ G K (.lookupswitch dflt ps) pc ls st h k n) : AW μ G pc ls st h k n := by
  obtain ⟨q1, q2⟩ := cond_s q
  simp only [Bool.and_eq_true, decide_eq_true_eq] at q1
  obtain ⟨⟨q3, q4⟩, q5⟩ := q1
  simp only [wLs] at q2
  split at q2
  next x st' =>
    have ho : 0 ≤ (pc : Int) + Op.lookupswitch.offset ps.toList dflt x.toInt := by
      generalize ps.toList = l at q4
      clear hd q2 q5
      induction l with
      | nil => exact q3
      | cons a l ih =>
        obtain ⟨a1, a2⟩ := a
        simp only [List.all_cons, Bool.and_eq_true, decide_eq_true_eq] at q4
        rw [Op.lookupswitch.offset_cons]
        split
        · exact q4.1
        · exact ih q4.2
    exact aw_lookup hd q5 rfl (by unfold tgtL at *; omega) (hK _ _ _ _ _ _ q2)
  next => exact q2.elim
theorem sd_getfield {idx : Nat} (hK : ∀ pc ls st h k n, K pc ls st h k n → AW μ G pc ls st h k n) (hμ : μ < mN) (hd : decode (mB μ) pc = .ok (.getfield idx, 3)) (q : stepW μ G K (.getfield idx) pc ls st h k n) : AW μ G pc ls st h k n := by
  simp only [stepW, wGet] at q
  split at q
  next a b ci fk r a' st' hk =>
    obtain ⟨v, h1, h2⟩ := oV_s q
    obtain ⟨nest, fin, tag, host, pl⟩ := r
    exact aw_getf hd (mTab_ok hμ).2.2.2.2.2.2 (find3 hk) h1 (hK _ _ _ _ _ _ h2)
  next => exact q.elim
theorem sd_putfield {idx : Nat} (hK : ∀ pc ls st h k n, K pc ls st h k n → AW μ G pc ls st h k n) (hμ : μ < mN) (hd : decode (mB μ) pc = .ok (.putfield idx, 3)) (q : stepW μ G K (.putfield idx) pc ls st h k n) : AW μ G pc ls st h k n := by
  simp only [stepW, wPut] at q
  split at q
  next a b ci fk nest fin tag r v a' st' hk =>
    obtain ⟨q1, q2⟩ := cond_s q
    simp only [Bool.and_eq_true, Bool.or_eq_true, Bool.not_eq_true', beq_iff_eq] at q1
    obtain ⟨host, pl⟩ := r
    cases hh : fput h a' ci fk v with
    | none => rw [hh] at q2; exact q2.elim
    | some h1 =>
      rw [hh] at q2
      refine aw_putf hd (mTab_ok hμ).2.2.2.2.2.2 (find3 hk) ?_ (pB_ok (fTab_ok (find3 hk)).2.2.2.2.2 q1.1) hh (hK _ _ _ _ _ _ q2)
      rcases q1.2 with z | ⟨⟨z1, z2⟩, z3⟩
      · exact Or.inl z
      · refine Or.inr ⟨z1, ?_, ?_⟩
        · have := List.all_eq_true.mp inOk μ (List.contains_iff_mem.mp z2)
          simpa using this
        · rw [← (mTab_ok hμ).2.2.2.2.2.2, ← z3]
          exact cN_cl ci (fTab_ok (find3 hk)).1
  next => exact q.elim
theorem sd_iaload (hK : ∀ pc ls st h k n, K pc ls st h k n → AW μ G pc ls st h k n) (hμ : μ < mN) (hd : decode (mB μ) pc = .ok (.iaload, 1)) (q : stepW μ G K (.iaload) pc ls st h k n) : AW μ G pc ls st h k n := by
  simp only [stepW, wIld] at q
  split at q
  next i a st' =>
    cases hv : iget h a 1 with
    | none => rw [hv] at q; exact q.elim
    | some x =>
      obtain ⟨N, f⟩ := x
      rw [hv] at q
      exact aw_iald hd hv q.1 (hK _ _ _ _ _ _ q.2)
  next => exact q.elim
theorem sd_baload (hK : ∀ pc ls st h k n, K pc ls st h k n → AW μ G pc ls st h k n) (hμ : μ < mN) (hd : decode (mB μ) pc = .ok (.baload, 1)) (q : stepW μ G K (.baload) pc ls st h k n) : AW μ G pc ls st h k n := by
  simp only [stepW, wBld] at q
  split at q
  next i a st' =>
    cases hv : iget h a 0 with
    | none => rw [hv] at q; exact q.elim
    | some x =>
      obtain ⟨N, f⟩ := x
      rw [hv] at q
      exact aw_bald hd hv q.1 (hK _ _ _ _ _ _ q.2)
  next => exact q.elim
theorem sd_laload (hK : ∀ pc ls st h k n, K pc ls st h k n → AW μ G pc ls st h k n) (hμ : μ < mN) (hd : decode (mB μ) pc = .ok (.laload, 1)) (q : stepW μ G K (.laload) pc ls st h k n) : AW μ G pc ls st h k n := by
  simp only [stepW, wJld] at q
  split at q
  next i a st' =>
    cases hv : jget h a with
    | none => rw [hv] at q; exact q.elim
    | some x =>
      obtain ⟨N, f⟩ := x
      rw [hv] at q
      exact aw_lald hd hv q.1 (hK _ _ _ _ _ _ q.2)
  next => exact q.elim
theorem sd_aaload (hK : ∀ pc ls st h k n, K pc ls st h k n → AW μ G pc ls st h k n) (hμ : μ < mN) (hd : decode (mB μ) pc = .ok (.aaload, 1)) (q : stepW μ G K (.aaload) pc ls st h k n) : AW μ G pc ls st h k n := by
  simp only [stepW, wQld] at q
  split at q
  next i a st' =>
    cases hv : qget h a with
    | none => rw [hv] at q; exact q.elim
    | some x =>
      obtain ⟨t, N, f⟩ := x
      rw [hv] at q
      obtain ⟨q1, q2, q3⟩ := cond_s q
      simp only [Bool.or_eq_true, beq_iff_eq] at q1
      cases hb : f i.toNatClampNeg with
      | none => rw [hb] at q3; exact q3.elim
      | some b => rw [hb] at q3; exact aw_aald hd hv q1 q2 hb (hK _ _ _ _ _ _ q3)
  next => exact q.elim
theorem sd_iastore (hK : ∀ pc ls st h k n, K pc ls st h k n → AW μ G pc ls st h k n) (hμ : μ < mN) (hd : decode (mB μ) pc = .ok (.iastore, 1)) (q : stepW μ G K (.iastore) pc ls st h k n) : AW μ G pc ls st h k n := by
  simp only [stepW, wIst] at q
  split at q
  next x i a st' =>
    cases hv : iget h a 1 with
    | none => rw [hv] at q; exact q.elim
    | some z =>
      obtain ⟨N, f⟩ := z
      rw [hv] at q
      exact aw_iast hd hv q.1 (hK _ _ _ _ _ _ q.2)
  next => exact q.elim
theorem sd_bastore (hK : ∀ pc ls st h k n, K pc ls st h k n → AW μ G pc ls st h k n) (hμ : μ < mN) (hd : decode (mB μ) pc = .ok (.bastore, 1)) (q : stepW μ G K (.bastore) pc ls st h k n) : AW μ G pc ls st h k n := by
  simp only [stepW, wBst] at q
  split at q
  next x i a st' =>
    cases hv : iget h a 0 with
    | none => rw [hv] at q; exact q.elim
    | some z =>
      obtain ⟨N, f⟩ := z
      rw [hv] at q
      exact aw_bast hd hv q.1 (hK _ _ _ _ _ _ q.2)
  next => exact q.elim
theorem sd_lastore (hK : ∀ pc ls st h k n, K pc ls st h k n → AW μ G pc ls st h k n) (hμ : μ < mN) (hd : decode (mB μ) pc = .ok (.lastore, 1)) (q : stepW μ G K (.lastore) pc ls st h k n) : AW μ G pc ls st h k n := by
  simp only [stepW, wJst] at q
  split at q
  next x i a st' =>
    cases hv : jget h a with
    | none => rw [hv] at q; exact q.elim
    | some z =>
      obtain ⟨N, f⟩ := z
      rw [hv] at q
      exact aw_last hd hv q.1 (hK _ _ _ _ _ _ q.2)
  next => exact q.elim
theorem sd_aastore (hK : ∀ pc ls st h k n, K pc ls st h k n → AW μ G pc ls st h k n) (hμ : μ < mN) (hd : decode (mB μ) pc = .ok (.aastore, 1)) (q : stepW μ G K (.aastore) pc ls st h k n) : AW μ G pc ls st h k n := by
  simp only [stepW, wQst] at q
  split at q
  next b i a st' =>
    cases hv : qget h a with
    | none => rw [hv] at q; exact q.elim
    | some z =>
      obtain ⟨t, N, f⟩ := z
      rw [hv] at q
      obtain ⟨q1, q2, q3⟩ := cond_s q
      simp only [Bool.or_eq_true, Bool.and_eq_true, beq_iff_eq] at q1
      have key : ∀ ci, ciOf (hget h b) = ci → ci < 99 → ∃ fs, hget h b = some (.inr (ci, fs)) := by
        intro ci e1 e2
        cases hb : hget h b with
        | none => rw [hb] at e1; simp [ciOf] at e1; omega
        | some c =>
          rw [hb] at e1
          rcases c with x | ⟨c1, fs⟩
          · simp [ciOf] at e1; omega
          · exact ⟨fs, by rw [show c1 = ci from e1]⟩
      rcases q1 with ⟨rfl, e1⟩ | ⟨rfl, e1⟩
      · obtain ⟨fs, hfs⟩ := key 2 e1 (by omega)
        exact aw_aast hd hv (Or.inl ⟨rfl, rfl⟩) q2 hfs (hK _ _ _ _ _ _ q3)
      · obtain ⟨fs, hfs⟩ := key 7 e1 (by omega)
        exact aw_aast hd hv (Or.inr ⟨rfl, rfl⟩) q2 hfs (hK _ _ _ _ _ _ q3)
  next => exact q.elim
theorem sd_arraylength (hK : ∀ pc ls st h k n, K pc ls st h k n → AW μ G pc ls st h k n) (hμ : μ < mN) (hd : decode (mB μ) pc = .ok (.arraylength, 1)) (q : stepW μ G K (.arraylength) pc ls st h k n) : AW μ G pc ls st h k n := by
  simp only [stepW, wLen] at q
  split at q
  next a st' =>
    cases hv : alen h a with
    | none => rw [hv] at q; exact q.elim
    | some z =>
      obtain ⟨t, N⟩ := z
      rw [hv] at q
      obtain ⟨q1, q2⟩ := cond_s q
      exact aw_alen hd hv (Nat.blt_eq.mp q1) (hK _ _ _ _ _ _ q2)
  next => exact q.elim
theorem sd_newarray {t : ArrayType} (hK : ∀ pc ls st h k n, K pc ls st h k n → AW μ G pc ls st h k n) (hμ : μ < mN) (hd : decode (mB μ) pc = .ok (.newarray t, 2)) (q : stepW μ G K (.newarray t) pc ls st h k n) : AW μ G pc ls st h k n := by
  cases t with
  | int =>
    simp only [stepW, wNa] at q
    split at q
    next x st' =>
      obtain ⟨q1, q2, r1, r2, r3, r4, r5, r6, r7⟩ := q
      exact aw_newI hd q1 rfl q2 r1 r2 r3 r4 r5 r6 (hK _ _ _ _ _ _ r7)
    next => exact q.elim
  | byte =>
    simp only [stepW, wNa] at q
    split at q
    next x st' =>
      obtain ⟨q1, q2, r1, r2, r3, r4, r5, r6, r7⟩ := q
      exact aw_newB hd q1 rfl q2 r1 r2 r3 r4 r5 r6 (hK _ _ _ _ _ _ r7)
    next => exact q.elim
  | long =>
    simp only [stepW, wNa] at q
    split at q
    next x st' =>
      obtain ⟨q1, q2, r1, r2, r3, r4, r5, r6, r7⟩ := q
      exact aw_newJ hd q1 rfl q2 r1 r2 r3 r4 r5 r6 (hK _ _ _ _ _ _ r7)
    next => exact q.elim
  | _ => exact q.elim
theorem sd_anewarray {idx : Nat} (hK : ∀ pc ls st h k n, K pc ls st h k n → AW μ G pc ls st h k n) (hμ : μ < mN) (hd : decode (mB μ) pc = .ok (.anewarray idx, 3)) (q : stepW μ G K (.anewarray idx) pc ls st h k n) : AW μ G pc ls st h k n := by
  simp only [stepW] at q
  split at q
  next w hk =>
    have hw := List.all_eq_true.mp qOk _ (find3 hk)
    simp only [Bool.and_eq_true, Bool.or_eq_true, beq_iff_eq] at hw
    rw [(mTab_ok hμ).2.2.2.2.2.2] at hw
    simp only [wNa] at q
    split at q
    next x st' =>
      obtain ⟨q1, q2, r1, r2, r3, r4, r5, r6, r7⟩ := q
      refine aw_newQ (t := w.2.2.1) (C0 := qCl w.2.2.1) hd (List.mem_of_getElem? hw.1.2) (List.mem_of_getElem? hw.2) ?_ q1 rfl q2 r1 r2 r3 r4 r5 r6 (hK _ _ _ _ _ _ r7)
      rcases hw.1.1 with z | z
      · exact Or.inl ⟨z, by rw [z]; rfl⟩
      · exact Or.inr ⟨z, by rw [z]; rfl⟩
    next => exact q.elim
  next => exact q.elim
theorem sd_new {idx : Nat} (hK : ∀ pc ls st h k n, K pc ls st h k n → AW μ G pc ls st h k n) (hμ : μ < mN) (hd : decode (mB μ) pc = .ok (.new idx, 3)) (q : stepW μ G K (.new idx) pc ls st h k n) : AW μ G pc ls st h k n := by
  simp only [stepW] at q
  split at q
  next w hk =>
    have hw := List.all_eq_true.mp nOk _ (find3 hk)
    simp only [Bool.and_eq_true, decide_eq_true_eq, beq_iff_eq] at hw
    rw [(mTab_ok hμ).2.2.2.2.2.2] at hw
    obtain ⟨r1, r2, r3, r4, r5, r6, r7⟩ := q
    exact aw_new hd hw.1.1.1 (List.mem_of_getElem? hw.1.1.2) (List.mem_of_getElem? hw.1.2) (List.mem_of_getElem? hw.2) r1 r2 r3 r4 r5 r6 (hK _ _ _ _ _ _ r7)
  next => exact q.elim
theorem sd_invokevirtual {idx : Nat} (hK : ∀ pc ls st h k n, K pc ls st h k n → AW μ G pc ls st h k n) (hμ : μ < mN) (hd : decode (mB μ) pc = .ok (.invokevirtual idx, 3)) (q : stepW μ G K (.invokevirtual idx) pc ls st h k n) : AW μ G pc ls st h k n := by
  simp only [stepW] at q
  split at q
  next w hk =>
    obtain ⟨q1, q2⟩ := cond_s q
    simp only [Bool.or_eq_true, beq_iff_eq] at q1
    obtain ⟨c0, i0, μ', kn, host, p1, p2, p3⟩ := w
    have hf := find3 hk
    cases hs : spl (mP μ') [] st with
    | none => rw [hs] at q2; exact q2.elim
    | some z =>
      obtain ⟨av, rest⟩ := z
      rw [hs] at q2
      obtain ⟨a2, e1, e2, e3⟩ := spl_spec _ _ _ _ _ hs
      rw [List.append_nil] at e1
      subst e1
      cases rest with
      | nil => exact q2.elim
      | cons v rest =>
        cases v <;> first | (exact q2.elim) | skip
        rename_i b
        obtain ⟨fs, hfs⟩ := rcv_spec q2.1
        obtain ⟨d', mv', mc', ms', Post', s1, s2, s3, s4, s5, s6, s7, s8, s9, s10⟩ := q2.2
        subst e2
        have hcl : mK μ' < 11 := by
          rcases Nat.lt_or_ge (mK μ') 11 with z | z
          · exact z
          · exfalso
            exact kV_ok (cTab_ok hf).1 z q1 hf
        exact aw_callV hd (mTab_ok hμ).2.2.2.2.2.2 hf q1 rfl hcl hfs s1 e3 s2 s3 s4 s5 s6 s7 s8 s9 (fun r h' z => hK _ _ _ _ _ _ (s10 r h' z))
  next => exact q.elim
theorem sd_invokespecial {idx : Nat} (hK : ∀ pc ls st h k n, K pc ls st h k n → AW μ G pc ls st h k n) (hμ : μ < mN) (hd : decode (mB μ) pc = .ok (.invokespecial idx, 3)) (q : stepW μ G K (.invokespecial idx) pc ls st h k n) : AW μ G pc ls st h k n := by
  simp only [stepW] at q
  split at q
  next w hk =>
    obtain ⟨q1, q2⟩ := cond_s q
    simp only [Bool.or_eq_true, beq_iff_eq] at q1
    obtain ⟨c0, i0, μ', kn, host, p1, p2, p3⟩ := w
    have hf := find3 hk
    cases hs : spl (mP μ') [] st with
    | none => rw [hs] at q2; exact q2.elim
    | some z =>
      obtain ⟨av, rest⟩ := z
      rw [hs] at q2
      obtain ⟨a2, e1, e2, e3⟩ := spl_spec _ _ _ _ _ hs
      rw [List.append_nil] at e1
      subst e1
      cases rest with
      | nil => exact q2.elim
      | cons v rest =>
        cases v <;> first | (exact q2.elim) | skip
        obtain ⟨d', mv', mc', ms', Post', s1, s2, s3, s4, s5, s6, s7, s8, s9, s10⟩ := q2
        subst e2
        exact aw_callI hd (mTab_ok hμ).2.2.2.2.2.2 hf q1 s1 e3 s2 s3 s4 s5 s6 s7 s8 s9 (fun r h' z => hK _ _ _ _ _ _ (s10 r h' z))
  next =>
    split at q
    next w hk =>
      have hw := List.all_eq_true.mp oOk _ (find3 hk)
      simp only [beq_iff_eq] at hw
      rw [(mTab_ok hμ).2.2.2.2.2.2] at hw
      simp only [wOb] at q
      split at q
      next a st' => exact aw_obj hd (List.mem_of_getElem? hw) q.2.1 q.1 (hK _ _ _ _ _ _ q.2.2)
      next => exact q.elim
    next => exact q.elim
theorem sd_invokestatic {idx : Nat} (hK : ∀ pc ls st h k n, K pc ls st h k n → AW μ G pc ls st h k n) (hμ : μ < mN) (hd : decode (mB μ) pc = .ok (.invokestatic idx, 3)) (q : stepW μ G K (.invokestatic idx) pc ls st h k n) : AW μ G pc ls st h k n := by
  simp only [stepW] at q
  split at q
  next w hk =>
    obtain ⟨q1, q2⟩ := cond_s q
    simp only [Bool.or_eq_true, beq_iff_eq] at q1
    obtain ⟨c0, i0, μ', kn, host, p1, p2, p3⟩ := w
    have hf := find3 hk
    cases hs : spl (mP μ') [] st with
    | none => rw [hs] at q2; exact q2.elim
    | some z =>
      obtain ⟨av, rest⟩ := z
      rw [hs] at q2
      obtain ⟨a2, e1, e2, e3⟩ := spl_spec _ _ _ _ _ hs
      rw [List.append_nil] at e1
      subst e1
      obtain ⟨d', mv', mc', ms', Post', s1, s2, s3, s4, s5, s6, s7, s8, s9, s10⟩ := q2
      subst e2
      exact aw_callS hd (mTab_ok hμ).2.2.2.2.2.2 hf q1 s1 e3 s2 s3 s4 s5 s6 s7 s8 s9 (fun r h' z => hK _ _ _ _ _ _ (s10 r h' z))
  next =>
    split at q
    next w hk =>
      have hw := List.all_eq_true.mp aOk _ (find3 hk)
      simp only [beq_iff_eq] at hw
      rw [(mTab_ok hμ).2.2.2.2.2.2] at hw
      simp only [wCp] at q
      split at q
      next x dp a1 sp a0 st' =>
        obtain ⟨q1, q2, q3⟩ := q
        unfold oCp at q3
        split at q3
        · obtain ⟨n0, f, n1, g, c1, c2, c3, c4, c5, c6, c7, c8⟩ := q3
          exact aw_copyI hd (List.mem_of_getElem? hw) q2 q1 c1 c2 c3 c4 c5 c6 c7 (hK _ _ _ _ _ _ c8)
        · obtain ⟨n0, f, n1, g, c1, c2, c3, c4, c5, c6, c7, c8⟩ := q3
          exact aw_copyJ hd (List.mem_of_getElem? hw) q2 q1 c1 c2 c3 c4 c5 c6 c7 (hK _ _ _ _ _ _ c8)
      next => exact q.elim
    next =>
      split at q
      next w hk =>
        have hw := List.all_eq_true.mp rOk _ (find3 hk)
        simp only [beq_iff_eq] at hw
        rw [(mTab_ok hμ).2.2.2.2.2.2] at hw
        simp only [wRw] at q
        split at q
        next b st' => exact aw_raw hd (List.mem_of_getElem? hw) q.2.1 q.1 (hK _ _ _ _ _ _ q.2.2)
        next => exact q.elim
      next => exact q.elim
theorem sd_ireturn (hK : ∀ pc ls st h k n, K pc ls st h k n → AW μ G pc ls st h k n) (hμ : μ < mN) (hd : decode (mB μ) pc = .ok (.ireturn, 1)) (q : stepW μ G K (.ireturn) pc ls st h k n) : AW μ G pc ls st h k n := by
  simp only [stepW, wRi] at q
  split at q
  next x =>
    obtain ⟨q1, q2⟩ := cond_s q
    cases hr : mR μ with
    | none => rw [hr] at q1; simp [rB] at q1
    | some ty =>
      rw [hr] at q1
      cases ty <;> simp only [rB, Bool.or_eq_true, beq_iff_eq] at q1 <;> first | (cases q1; done) | skip
      all_goals first | exact aw_iret hd hr rfl q2 | (refine aw_iret hd hr ?_ q2; rcases q1 with rfl | rfl <;> decide)
  next => exact q.elim
theorem sd_lreturn (hK : ∀ pc ls st h k n, K pc ls st h k n → AW μ G pc ls st h k n) (hμ : μ < mN) (hd : decode (mB μ) pc = .ok (.lreturn, 1)) (q : stepW μ G K (.lreturn) pc ls st h k n) : AW μ G pc ls st h k n := by
  simp only [stepW, wRj] at q
  split at q
  next hr => exact aw_lret hd hr q
  next => exact q.elim
theorem sd_freturn (hK : ∀ pc ls st h k n, K pc ls st h k n → AW μ G pc ls st h k n) (hμ : μ < mN) (hd : decode (mB μ) pc = .ok (.freturn, 1)) (q : stepW μ G K (.freturn) pc ls st h k n) : AW μ G pc ls st h k n := by
  simp only [stepW, wRf] at q
  split at q
  next hr => exact aw_fret hd hr q
  next => exact q.elim
theorem sd_areturn (hK : ∀ pc ls st h k n, K pc ls st h k n → AW μ G pc ls st h k n) (hμ : μ < mN) (hd : decode (mB μ) pc = .ok (.areturn, 1)) (q : stepW μ G K (.areturn) pc ls st h k n) : AW μ G pc ls st h k n := by
  simp only [stepW, wRa] at q
  split at q
  next hr => exact aw_aret hd hr (Or.inl ⟨_, rfl⟩) q
  next hr => exact aw_aret hd hr (Or.inr ⟨_, rfl⟩) q
  next => exact q.elim
theorem sd_return_ (hK : ∀ pc ls st h k n, K pc ls st h k n → AW μ G pc ls st h k n) (hμ : μ < mN) (hd : decode (mB μ) pc = .ok (.return_, 1)) (q : stepW μ G K (.return_) pc ls st h k n) : AW μ G pc ls st h k n := by
  simp only [stepW, wRv] at q
  split at q
  next hr => exact aw_vret hd hr q
  next => exact q.elim
end SND
theorem step_aw {μ : Nat} {G : aG} {K : aK} {pc len : Nat} {ls : aL} {st : List Value} {h : aH} {k n : Nat} {i : Instr} (hK : ∀ pc ls st h k n, K pc ls st h k n → AW μ G pc ls st h k n) (hμ : μ < mN) (hd : decode (mB μ) pc = .ok (i, len)) (hl : lenOk i len = true) (q : stepW μ G K i pc ls st h k n) : AW μ G pc ls st h k n := by
  cases i with
  | aaload =>
    obtain rfl : len = 1 := by simpa [lenOk] using hl
    exact sd_aaload hK hμ hd q
  | aastore =>
    obtain rfl : len = 1 := by simpa [lenOk] using hl
    exact sd_aastore hK hμ hd q
  | areturn =>
    obtain rfl : len = 1 := by simpa [lenOk] using hl
    exact sd_areturn hK hμ hd q
  | arraylength =>
    obtain rfl : len = 1 := by simpa [lenOk] using hl
    exact sd_arraylength hK hμ hd q
  | baload =>
    obtain rfl : len = 1 := by simpa [lenOk] using hl
    exact sd_baload hK hμ hd q
  | bastore =>
    obtain rfl : len = 1 := by simpa [lenOk] using hl
    exact sd_bastore hK hμ hd q
  | dup =>
    obtain rfl : len = 1 := by simpa [lenOk] using hl
    exact sd_dup hK hμ hd q
  | dup2 =>
    obtain rfl : len = 1 := by simpa [lenOk] using hl
    exact sd_dup2 hK hμ hd q
  | f2i =>
    obtain rfl : len = 1 := by simpa [lenOk] using hl
    exact sd_f2i hK hμ hd q
  | fcmp a0 =>
    obtain rfl : len = 1 := by simpa [lenOk] using hl
    exact sd_fcmp hK hμ hd q
  | fdiv =>
    obtain rfl : len = 1 := by simpa [lenOk] using hl
    exact sd_fdiv hK hμ hd q
  | fmul =>
    obtain rfl : len = 1 := by simpa [lenOk] using hl
    exact sd_fmul hK hμ hd q
  | fsub =>
    obtain rfl : len = 1 := by simpa [lenOk] using hl
    exact sd_fsub hK hμ hd q
  | freturn =>
    obtain rfl : len = 1 := by simpa [lenOk] using hl
    exact sd_freturn hK hμ hd q
  | i2b =>
    obtain rfl : len = 1 := by simpa [lenOk] using hl
    exact sd_i2b hK hμ hd q
  | i2f =>
    obtain rfl : len = 1 := by simpa [lenOk] using hl
    exact sd_i2f hK hμ hd q
  | i2l =>
    obtain rfl : len = 1 := by simpa [lenOk] using hl
    exact sd_i2l hK hμ hd q
  | iadd =>
    obtain rfl : len = 1 := by simpa [lenOk] using hl
    exact sd_iadd hK hμ hd q
  | iaload =>
    obtain rfl : len = 1 := by simpa [lenOk] using hl
    exact sd_iaload hK hμ hd q
  | iand =>
    obtain rfl : len = 1 := by simpa [lenOk] using hl
    exact sd_iand hK hμ hd q
  | iastore =>
    obtain rfl : len = 1 := by simpa [lenOk] using hl
    exact sd_iastore hK hμ hd q
  | idiv =>
    obtain rfl : len = 1 := by simpa [lenOk] using hl
    exact sd_idiv hK hμ hd q
  | imul =>
    obtain rfl : len = 1 := by simpa [lenOk] using hl
    exact sd_imul hK hμ hd q
  | ior =>
    obtain rfl : len = 1 := by simpa [lenOk] using hl
    exact sd_ior hK hμ hd q
  | irem =>
    obtain rfl : len = 1 := by simpa [lenOk] using hl
    exact sd_irem hK hμ hd q
  | ireturn =>
    obtain rfl : len = 1 := by simpa [lenOk] using hl
    exact sd_ireturn hK hμ hd q
  | ishl =>
    obtain rfl : len = 1 := by simpa [lenOk] using hl
    exact sd_ishl hK hμ hd q
  | ishr =>
    obtain rfl : len = 1 := by simpa [lenOk] using hl
    exact sd_ishr hK hμ hd q
  | isub =>
    obtain rfl : len = 1 := by simpa [lenOk] using hl
    exact sd_isub hK hμ hd q
  | iushr =>
    obtain rfl : len = 1 := by simpa [lenOk] using hl
    exact sd_iushr hK hμ hd q
  | ixor =>
    obtain rfl : len = 1 := by simpa [lenOk] using hl
    exact sd_ixor hK hμ hd q
  | l2i =>
    obtain rfl : len = 1 := by simpa [lenOk] using hl
    exact sd_l2i hK hμ hd q
  | ladd =>
    obtain rfl : len = 1 := by simpa [lenOk] using hl
    exact sd_ladd hK hμ hd q
  | laload =>
    obtain rfl : len = 1 := by simpa [lenOk] using hl
    exact sd_laload hK hμ hd q
  | land =>
    obtain rfl : len = 1 := by simpa [lenOk] using hl
    exact sd_land hK hμ hd q
  | lastore =>
    obtain rfl : len = 1 := by simpa [lenOk] using hl
    exact sd_lastore hK hμ hd q
  | lcmp =>
    obtain rfl : len = 1 := by simpa [lenOk] using hl
    exact sd_lcmp hK hμ hd q
  | lmul =>
    obtain rfl : len = 1 := by simpa [lenOk] using hl
    exact sd_lmul hK hμ hd q
  | lneg =>
    obtain rfl : len = 1 := by simpa [lenOk] using hl
    exact sd_lneg hK hμ hd q
  | lor =>
    obtain rfl : len = 1 := by simpa [lenOk] using hl
    exact sd_lor hK hμ hd q
  | lreturn =>
    obtain rfl : len = 1 := by simpa [lenOk] using hl
    exact sd_lreturn hK hμ hd q
  | lshl =>
    obtain rfl : len = 1 := by simpa [lenOk] using hl
    exact sd_lshl hK hμ hd q
  | lsub =>
    obtain rfl : len = 1 := by simpa [lenOk] using hl
    exact sd_lsub hK hμ hd q
  | lushr =>
    obtain rfl : len = 1 := by simpa [lenOk] using hl
    exact sd_lushr hK hμ hd q
  | lxor =>
    obtain rfl : len = 1 := by simpa [lenOk] using hl
    exact sd_lxor hK hμ hd q
  | pop =>
    obtain rfl : len = 1 := by simpa [lenOk] using hl
    exact sd_pop hK hμ hd q
  | return_ =>
    obtain rfl : len = 1 := by simpa [lenOk] using hl
    exact sd_return_ hK hμ hd q
  | iconst a0 =>
    obtain rfl : len = 1 := by simpa [lenOk] using hl
    exact sd_iconst hK hμ hd q
  | lconst a0 =>
    obtain rfl : len = 1 := by simpa [lenOk] using hl
    exact sd_lconst hK hμ hd q
  | fconst a0 =>
    obtain rfl : len = 1 := by simpa [lenOk] using hl
    exact sd_fconst hK hμ hd q
  | iload_n a0 =>
    obtain rfl : len = 1 := by simpa [lenOk] using hl
    exact sd_iload_n hK hμ hd q
  | lload_n a0 =>
    obtain rfl : len = 1 := by simpa [lenOk] using hl
    exact sd_lload_n hK hμ hd q
  | fload_n a0 =>
    obtain rfl : len = 1 := by simpa [lenOk] using hl
    exact sd_fload_n hK hμ hd q
  | aload_n a0 =>
    obtain rfl : len = 1 := by simpa [lenOk] using hl
    exact sd_aload_n hK hμ hd q
  | istore_n a0 =>
    obtain rfl : len = 1 := by simpa [lenOk] using hl
    exact sd_istore_n hK hμ hd q
  | lstore_n a0 =>
    obtain rfl : len = 1 := by simpa [lenOk] using hl
    exact sd_lstore_n hK hμ hd q
  | fstore_n a0 =>
    obtain rfl : len = 1 := by simpa [lenOk] using hl
    exact sd_fstore_n hK hμ hd q
  | astore_n a0 =>
    obtain rfl : len = 1 := by simpa [lenOk] using hl
    exact sd_astore_n hK hμ hd q
  | bipush a0 =>
    obtain rfl : len = 2 := by simpa [lenOk] using hl
    exact sd_bipush hK hμ hd q
  | ldc a0 =>
    obtain rfl : len = 2 := by simpa [lenOk] using hl
    exact sd_ldc hK hμ hd q
  | iload a0 =>
    obtain rfl : len = 2 := by simpa [lenOk] using hl
    exact sd_iload hK hμ hd q
  | lload a0 =>
    obtain rfl : len = 2 := by simpa [lenOk] using hl
    exact sd_lload hK hμ hd q
  | aload a0 =>
    obtain rfl : len = 2 := by simpa [lenOk] using hl
    exact sd_aload hK hμ hd q
  | istore a0 =>
    obtain rfl : len = 2 := by simpa [lenOk] using hl
    exact sd_istore hK hμ hd q
  | lstore a0 =>
    obtain rfl : len = 2 := by simpa [lenOk] using hl
    exact sd_lstore hK hμ hd q
  | astore a0 =>
    obtain rfl : len = 2 := by simpa [lenOk] using hl
    exact sd_astore hK hμ hd q
  | newarray a0 =>
    obtain rfl : len = 2 := by simpa [lenOk] using hl
    exact sd_newarray hK hμ hd q
  | sipush a0 =>
    obtain rfl : len = 3 := by simpa [lenOk] using hl
    exact sd_sipush hK hμ hd q
  | ldc_w a0 =>
    obtain rfl : len = 3 := by simpa [lenOk] using hl
    exact sd_ldc_w hK hμ hd q
  | ldc2_w a0 =>
    obtain rfl : len = 3 := by simpa [lenOk] using hl
    exact sd_ldc2_w hK hμ hd q
  | iinc a0 a1 =>
    obtain rfl : len = 3 := by simpa [lenOk] using hl
    exact sd_iinc hK hμ hd q
  | ifCond a0 a1 =>
    obtain rfl : len = 3 := by simpa [lenOk] using hl
    exact sd_ifCond hK hμ hd q
  | if_icmp a0 a1 =>
    obtain rfl : len = 3 := by simpa [lenOk] using hl
    exact sd_if_icmp hK hμ hd q
  | goto a0 =>
    obtain rfl : len = 3 := by simpa [lenOk] using hl
    exact sd_goto hK hμ hd q
  | getfield a0 =>
    obtain rfl : len = 3 := by simpa [lenOk] using hl
    exact sd_getfield hK hμ hd q
  | putfield a0 =>
    obtain rfl : len = 3 := by simpa [lenOk] using hl
    exact sd_putfield hK hμ hd q
  | anewarray a0 =>
    obtain rfl : len = 3 := by simpa [lenOk] using hl
    exact sd_anewarray hK hμ hd q
  | new a0 =>
    obtain rfl : len = 3 := by simpa [lenOk] using hl
    exact sd_new hK hμ hd q
  | invokevirtual a0 =>
    obtain rfl : len = 3 := by simpa [lenOk] using hl
    exact sd_invokevirtual hK hμ hd q
  | invokespecial a0 =>
    obtain rfl : len = 3 := by simpa [lenOk] using hl
    exact sd_invokespecial hK hμ hd q
  | invokestatic a0 =>
    obtain rfl : len = 3 := by simpa [lenOk] using hl
    exact sd_invokestatic hK hμ hd q
  | tableswitch a b c d => exact sd_tableswitch hK hμ hd q
  | lookupswitch a b => exact sd_lookupswitch hK hμ hd q
  | _ => exact q.elim
theorem wp_aw {μ : Nat} {G : aG} {S : Nat → Bool} (hμ : μ < mN) : ∀ (f pc : Nat) (ls : aL) (st : List Value) (h : aH) (k n : Nat), WP μ G S f pc ls st h k n → AW μ G pc ls st h k n
  | 0, pc, ls, st, h, k, n, q => q
  | f + 1, pc, ls, st, h, k, n, q => by
    unfold WP at q
    split at q
    · exact q
    · split at q
      next i len hd =>
        obtain ⟨q1, q2⟩ := cond_s q
        exact step_aw (wp_aw hμ f) hμ hd q1 q2
      next => exact q.elim
theorem wq_aw {μ : Nat} {G : aG} {S : Nat → Bool} (hμ : μ < mN) {f pc : Nat} {ls : aL} {st : List Value} {h : aH} {k n : Nat} (q : WQ μ G S f pc ls st h k n) : AW μ G pc ls st h k n := by
  unfold WQ at q
  split at q
  next i len hd =>
    obtain ⟨q1, q2⟩ := cond_s q
    exact step_aw (wp_aw hμ f) hμ hd q1 q2
  next => exact q.elim
theorem wp_s {μ : Nat} {G : aG} {S : Nat → Bool} {f pc len : Nat} {ls : aL} {st : List Value} {h : aH} {k n : Nat} {i : Instr} (hd : decode (mB μ) pc = .ok (i, len)) (hl : lenOk i len = true) (hs : S pc = false) : WP μ G S (f + 1) pc ls st h k n = stepW μ G (WP μ G S f) i pc ls st h k n := by
  simp only [WP, hs, hd, hl, cond_true, Bool.false_eq_true, if_false]
theorem wq_s {μ : Nat} {G : aG} {S : Nat → Bool} {f pc len : Nat} {ls : aL} {st : List Value} {h : aH} {k n : Nat} {i : Instr} (hd : decode (mB μ) pc = .ok (i, len)) (hl : lenOk i len = true) : WQ μ G S f pc ls st h k n = stepW μ G (WP μ G S f) i pc ls st h k n := by
  simp only [WQ, hd, hl, cond_true]
theorem wp_stop {μ : Nat} {G : aG} {S : Nat → Bool} {f pc : Nat} {ls : aL} {st : List Value} {h : aH} {k n : Nat} (hs : S pc = true) : WP μ G S (f + 1) pc ls st h k n = AW μ G pc ls st h k n := by
  simp only [WP, hs, if_true]
