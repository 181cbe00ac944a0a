/-! ===== ends, natives, contracts, calls ===== -/
theorem map_cat (ρ : Nat → Nat) (st : List Value) : ((st.map (trv ρ)).map fun v => v.category) = st.map fun v => v.category := by
  rw [List.map_map]
  congr 1
  funext v
  exact trv_cat ρ v
theorem trv_id (v : Value) : trv (fun i => i) v = v := by cases v <;> rfl
theorem renc_id (c : aC) : renc (fun i => i) c = c := by
  rcases c with ⟨t, n, f | f | f | f | f⟩ | ⟨ci, fs⟩
  · rfl
  · rfl
  · rfl
  · rfl
  · simp [renc, tra]
  · have : trv (fun i => i) = id := by funext v; exact trv_id v
    simp [renc, this]
/-- an end: the cells that are promised, by a view of those that are there -/
def RET (G : aG) (r : Option Value) (h : aH) (k n : Nat) : Prop := ∃ (τ : Nat → Nat) (h' : aH) (r' : Option Value), (∀ i c, hget h' i = some c → hget h (τ i) = some (renc τ c)) ∧ (∀ i j, i < h'.length → j < h'.length → τ i = τ j → i = j) ∧ (∀ j, j < gN G → gM G j = false → τ j = j) ∧ r = r'.map (trv τ) ∧ gP G r' h' ∧ k ≤ gC G ∧ n ≤ gS G
theorem RET.id {G : aG} {r : Option Value} {h : aH} {k n : Nat} (hp : gP G r h) (hk : k ≤ gC G) (hn : n ≤ gS G) : RET G r h k n :=
  ⟨fun i => i, h, r, fun i c hc => by rw [renc_id]; exact hc, fun i j _ _ q => q, fun _ _ _ => rfl, by
    have : trv (fun i => i) = _root_.id := by funext v; exact trv_id v
    rw [this, Option.map_id]; rfl, hp, hk, hn⟩
section AWE
variable {μ : Nat} {G : aG} {pc : Nat} {ls : aL} {st : List Value} {h : aH} {k n : Nat}
theorem view_st {D : va_G} {dA : Nat → ClassId} {A : Nat → Prop} {ρ τ : Nat → Nat} {h h' : aH} {H : Heap} (t1 : ∀ i c, hget h' i = some c → hget h (τ i) = some (renc τ c)) (t2 : ∀ i j, i < h'.length → j < h'.length → τ i = τ j → i = j) (hP : va_P D aCl (rws dA ρ 0 h) H) (hD : va_D A (rws dA ρ 0 h)) :
    va_P D aCl (rws dA (fun i => ρ (τ i)) 0 h') H ∧ va_D A (rws dA (fun i => ρ (τ i)) 0 h') := by
  have key : ∀ (i : Nat) (q : Nat × va_E), (rws dA (fun i => ρ (τ i)) 0 h')[i]? = some q → i < h'.length ∧ (rws dA ρ 0 h)[τ i]? = some q := by
    intro i q hq
    obtain ⟨c, h1, h2⟩ := rws_of hq
    refine ⟨hget_lt h1, ?_⟩
    rw [rws_get0 (t1 i c h1), h2, trc_renc]
  refine ⟨fun i q hq => hP (τ i) q (key i q hq).2, fun i j p q hp hq hpq => ?_, fun i q hq => hD.2 (τ i) q (key i q hq).2⟩
  exact t2 i j (key i p hp).1 (key j q hq).1 (hD.1 (τ i) (τ j) p q (key i p hp).2 (key j q hq).2 hpq)
theorem ret_q {D : va_G} {dA : Nat → ClassId} {s : State} {ρ0 ρ : Nat → Nat} {H : Heap} {locs : List Loc} {r : Option Value} {args : Array Value} (hK : va_K D aCl (aTy dA) s) (S : aSt G D dA s ρ0 ρ h H locs) (hR : RET G r h k n) (t : State) (ht : t.heap = H) (hW : s.WarmedH t.vm) : aQc G D dA ρ0 args s (.returned (r.map (trv ρ))) t := by
  obtain ⟨τ, h', r', t1, t2, t3, rfl, hp, -, -⟩ := hR
  obtain ⟨hfx, hP, hD, hS⟩ := S
  obtain ⟨v1, v2⟩ := view_st t1 t2 hP hD
  refine ⟨⟨r', h', fun i => ρ (τ i), ?_, hp, fun j h1 h2 => ?_, by rw [ht]; exact v1, va_K.moved hW.alike hK, v2⟩, hS.F ht⟩
  · rw [Option.map_map]
    congr 2
    funext v
    exact trv_trv ρ τ v
  · show ρ (τ j) = ρ0 j
    rw [t3 j h1 h2]
    exact hfx j h1 h2
theorem aw_iret {x : Int32} {ty : FieldType} (hd : decode (mB μ) pc = .ok (.ireturn, 1)) (hr : mR μ = some ty) (hn : narrow ty (.int x) = .int x) (hR : RET G (some (.int x)) h k n) : AW μ G pc ls [.int x] h k n := by
  intro l D dA p e s m args below meth c ρ0 ρ H locs lsr C S L
  have hq := ret_q (args := args) C.2.2.2.2.2.2.2.2.1 S hR
  obtain ⟨-, -, -, -, -, -, -, -, h1, h2⟩ := hR
  exact W.widen h1 h2 (W.zret C.1 C.2.1 (C.2.2.1.trans hr) hn hq (fun q hq => S.2.2.2.2.2 q hq) hd C.2.2.2.2.2.2.2.1)
theorem aw_lret {x : Int64} (hd : decode (mB μ) pc = .ok (.lreturn, 1)) (hr : mR μ = some .long) (hR : RET G (some (.long x)) h k n) : AW μ G pc ls [.long x] h k n := by
  intro l D dA p e s m args below meth c ρ0 ρ H locs lsr C S L
  have hq := ret_q (args := args) C.2.2.2.2.2.2.2.2.1 S hR
  obtain ⟨-, -, -, -, -, -, -, -, h1, h2⟩ := hR
  exact W.widen h1 h2 (W.lret C.1 C.2.1 (C.2.2.1.trans hr) hq (fun q hq => S.2.2.2.2.2 q hq) hd C.2.2.2.2.2.2.2.1)
theorem aw_fret {x : UInt32} (hd : decode (mB μ) pc = .ok (.freturn, 1)) (hr : mR μ = some .float) (hR : RET G (some (.float x)) h k n) : AW μ G pc ls [.float x] h k n := by
  intro l D dA p e s m args below meth c ρ0 ρ H locs lsr C S L
  have hq := ret_q (args := args) C.2.2.2.2.2.2.2.2.1 S hR
  obtain ⟨-, -, -, -, -, -, -, -, h1, h2⟩ := hR
  exact W.widen h1 h2 (W.fret C.1 C.2.1 (C.2.2.1.trans hr) hq (fun q hq => S.2.2.2.2.2 q hq) hd C.2.2.2.2.2.2.2.1)
theorem aw_aret {a : Nat} {rt : FieldType} (hd : decode (mB μ) pc = .ok (.areturn, 1)) (hr : mR μ = some rt) (hrt : (∃ n, rt = .object n) ∨ ∃ t, rt = .array t) (hR : RET G (some (.ref a)) h k n) : AW μ G pc ls [.ref a] h k n := by
  intro l D dA p e s m args below meth c ρ0 ρ H locs lsr C S L
  have hq := ret_q (args := args) C.2.2.2.2.2.2.2.2.1 S hR
  obtain ⟨-, -, -, -, -, -, -, -, h1, h2⟩ := hR
  exact W.widen h1 h2 (W.aret C.1 C.2.1 (C.2.2.1.trans hr) hrt (Or.inr ⟨ρ a, rfl⟩) hq (fun q hq => S.2.2.2.2.2 q hq) hd C.2.2.2.2.2.2.2.1)
theorem aw_vret (hd : decode (mB μ) pc = .ok (.return_, 1)) (hr : mR μ = none) (hR : RET G none h k n) : AW μ G pc ls [] h k n := by
  intro l D dA p e s m args below meth c ρ0 ρ H locs lsr C S L
  have hq := ret_q (args := args) C.2.2.2.2.2.2.2.2.1 S hR
  obtain ⟨-, -, -, -, -, -, -, -, h1, h2⟩ := hR
  exact W.widen h1 h2 (W.vret C.1 C.2.1 (C.2.2.1.trans hr) hq (fun q hq => S.2.2.2.2.2 q hq) hd C.2.2.2.2.2.2.2.1)
/-- the cells seen by other names -/
theorem aw_ren {τ : Nat → Nat} {h' : aH} {ls' : aL} {st' : List Value} (t1 : ∀ i c, hget h' i = some c → hget h (τ i) = some (renc τ c)) (t2 : ∀ i j, i < h'.length → j < h'.length → τ i = τ j → i = j) (t3 : ∀ j, j < gN G → gM G j = false → τ j = j) (hl : ∀ i v, lget ls' i = some v → lget ls i = some (trv τ v)) (hs : st = st'.map (trv τ)) (K : AW μ G pc ls' st' h' k n) : AW μ G pc ls st h k n := by
  intro l D dA p e s m args below meth c ρ0 ρ H locs lsr C S L
  obtain ⟨hfx, hP, hD, hS⟩ := S
  obtain ⟨v1, v2⟩ := view_st t1 t2 hP hD
  have K' := K l D dA p e s m args below meth c ρ0 (fun i => ρ (τ i)) H locs lsr C ⟨fun j h1 h2 => by show ρ (τ j) = ρ0 j; rw [t3 j h1 h2]; exact hfx j h1 h2, v1, v2, hS⟩ (lv_mono L fun q hq => by
    obtain ⟨i, v, h1, rfl⟩ := (lpr_mem _ _ 0 q).mp hq
    exact (lpr_mem _ _ 0 _).mpr ⟨i, trv τ v, hl i v h1, by rw [trv_trv]⟩)
  subst hs
  rw [List.map_map]
  have e1 : trv ρ ∘ trv τ = trv (fun i => ρ (τ i)) := by funext v; exact trv_trv ρ τ v
  rw [e1]
  exact K'
/-- fewer locals listed -/
theorem aw_less {ls' : aL} (hl : ∀ i v, lget ls' i = some v → lget ls i = some v) (K : AW μ G pc ls' st h k n) : AW μ G pc ls st h k n := by
  intro l D dA p e s m args below meth c ρ0 ρ H locs lsr C S L
  exact K l D dA p e s m args below meth c ρ0 ρ H locs lsr C S (lv_mono L fun q hq => by
    obtain ⟨i, v, h1, rfl⟩ := (lpr_mem _ _ 0 q).mp hq
    exact (lpr_mem _ _ 0 _).mpr ⟨i, v, hl i v h1, rfl⟩)
/-- more room counted -/
theorem aw_widen {k' n' : Nat} (h1 : k ≤ k') (h2 : n ≤ n') (K : AW μ G pc ls st h k' n') : AW μ G pc ls st h k n := by
  intro l D dA p e s m args below meth c ρ0 ρ H locs lsr C S L
  exact W.widen h1 h2 (K l D dA p e s m args below meth c ρ0 ρ H locs lsr C S L)
theorem oiW : Cond.instanceMethod objectInit ∈ lw_tbl ∧ Cond.code objectInit ⟨#[0xb1]⟩ 1 none ∈ lw_tbl := by decide +kernel
theorem aw_obj {a idx : Nat} (hd : decode (mB μ) pc = .ok (.invokespecial idx, 3)) (hw : Cond.methodLink (mY μ).cls idx objectInit ∈ lw_tbl) (hg : 1 ≤ gD G) (hs : (st.map fun v => v.category).sum ≤ 8) (K : AW μ G (pc + 3) ls st h k n) : AW μ G pc ls (.ref a :: st) h k n := by
  intro l D dA p e s m args below meth c ρ0 ρ H locs lsr C S L
  have hG := C.2.2.2.2.2.1
  refine W.objInit C.1 C.2.1 C.2.2.2.2.1 (hG _ (gT_mem hw rfl)) (hG _ (gT_mem oiW.1 rfl)) (hG _ (gT_mem oiW.2 rfl)) rfl (L.1.trans C.2.2.2.1.symm) rfl hd hg ?_ (K l D dA p e s m args below meth c ρ0 ρ H locs lsr C S L)
  show 2 * 0 + ((st.map (trv ρ)).map fun v => v.category).sum + 12 ≤ 100 * gD G
  rw [map_cat]
  omega
theorem cpW : Cond.native arraycopyName ∈ lw_tbl ∧ Cond.static arraycopyName ∈ lw_tbl ∧ Cond.initialized "java/lang/System" ∈ lw_tbl := by decide +kernel
theorem cpw7 : nativeFrameWords "java/lang/System" "arraycopy" 5 = 7 := by decide
theorem aw_copyI {a0 a1 n0 n1 idx : Nat} {f g : Nat → Int32} {sp dp x : Int32} (hd : decode (mB μ) pc = .ok (.invokestatic idx, 3)) (hw : Cond.methodLink (mY μ).cls idx arraycopyName ∈ lw_tbl) (hg : 1 ≤ gD G) (hs : (st.map fun v => v.category).sum ≤ 8) (h0 : iget h a0 1 = some (n0, f)) (h1 : iget h a1 1 = some (n1, g)) (c1 : ¬ sp < 0) (c2 : ¬ dp < 0) (c3 : ¬ x < 0) (c4 : sp.toNatClampNeg + x.toNatClampNeg ≤ n0) (c5 : dp.toNatClampNeg + x.toNatClampNeg ≤ n1)
    (K : AW μ G (pc + 3) ls st (hset h a1 (.inl (1, n1, .inl (va_cpy f g sp.toNatClampNeg dp.toNatClampNeg x.toNatClampNeg)))) k n) : AW μ G pc ls (.int x :: .int dp :: .ref a1 :: .int sp :: .ref a0 :: st) h k n := by
  intro l D dA p e s m args below meth c ρ0 ρ H locs lsr C S L
  obtain ⟨hfx, hP, hD, hS⟩ := S
  have hG := C.2.2.2.2.2.1
  refine va_copyi (tys := aTy dA) (ty := .int) C.1 C.2.1 (C.2.2.2.1.trans L.1.symm) C.2.2.2.2.1 (hG _ (gT_mem hw rfl)) (hG _ (gT_mem cpW.1 rfl)) (hG _ (gT_mem cpW.2.1 rfl)) (hG _ (gT_mem cpW.2.2 rfl)) C.2.2.2.2.2.2.2.2.1 hP hD hS a0 a1 1 1 (rws_get0 (iget_spec h0)) (rws_get0 (iget_spec h1)) rfl rfl rfl c1 c2 c3 c4 c5 (fun _ _ => rfl) hg ?_ hd fun H1 locs1 b1 b2 b3 => ?_
  · rw [map_cat, cpw7]
    show _ ≤ 100 * gD G
    omega
  · refine K l D dA p e s m args below meth c ρ0 ρ H1 locs1 lsr C ⟨hfx, ?_, ?_, b3⟩ L
    · rw [rws_set, Nat.zero_add]; exact b1
    · rw [rws_set, Nat.zero_add]; exact b2
theorem aw_copyJ {a0 a1 n0 n1 idx : Nat} {f g : Nat → Int64} {sp dp x : Int32} (hd : decode (mB μ) pc = .ok (.invokestatic idx, 3)) (hw : Cond.methodLink (mY μ).cls idx arraycopyName ∈ lw_tbl) (hg : 1 ≤ gD G) (hs : (st.map fun v => v.category).sum ≤ 8) (h0 : jget h a0 = some (n0, f)) (h1 : jget h a1 = some (n1, g)) (c1 : ¬ sp < 0) (c2 : ¬ dp < 0) (c3 : ¬ x < 0) (c4 : sp.toNatClampNeg + x.toNatClampNeg ≤ n0) (c5 : dp.toNatClampNeg + x.toNatClampNeg ≤ n1)
    (K : AW μ G (pc + 3) ls st (hset h a1 (.inl (2, n1, .inr (.inl (va_cpy f g sp.toNatClampNeg dp.toNatClampNeg x.toNatClampNeg))))) k n) : AW μ G pc ls (.int x :: .int dp :: .ref a1 :: .int sp :: .ref a0 :: st) h k n := by
  intro l D dA p e s m args below meth c ρ0 ρ H locs lsr C S L
  obtain ⟨hfx, hP, hD, hS⟩ := S
  have hG := C.2.2.2.2.2.1
  refine va_copyl (tys := aTy dA) (ty := .long) C.1 C.2.1 (C.2.2.2.1.trans L.1.symm) C.2.2.2.2.1 (hG _ (gT_mem hw rfl)) (hG _ (gT_mem cpW.1 rfl)) (hG _ (gT_mem cpW.2.1 rfl)) (hG _ (gT_mem cpW.2.2 rfl)) C.2.2.2.2.2.2.2.2.1 hP hD hS a0 a1 2 2 (rws_get0 (jget_spec h0)) (rws_get0 (jget_spec h1)) rfl rfl rfl c1 c2 c3 c4 c5 (fun _ _ => rfl) hg ?_ hd fun H1 locs1 b1 b2 b3 => ?_
  · rw [map_cat, cpw7]
    show _ ≤ 100 * gD G
    omega
  · refine K l D dA p e s m args below meth c ρ0 ρ H1 locs1 lsr C ⟨hfx, ?_, ?_, b3⟩ L
    · rw [rws_set, Nat.zero_add]; exact b1
    · rw [rws_set, Nat.zero_add]; exact b2
def nmRaw : MethodName := ⟨"java/lang/Float", "floatToRawIntBits", "(F)I"⟩
theorem rwW : Cond.native nmRaw ∈ lw_tbl ∧ Cond.static nmRaw ∈ lw_tbl ∧ Cond.initialized "java/lang/Float" ∈ lw_tbl := by decide +kernel
theorem aw_raw {idx : Nat} {b : UInt32} (hd : decode (mB μ) pc = .ok (.invokestatic idx, 3)) (hw : Cond.methodLink (mY μ).cls idx nmRaw ∈ lw_tbl) (hg : 1 ≤ gD G) (hs : (st.map fun v => v.category).sum ≤ 8) (K : AW μ G (pc + 3) ls (.int b.toInt32 :: st) h k n) : AW μ G pc ls (.float b :: st) h k n := by
  intro l D dA p e s m args below meth c ρ0 ρ H locs lsr C S L
  have hG := C.2.2.2.2.2.1
  refine vn_f2i C.1 C.2.1 (C.2.2.2.1.trans L.1.symm) C.2.2.2.2.1 (hG _ (gT_mem hw rfl)) (hG _ (gT_mem rwW.1 rfl)) (hG _ (gT_mem rwW.2.1 rfl)) (hG _ (gT_mem rwW.2.2 rfl)) hg ?_ hd (K l D dA p e s m args below meth c ρ0 ρ H locs lsr C S L)
  rw [map_cat]
  show _ ≤ 100 * gD G
  omega
end AWE
/-! contracts -/
/-- method μ, at the values av over the cells h: it comes to its end within depth d, makes mc cells of ms slots at most, and Post holds; the names that mv tells may stand for other cells then -/
def aSp (d μ : Nat) (av : List Value) (h : aH) (mv : Nat → Bool) (mc ms : Nat) (Post : Option Value → aH → Prop) : Prop :=
  ∀ (l : Launch) (D : va_G) (dA : Nat → ClassId) (ρ0 : Nat → Nat) (sz : Nat), Met l (mY μ) (mW μ) (aRm d mc ms) (va_Pc (av.map (trv ρ0)) (fun U => U.heap.size = sz ∧ va_P D aCl (rws dA ρ0 0 h) U.heap ∧ va_K D aCl (aTy dA) U ∧ va_D (fun _ => True) (rws dA ρ0 0 h) ∧ ∀ w ∈ nT, va_Nw w U)) (aQc (d, h.length, mv, mc, ms, Post) D dA ρ0) mc ms (AA ρ0 h.length sz)
theorem Met.ofWF {l : Launch} {y : MethodName} {ws ws' : List Cond} {rm : Room} {Pc : Array Value → State → Prop} {Qc : Array Value → State → Outcome → State → Prop} {mc ms : Nat} {free : Addr → Prop} {cc : ByteArray} {maxL : Nat} {ret : Option FieldType}
    (hy : plainFor y = true) (hw : ws = Cond.code y cc maxL ret :: ws')
    (body : ∀ p e s m args below meth c s₁, BodyLoose p l y (headSpec ws rm) cc maxL ret e s m args below meth c s₁ → c.maxLocals = maxL → Pc args s →
      W p l e (headSpec ws rm).room s m args below meth c s.heap [] 0 0 (MQ below Qc args s mc ms free) (entryFrame m args maxL)) : Met l y ws rm Pc Qc mc ms free := by
  refine MetFree.of_bodySF (code := cc) (maxLocals := maxL) (ret := ret) hy ?_ ?_
  · intro args s m h hn
    obtain ⟨meth, c, h1, h2, h3, h4, h5, h6, -, -⟩ := Cond.code_spec hn (atoms_spec (ws := ws) h _ (by rw [hw]; exact List.mem_cons_self))
    exact ⟨meth, c, h1, h2, h3, h4, h5, h6⟩
  · intro p e s m args below meth c s₁ B hml hP _
    have hh0 : s₁.heap = s.heap := by rw [B.state]; rfl
    obtain ⟨t, a1, o, b1, b2, b3⟩ := body p e s m args below meth c s₁ B hml hP s₁ hh0 (Stand.of_body B)
    exact ⟨t, o, a1, b1, b2, ⟨b3.1, b3.2⟩⟩
theorem lg_len (ρ : Nat → Nat) (av : List Value) : (lg_sl (av.map (trv ρ))).length = (lg_sl av).length := by
  induction av with
  | nil => rfl
  | cons v l ih =>
    simp only [lg_sl, List.map_cons, List.flatMap_cons, List.length_append, trv_cat] at ih ⊢
    rw [ih]
    split <;> rfl
theorem mLen : mTab.length = mN := by decide +kernel
theorem mI_get {μ : Nat} (h : μ < mN) : mTab[μ]? = some (mI μ) := by
  have h1 : mTab[μ]? = some (mTab[μ]'(by rw [mLen]; exact h)) := List.getElem?_eq_getElem _
  unfold mI
  rw [List.getD_eq_getElem?_getD, h1]
  rfl
theorem mCode_mem {μ : Nat} (h : μ < mN) : Cond.code (mY μ) (mB μ) (mL μ) (mR μ) ∈ lw_tbl := by
  have h1 := congrArg (fun l : List (Option Cond) => l[μ]?) mCode
  simp only [List.getElem?_map, mI_get h, Option.map_some, Option.some.injEq] at h1
  exact List.mem_of_getElem? h1
theorem mTab_ok {μ : Nat} (h : μ < mN) : plainFor (mY μ) = true ∧ ((mY μ).cls ≠ "java/lang/invoke/MethodHandle" ∧ (mY μ).cls ≠ "java/lang/invoke/VarHandle") ∧ Cond.initialized (mY μ).cls ∈ lw_tbl ∧ mL μ ≤ 80 ∧ (parseMethodDescriptor (mY μ).desc).map (fun d => d.parameters.length) = some (mP μ) ∧ mK μ < 16 ∧ cN (mK μ) = (mY μ).cls := by
  have h1 := List.all_eq_true.mp mOk _ (List.mem_of_getElem? (mI_get h))
  simp only [mOkB, Bool.and_eq_true, Bool.or_eq_true, Bool.not_eq_true', beq_iff_eq, beq_eq_false_iff_ne, decide_eq_true_eq, List.contains_iff_mem] at h1
  obtain ⟨⟨⟨⟨⟨⟨⟨h2, h3⟩, h4⟩, h5⟩, h6⟩, h7⟩, h8⟩, h9⟩ := h1
  refine ⟨?_, ⟨h3, h4⟩, h5, h6, h7, h8, h9⟩
  rcases h2 with (((h2 | h2) | h2) | h2) | h2
  · exact plainFor_of_name h2
  · show plainFor (mI μ).1 = true
    rw [h2]; exact pfMin
  · show plainFor (mI μ).1 = true
    rw [h2]; exact pfMax
  · show plainFor (mI μ).1 = true
    rw [h2]; exact pfF2I
  · show plainFor (mI μ).1 = true
    rw [h2]; exact pfNaN
theorem sp_of {d μ : Nat} {av : List Value} {h : aH} {mv : Nat → Bool} {mc ms : Nat} {Post : Option Value → aH → Prop} (hμ : μ < mN) (hl : (lg_sl av).length ≤ mL μ) (K : AW μ (d, h.length, mv, mc, ms, Post) 0 (eL av (mL μ)) [] h 0 0) : aSp d μ av h mv mc ms Post := by
  intro l D dA ρ0 sz
  refine Met.ofWF (cc := mB μ) (maxL := mL μ) (ret := mR μ) (mTab_ok hμ).1 rfl ?_
  intro p e s m args below meth c s₁ B hml hv
  obtain ⟨rfl, hsz, hP, hK, hD0, hN⟩ := hv
  subst hsz
  have hts := atoms_spec (ws := mW μ) B.pre
  have hown : s.vm.findClass (mY μ).cls = some m.cls := findClass_of_methodNamed B.named
  have hin : meth.name = (mY μ).name := (name_of_methodNamed B.named B.method).1
  have hD : va_D (AA ρ0 h.length s.heap.size) (rws dA ρ0 0 h) := ⟨hD0.1, fun k q hk => by
    obtain ⟨c0, h1, rfl⟩ := rws_of hk
    exact Or.inl ⟨k, hget_lt h1, rfl⟩⟩
  have hl2 := lv_entry (av.map (trv ρ0)) (n := mL μ) (by rw [lg_len]; exact hl)
  rw [lg_entry_eq]
  exact K l D dA p e s m _ below meth c ρ0 ρ0 s.heap [] _ ⟨B.exec, B.bytes, B.returns, hml, hown, fun w hw => hts w (List.mem_cons_of_mem _ hw), hN, B.notSynchronized, hK, hin⟩ ⟨fun _ _ _ => rfl, hP, hD, va_S.rf⟩ (lv_mono hl2 fun q hq => eL_sub ρ0 av (mL μ) 0 q hq)
theorem sp_weaken {d μ : Nat} {av : List Value} {h : aH} {mv : Nat → Bool} {mc ms : Nat} {Post Post' : Option Value → aH → Prop} (hs : aSp d μ av h mv mc ms Post) (hp : ∀ r h', Post r h' → Post' r h') : aSp d μ av h mv mc ms Post' := by
  intro l D dA ρ0 sz
  refine MetFree.mono (hs l D dA ρ0 sz) (fun _ _ q => q) (fun _ _ _ _ _ q => q) ?_
  rintro a s o t - ⟨⟨⟨r, h', ρ', q1, q2, q3⟩, q4⟩, q5⟩
  exact ⟨⟨⟨r, h', ρ', q1, hp r h' q2, q3⟩, q4⟩, q5⟩
