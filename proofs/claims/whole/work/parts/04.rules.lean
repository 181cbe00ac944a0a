/-! ===== AW: from this point the method comes to its end, over every heap that holds these cells ===== -/
def AA (ρ0 : Nat → Nat) (n0 sz : Nat) : Nat → Prop := fun q => (∃ j, j < n0 ∧ ρ0 j = q) ∨ sz ≤ q
def aRm (d mc ms : Nat) : Room := { frames := d, cells := mc, slots := ms, locals := 100 * d }
/-- depth, number of cells at the entry, which of them may move, cells and slots made in all, what holds at the end -/
abbrev aG : Type := Nat × Nat × (Nat → Bool) × Nat × Nat × (Option Value → aH → Prop)
abbrev gD (G : aG) : Nat := G.1
abbrev gN (G : aG) : Nat := G.2.1
abbrev gM (G : aG) : Nat → Bool := G.2.2.1
abbrev gC (G : aG) : Nat := G.2.2.2.1
abbrev gS (G : aG) : Nat := G.2.2.2.2.1
abbrev gP (G : aG) : Option Value → aH → Prop := G.2.2.2.2.2
def aTy (dA : Nat → ClassId) : List (ClassId × FieldType) := [(dA 0, .byte), (dA 1, .int), (dA 2, .long), (dA 3, .object "ResidualJudge$Machine"), (dA 4, .object "ResidualJudge$Scene")]
def isNw : Cond → Bool
  | .fieldLinkNest .. => true
  | .methodLinkNest .. => true
  | .arrayOver (.object _) => true
  | _ => false
def gT : List Cond := lw_tbl.filter goodWord
def nT : List Cond := lw_tbl.filter isNw
theorem nT_warm {s U : State} (hW : s.WarmedH U.vm) (h : ∀ w ∈ nT, va_Nw w s) : ∀ w ∈ nT, va_Nw w U := by
  intro w hw
  have h1 := h w hw
  have h2 := (List.mem_filter.mp hw).2
  cases w with
  | fieldLinkNest a i b n d x => exact va_Nw.warmF hW h1
  | methodLinkNest a i b x => exact va_Nw.warmM hW h1
  | arrayOver ty =>
    cases ty with
    | object C => exact va_AO.moved hW.alike h1
    | _ => simp [isNw] at h2
  | _ => simp [isNw] at h2
def aCtx (D : va_G) (dA : Nat → ClassId) (μ : Nat) (p : Program) (s : State) (m : MethodId) (args : Array Value) (meth : Method) (c : Code) : Prop :=
  p.tables.exec = Jvm.exec ∧ c.code = mB μ ∧ meth.sig.returnType = mR μ ∧ c.maxLocals = mL μ ∧ s.vm.findClass (mY μ).cls = some m.cls ∧ (∀ w ∈ gT, w.before args s = true) ∧ (∀ w ∈ nT, va_Nw w s) ∧ meth.locks = false ∧ va_K D aCl (aTy dA) s ∧ meth.name = (mY μ).name
def aFx (G : aG) (ρ0 ρ : Nat → Nat) : Prop := ∀ j, j < gN G → gM G j = false → ρ j = ρ0 j
def aSt (G : aG) (D : va_G) (dA : Nat → ClassId) (s : State) (ρ0 ρ : Nat → Nat) (h : aH) (H : Heap) (locs : List Loc) : Prop :=
  aFx G ρ0 ρ ∧ va_P D aCl (rws dA ρ 0 h) H ∧ va_D (AA ρ0 (gN G) s.heap.size) (rws dA ρ 0 h) ∧ va_S (AA ρ0 (gN G) s.heap.size) s.heap H locs
def aQc (G : aG) (D : va_G) (dA : Nat → ClassId) (ρ0 : Nat → Nat) : Array Value → State → Outcome → State → Prop := fun _ st oc t =>
  (∃ (r : Option Value) (h' : aH) (ρ' : Nat → Nat), oc = .returned (r.map (trv ρ')) ∧ gP G r h' ∧ aFx G ρ0 ρ' ∧ va_P D aCl (rws dA ρ' 0 h') t.heap ∧ va_K D aCl (aTy dA) t ∧ va_D (AA ρ0 (gN G) st.heap.size) (rws dA ρ' 0 h')) ∧ va_F (AA ρ0 (gN G) st.heap.size) st t
def AW (μ : Nat) (G : aG) (pc : Nat) (ls : aL) (st : List Value) (h : aH) (k n : Nat) : Prop :=
  ∀ (l : Launch) (D : va_G) (dA : Nat → ClassId) (p : Program) (e : Env) (s : State) (m : MethodId) (args : Array Value) (below : List Frame) (meth : Method) (c : Code) (ρ0 ρ : Nat → Nat) (H : Heap) (locs : List Loc) (lsr : Array Slot),
    aCtx D dA μ p s m args meth c → aSt G D dA s ρ0 ρ h H locs → lv_has lsr (mL μ) (lpr ρ 0 ls) →
    W p l e (aRm (gD G) (gC G) (gS G)) s m args below meth c H locs k n (MQ below (aQc G D dA ρ0) args s (gC G) (gS G) (AA ρ0 (gN G) s.heap.size)) (F0 m pc lsr (st.map (trv ρ)))
section AWR
variable {μ : Nat} {G : aG} {pc : Nat} {ls : aL} {st : List Value} {h : aH} {k n : Nat}
theorem aw_iconst {x : Int} {v : Int32} (hd : decode (mB μ) pc = .ok (.iconst x, 1)) (hv : Int32.ofInt x = v) (K : AW μ G (pc + 1) ls (.int v :: st) h k n) : AW μ G pc ls (st) h k n := by
  intro l D dA p e s m args below meth c ρ0 ρ H locs lsr C S L
  exact lv_iconst C.1 C.2.1 hd hv (K l D dA p e s m args below meth c ρ0 ρ H locs lsr C S L)
theorem aw_bipush {x : Int} {v : Int32} (hd : decode (mB μ) pc = .ok (.bipush x, 2)) (hv : (Int8.ofInt x).toInt32 = v) (K : AW μ G (pc + 2) ls (.int v :: st) h k n) : AW μ G pc ls (st) h k n := by
  intro l D dA p e s m args below meth c ρ0 ρ H locs lsr C S L
  exact lv_bipush C.1 C.2.1 hd hv (K l D dA p e s m args below meth c ρ0 ρ H locs lsr C S L)
theorem aw_sipush {x : Int} {v : Int32} (hd : decode (mB μ) pc = .ok (.sipush x, 3)) (hv : (Int16.ofInt x).toInt32 = v) (K : AW μ G (pc + 3) ls (.int v :: st) h k n) : AW μ G pc ls (st) h k n := by
  intro l D dA p e s m args below meth c ρ0 ρ H locs lsr C S L
  exact lv_sipush C.1 C.2.1 hd hv (K l D dA p e s m args below meth c ρ0 ρ H locs lsr C S L)
theorem aw_lconst {x : Fin 2} {v : Int64} (hd : decode (mB μ) pc = .ok (.lconst x, 1)) (hv : Int64.ofNat (x : Nat) = v) (K : AW μ G (pc + 1) ls (.long v :: st) h k n) : AW μ G pc ls (st) h k n := by
  intro l D dA p e s m args below meth c ρ0 ρ H locs lsr C S L
  exact lv_lconst C.1 C.2.1 hd hv (K l D dA p e s m args below meth c ρ0 ρ H locs lsr C S L)
theorem aw_fconst0  (hd : decode (mB μ) pc = .ok (.fconst 0, 1)) (K : AW μ G (pc + 1) ls (.float FP.fconst0 :: st) h k n) : AW μ G pc ls (st) h k n := by
  intro l D dA p e s m args below meth c ρ0 ρ H locs lsr C S L
  exact lv_fconst0 C.1 C.2.1 hd (K l D dA p e s m args below meth c ρ0 ρ H locs lsr C S L)
theorem aw_fconst1  (hd : decode (mB μ) pc = .ok (.fconst 1, 1)) (K : AW μ G (pc + 1) ls (.float FP.fconst1 :: st) h k n) : AW μ G pc ls (st) h k n := by
  intro l D dA p e s m args below meth c ρ0 ρ H locs lsr C S L
  exact lv_fconst1 C.1 C.2.1 hd (K l D dA p e s m args below meth c ρ0 ρ H locs lsr C S L)
theorem aw_fconst2  (hd : decode (mB μ) pc = .ok (.fconst 2, 1)) (K : AW μ G (pc + 1) ls (.float FP.fconst2 :: st) h k n) : AW μ G pc ls (st) h k n := by
  intro l D dA p e s m args below meth c ρ0 ρ H locs lsr C S L
  exact lv_fconst2 C.1 C.2.1 hd (K l D dA p e s m args below meth c ρ0 ρ H locs lsr C S L)
theorem aw_iadd {x y : Int32} (hd : decode (mB μ) pc = .ok (.iadd, 1)) (K : AW μ G (pc + 1) ls (.int (x + y) :: st) h k n) : AW μ G pc ls (.int y :: .int x :: st) h k n := by
  intro l D dA p e s m args below meth c ρ0 ρ H locs lsr C S L
  exact lv_iadd C.1 C.2.1 hd (K l D dA p e s m args below meth c ρ0 ρ H locs lsr C S L)
theorem aw_isub {x y : Int32} (hd : decode (mB μ) pc = .ok (.isub, 1)) (K : AW μ G (pc + 1) ls (.int (x - y) :: st) h k n) : AW μ G pc ls (.int y :: .int x :: st) h k n := by
  intro l D dA p e s m args below meth c ρ0 ρ H locs lsr C S L
  exact lv_isub C.1 C.2.1 hd (K l D dA p e s m args below meth c ρ0 ρ H locs lsr C S L)
theorem aw_imul {x y : Int32} (hd : decode (mB μ) pc = .ok (.imul, 1)) (K : AW μ G (pc + 1) ls (.int (x * y) :: st) h k n) : AW μ G pc ls (.int y :: .int x :: st) h k n := by
  intro l D dA p e s m args below meth c ρ0 ρ H locs lsr C S L
  exact lv_imul C.1 C.2.1 hd (K l D dA p e s m args below meth c ρ0 ρ H locs lsr C S L)
theorem aw_iand {x y : Int32} (hd : decode (mB μ) pc = .ok (.iand, 1)) (K : AW μ G (pc + 1) ls (.int (x &&& y) :: st) h k n) : AW μ G pc ls (.int y :: .int x :: st) h k n := by
  intro l D dA p e s m args below meth c ρ0 ρ H locs lsr C S L
  exact lv_iand C.1 C.2.1 hd (K l D dA p e s m args below meth c ρ0 ρ H locs lsr C S L)
theorem aw_ior {x y : Int32} (hd : decode (mB μ) pc = .ok (.ior, 1)) (K : AW μ G (pc + 1) ls (.int (x ||| y) :: st) h k n) : AW μ G pc ls (.int y :: .int x :: st) h k n := by
  intro l D dA p e s m args below meth c ρ0 ρ H locs lsr C S L
  exact lv_ior C.1 C.2.1 hd (K l D dA p e s m args below meth c ρ0 ρ H locs lsr C S L)
theorem aw_ixor {x y : Int32} (hd : decode (mB μ) pc = .ok (.ixor, 1)) (K : AW μ G (pc + 1) ls (.int (x ^^^ y) :: st) h k n) : AW μ G pc ls (.int y :: .int x :: st) h k n := by
  intro l D dA p e s m args below meth c ρ0 ρ H locs lsr C S L
  exact lv_ixor C.1 C.2.1 hd (K l D dA p e s m args below meth c ρ0 ρ H locs lsr C S L)
theorem aw_ishl {x y : Int32} (hd : decode (mB μ) pc = .ok (.ishl, 1)) (K : AW μ G (pc + 1) ls (.int (x <<< (y &&& 31)) :: st) h k n) : AW μ G pc ls (.int y :: .int x :: st) h k n := by
  intro l D dA p e s m args below meth c ρ0 ρ H locs lsr C S L
  exact lv_ishl C.1 C.2.1 hd (K l D dA p e s m args below meth c ρ0 ρ H locs lsr C S L)
theorem aw_ishr {x y : Int32} (hd : decode (mB μ) pc = .ok (.ishr, 1)) (K : AW μ G (pc + 1) ls (.int (x >>> (y &&& 31)) :: st) h k n) : AW μ G pc ls (.int y :: .int x :: st) h k n := by
  intro l D dA p e s m args below meth c ρ0 ρ H locs lsr C S L
  exact lv_ishr C.1 C.2.1 hd (K l D dA p e s m args below meth c ρ0 ρ H locs lsr C S L)
theorem aw_idiv {x y : Int32} (hd : decode (mB μ) pc = .ok (.idiv, 1)) (hne : ¬ y = 0) (K : AW μ G (pc + 1) ls (.int (x / y) :: st) h k n) : AW μ G pc ls (.int y :: .int x :: st) h k n := by
  intro l D dA p e s m args below meth c ρ0 ρ H locs lsr C S L
  exact lv_idiv C.1 C.2.1 hd hne (K l D dA p e s m args below meth c ρ0 ρ H locs lsr C S L)
theorem aw_irem {x y : Int32} (hd : decode (mB μ) pc = .ok (.irem, 1)) (hne : ¬ y = 0) (K : AW μ G (pc + 1) ls (.int (x - x / y * y) :: st) h k n) : AW μ G pc ls (.int y :: .int x :: st) h k n := by
  intro l D dA p e s m args below meth c ρ0 ρ H locs lsr C S L
  exact lv_irem C.1 C.2.1 hd hne (K l D dA p e s m args below meth c ρ0 ρ H locs lsr C S L)
theorem aw_iushr {x y : Int32} (hd : decode (mB μ) pc = .ok (.iushr, 1)) (K : AW μ G (pc + 1) ls (.int (x.toUInt32 >>> (y.toUInt32 &&& Int32.toUInt32 31)).toInt32 :: st) h k n) : AW μ G pc ls (.int y :: .int x :: st) h k n := by
  intro l D dA p e s m args below meth c ρ0 ρ H locs lsr C S L
  exact lv_iushr C.1 C.2.1 hd rfl (K l D dA p e s m args below meth c ρ0 ρ H locs lsr C S L)
theorem aw_ladd {x y : Int64} (hd : decode (mB μ) pc = .ok (.ladd, 1)) (K : AW μ G (pc + 1) ls (.long (x + y) :: st) h k n) : AW μ G pc ls (.long y :: .long x :: st) h k n := by
  intro l D dA p e s m args below meth c ρ0 ρ H locs lsr C S L
  exact lv_ladd C.1 C.2.1 hd (K l D dA p e s m args below meth c ρ0 ρ H locs lsr C S L)
theorem aw_lsub {x y : Int64} (hd : decode (mB μ) pc = .ok (.lsub, 1)) (K : AW μ G (pc + 1) ls (.long (x - y) :: st) h k n) : AW μ G pc ls (.long y :: .long x :: st) h k n := by
  intro l D dA p e s m args below meth c ρ0 ρ H locs lsr C S L
  exact lv_lsub C.1 C.2.1 hd (K l D dA p e s m args below meth c ρ0 ρ H locs lsr C S L)
theorem aw_lmul {x y : Int64} (hd : decode (mB μ) pc = .ok (.lmul, 1)) (K : AW μ G (pc + 1) ls (.long (x * y) :: st) h k n) : AW μ G pc ls (.long y :: .long x :: st) h k n := by
  intro l D dA p e s m args below meth c ρ0 ρ H locs lsr C S L
  exact lv_lmul C.1 C.2.1 hd (K l D dA p e s m args below meth c ρ0 ρ H locs lsr C S L)
theorem aw_land {x y : Int64} (hd : decode (mB μ) pc = .ok (.land, 1)) (K : AW μ G (pc + 1) ls (.long (x &&& y) :: st) h k n) : AW μ G pc ls (.long y :: .long x :: st) h k n := by
  intro l D dA p e s m args below meth c ρ0 ρ H locs lsr C S L
  exact lv_land C.1 C.2.1 hd (K l D dA p e s m args below meth c ρ0 ρ H locs lsr C S L)
theorem aw_lor {x y : Int64} (hd : decode (mB μ) pc = .ok (.lor, 1)) (K : AW μ G (pc + 1) ls (.long (x ||| y) :: st) h k n) : AW μ G pc ls (.long y :: .long x :: st) h k n := by
  intro l D dA p e s m args below meth c ρ0 ρ H locs lsr C S L
  exact lv_lor C.1 C.2.1 hd (K l D dA p e s m args below meth c ρ0 ρ H locs lsr C S L)
theorem aw_lxor {x y : Int64} (hd : decode (mB μ) pc = .ok (.lxor, 1)) (K : AW μ G (pc + 1) ls (.long (x ^^^ y) :: st) h k n) : AW μ G pc ls (.long y :: .long x :: st) h k n := by
  intro l D dA p e s m args below meth c ρ0 ρ H locs lsr C S L
  exact lv_lxor C.1 C.2.1 hd (K l D dA p e s m args below meth c ρ0 ρ H locs lsr C S L)
theorem aw_lneg {x : Int64} (hd : decode (mB μ) pc = .ok (.lneg, 1)) (K : AW μ G (pc + 1) ls (.long (-x) :: st) h k n) : AW μ G pc ls (.long x :: st) h k n := by
  intro l D dA p e s m args below meth c ρ0 ρ H locs lsr C S L
  exact lv_lneg C.1 C.2.1 hd (K l D dA p e s m args below meth c ρ0 ρ H locs lsr C S L)
theorem aw_lushr {x : Int64} {y : Int32} (hd : decode (mB μ) pc = .ok (.lushr, 1)) (K : AW μ G (pc + 1) ls (.long (x.toUInt64 >>> (y.toInt64.toUInt64 &&& Int64.toUInt64 63)).toInt64 :: st) h k n) : AW μ G pc ls (.int y :: .long x :: st) h k n := by
  intro l D dA p e s m args below meth c ρ0 ρ H locs lsr C S L
  exact lv_lushr C.1 C.2.1 hd rfl (K l D dA p e s m args below meth c ρ0 ρ H locs lsr C S L)
theorem aw_lshl {x : Int64} {y : Int32} (hd : decode (mB μ) pc = .ok (.lshl, 1)) (K : AW μ G (pc + 1) ls (.long (x <<< (y.toInt64 &&& 63)) :: st) h k n) : AW μ G pc ls (.int y :: .long x :: st) h k n := by
  intro l D dA p e s m args below meth c ρ0 ρ H locs lsr C S L
  exact lv_lshl C.1 C.2.1 hd rfl (K l D dA p e s m args below meth c ρ0 ρ H locs lsr C S L)
theorem aw_lcmp {x y : Int64} (hd : decode (mB μ) pc = .ok (.lcmp, 1)) (K : AW μ G (pc + 1) ls (.int (lg_cmp x y) :: st) h k n) : AW μ G pc ls (.long y :: .long x :: st) h k n := by
  intro l D dA p e s m args below meth c ρ0 ρ H locs lsr C S L
  exact W.lcmp C.1 C.2.1 hd (K l D dA p e s m args below meth c ρ0 ρ H locs lsr C S L)
theorem aw_i2l {x : Int32} (hd : decode (mB μ) pc = .ok (.i2l, 1)) (K : AW μ G (pc + 1) ls (.long x.toInt64 :: st) h k n) : AW μ G pc ls (.int x :: st) h k n := by
  intro l D dA p e s m args below meth c ρ0 ρ H locs lsr C S L
  exact lv_i2l C.1 C.2.1 hd rfl (K l D dA p e s m args below meth c ρ0 ρ H locs lsr C S L)
theorem aw_l2i {x : Int64} (hd : decode (mB μ) pc = .ok (.l2i, 1)) (K : AW μ G (pc + 1) ls (.int x.toInt32 :: st) h k n) : AW μ G pc ls (.long x :: st) h k n := by
  intro l D dA p e s m args below meth c ρ0 ρ H locs lsr C S L
  exact lv_l2i C.1 C.2.1 hd rfl (K l D dA p e s m args below meth c ρ0 ρ H locs lsr C S L)
theorem aw_i2b {x : Int32} (hd : decode (mB μ) pc = .ok (.i2b, 1)) (K : AW μ G (pc + 1) ls (.int x.toInt8.toInt32 :: st) h k n) : AW μ G pc ls (.int x :: st) h k n := by
  intro l D dA p e s m args below meth c ρ0 ρ H locs lsr C S L
  exact lv_i2b C.1 C.2.1 hd rfl (K l D dA p e s m args below meth c ρ0 ρ H locs lsr C S L)
theorem aw_i2f {x : Int32} (hd : decode (mB μ) pc = .ok (.i2f, 1)) (K : AW μ G (pc + 1) ls (.float (FP.i2f x) :: st) h k n) : AW μ G pc ls (.int x :: st) h k n := by
  intro l D dA p e s m args below meth c ρ0 ρ H locs lsr C S L
  exact lv_i2f C.1 C.2.1 hd (K l D dA p e s m args below meth c ρ0 ρ H locs lsr C S L)
theorem aw_f2i {x : UInt32} (hd : decode (mB μ) pc = .ok (.f2i, 1)) (K : AW μ G (pc + 1) ls (.int (FP.f2i x) :: st) h k n) : AW μ G pc ls (.float x :: st) h k n := by
  intro l D dA p e s m args below meth c ρ0 ρ H locs lsr C S L
  exact lv_f2i C.1 C.2.1 hd (K l D dA p e s m args below meth c ρ0 ρ H locs lsr C S L)
theorem aw_fsub {x y : UInt32} (hd : decode (mB μ) pc = .ok (.fsub, 1)) (hne : vf_n32 (FP.fsub x y)) (K : AW μ G (pc + 1) ls (.float (FP.fsub x y) :: st) h k n) : AW μ G pc ls (.float y :: .float x :: st) h k n := by
  intro l D dA p e s m args below meth c ρ0 ρ H locs lsr C S L
  exact lv_fsub C.1 C.2.1 hd hne (K l D dA p e s m args below meth c ρ0 ρ H locs lsr C S L)
theorem aw_fmul {x y : UInt32} (hd : decode (mB μ) pc = .ok (.fmul, 1)) (hne : vf_n32 (FP.fmul x y)) (K : AW μ G (pc + 1) ls (.float (FP.fmul x y) :: st) h k n) : AW μ G pc ls (.float y :: .float x :: st) h k n := by
  intro l D dA p e s m args below meth c ρ0 ρ H locs lsr C S L
  exact lv_fmul C.1 C.2.1 hd hne (K l D dA p e s m args below meth c ρ0 ρ H locs lsr C S L)
theorem aw_fdiv {x y : UInt32} (hd : decode (mB μ) pc = .ok (.fdiv, 1)) (hne : vf_n32 (FP.fdiv x y)) (K : AW μ G (pc + 1) ls (.float (FP.fdiv x y) :: st) h k n) : AW μ G pc ls (.float y :: .float x :: st) h k n := by
  intro l D dA p e s m args below meth c ρ0 ρ H locs lsr C S L
  exact lv_fdiv C.1 C.2.1 hd hne (K l D dA p e s m args below meth c ρ0 ρ H locs lsr C S L)
theorem aw_fcmp {x y : UInt32} {op : CmpOp} (hd : decode (mB μ) pc = .ok (.fcmp op, 1)) (K : AW μ G (pc + 1) ls (.int (Op.cmpValue (FP.fcmp x y) op) :: st) h k n) : AW μ G pc ls (.float y :: .float x :: st) h k n := by
  intro l D dA p e s m args below meth c ρ0 ρ H locs lsr C S L
  exact lv_fcmp C.1 C.2.1 hd (K l D dA p e s m args below meth c ρ0 ρ H locs lsr C S L)
theorem aw_dup {v : Value} (hd : decode (mB μ) pc = .ok (.dup, 1)) (hv : v.category = 1) (K : AW μ G (pc + 1) ls (v :: v :: st) h k n) : AW μ G pc ls (v :: st) h k n := by
  intro l D dA p e s m args below meth c ρ0 ρ H locs lsr C S L
  exact lv_dup C.1 C.2.1 hd ((trv_cat ρ v).trans hv) (K l D dA p e s m args below meth c ρ0 ρ H locs lsr C S L)
theorem aw_pop {v : Value} (hd : decode (mB μ) pc = .ok (.pop, 1)) (hv : v.category = 1) (K : AW μ G (pc + 1) ls (st) h k n) : AW μ G pc ls (v :: st) h k n := by
  intro l D dA p e s m args below meth c ρ0 ρ H locs lsr C S L
  exact lv_pop C.1 C.2.1 hd ((trv_cat ρ v).trans hv) (K l D dA p e s m args below meth c ρ0 ρ H locs lsr C S L)
theorem aw_dup2 {v w : Value} (hd : decode (mB μ) pc = .ok (.dup2, 1)) (hv : v.category = 1) (hw : w.category = 1) (K : AW μ G (pc + 1) ls (v :: w :: v :: w :: st) h k n) : AW μ G pc ls (v :: w :: st) h k n := by
  intro l D dA p e s m args below meth c ρ0 ρ H locs lsr C S L
  exact lv_dup2_11 C.1 C.2.1 hd ((trv_cat ρ v).trans hv) ((trv_cat ρ w).trans hw) (K l D dA p e s m args below meth c ρ0 ρ H locs lsr C S L)
theorem aw_iload_n {i : Fin 4} {x : Int32} (hd : decode (mB μ) pc = .ok (.iload_n i, 1)) (hl : lget ls i = some (.int x)) (K : AW μ G (pc + 1) ls (.int x :: st) h k n) : AW μ G pc ls st h k n := by
  intro l D dA p e s m args below meth c ρ0 ρ H locs lsr C S L
  exact lv_iload_n C.1 C.2.1 hd rfl (lv_of L hl) (K l D dA p e s m args below meth c ρ0 ρ H locs lsr C S L)
theorem aw_iload {i : Nat} {x : Int32} (hd : decode (mB μ) pc = .ok (.iload i, 2)) (hl : lget ls i = some (.int x)) (K : AW μ G (pc + 2) ls (.int x :: st) h k n) : AW μ G pc ls st h k n := by
  intro l D dA p e s m args below meth c ρ0 ρ H locs lsr C S L
  exact lv_iload C.1 C.2.1 hd (lv_of L hl) (K l D dA p e s m args below meth c ρ0 ρ H locs lsr C S L)
theorem aw_lload_n {i : Fin 4} {x : Int64} (hd : decode (mB μ) pc = .ok (.lload_n i, 1)) (hl : lget ls i = some (.long x)) (K : AW μ G (pc + 1) ls (.long x :: st) h k n) : AW μ G pc ls st h k n := by
  intro l D dA p e s m args below meth c ρ0 ρ H locs lsr C S L
  exact lv_lload_n C.1 C.2.1 hd rfl (lv_of L hl) (K l D dA p e s m args below meth c ρ0 ρ H locs lsr C S L)
theorem aw_lload {i : Nat} {x : Int64} (hd : decode (mB μ) pc = .ok (.lload i, 2)) (hl : lget ls i = some (.long x)) (K : AW μ G (pc + 2) ls (.long x :: st) h k n) : AW μ G pc ls st h k n := by
  intro l D dA p e s m args below meth c ρ0 ρ H locs lsr C S L
  exact lv_lload C.1 C.2.1 hd (lv_of L hl) (K l D dA p e s m args below meth c ρ0 ρ H locs lsr C S L)
theorem aw_fload_n {i : Fin 4} {x : UInt32} (hd : decode (mB μ) pc = .ok (.fload_n i, 1)) (hl : lget ls i = some (.float x)) (K : AW μ G (pc + 1) ls (.float x :: st) h k n) : AW μ G pc ls st h k n := by
  intro l D dA p e s m args below meth c ρ0 ρ H locs lsr C S L
  exact lv_fload_n C.1 C.2.1 hd rfl (lv_of L hl) (K l D dA p e s m args below meth c ρ0 ρ H locs lsr C S L)
theorem aw_fload {i : Nat} {x : UInt32} (hd : decode (mB μ) pc = .ok (.fload i, 2)) (hl : lget ls i = some (.float x)) (K : AW μ G (pc + 2) ls (.float x :: st) h k n) : AW μ G pc ls st h k n := by
  intro l D dA p e s m args below meth c ρ0 ρ H locs lsr C S L
  exact lv_fload C.1 C.2.1 hd (lv_of L hl) (K l D dA p e s m args below meth c ρ0 ρ H locs lsr C S L)
theorem aw_aload_n {i : Fin 4} {a : Nat} (hd : decode (mB μ) pc = .ok (.aload_n i, 1)) (hl : lget ls i = some (.ref a)) (K : AW μ G (pc + 1) ls (.ref a :: st) h k n) : AW μ G pc ls st h k n := by
  intro l D dA p e s m args below meth c ρ0 ρ H locs lsr C S L
  exact lv_aload_n C.1 C.2.1 hd rfl (lv_of L hl) (K l D dA p e s m args below meth c ρ0 ρ H locs lsr C S L)
theorem aw_aload {i : Nat} {a : Nat} (hd : decode (mB μ) pc = .ok (.aload i, 2)) (hl : lget ls i = some (.ref a)) (K : AW μ G (pc + 2) ls (.ref a :: st) h k n) : AW μ G pc ls st h k n := by
  intro l D dA p e s m args below meth c ρ0 ρ H locs lsr C S L
  exact lv_aload C.1 C.2.1 hd (lv_of L hl) (K l D dA p e s m args below meth c ρ0 ρ H locs lsr C S L)
theorem aw_istore_n {i : Fin 4} {x : Int32} (hd : decode (mB μ) pc = .ok (.istore_n i, 1)) (hi : (i : Nat) < mL μ) (K : AW μ G (pc + 1) (lput1 ls i (.int x)) st h k n) : AW μ G pc ls (.int x :: st) h k n := by
  intro l D dA p e s m args below meth c ρ0 ρ H locs lsr C S L
  exact lv_istore_n C.1 C.2.1 hd rfl L hi rfl (fun ls' hl => K l D dA p e s m args below meth c ρ0 ρ H locs ls' C S (lv_mono hl lput1_sub))
theorem aw_istore {i : Nat} {x : Int32} (hd : decode (mB μ) pc = .ok (.istore i, 2)) (hi : (i : Nat) < mL μ) (K : AW μ G (pc + 2) (lput1 ls i (.int x)) st h k n) : AW μ G pc ls (.int x :: st) h k n := by
  intro l D dA p e s m args below meth c ρ0 ρ H locs lsr C S L
  exact lv_istore C.1 C.2.1 hd L hi rfl (fun ls' hl => K l D dA p e s m args below meth c ρ0 ρ H locs ls' C S (lv_mono hl lput1_sub))
theorem aw_fstore_n {i : Fin 4} {x : UInt32} (hd : decode (mB μ) pc = .ok (.fstore_n i, 1)) (hi : (i : Nat) < mL μ) (K : AW μ G (pc + 1) (lput1 ls i (.float x)) st h k n) : AW μ G pc ls (.float x :: st) h k n := by
  intro l D dA p e s m args below meth c ρ0 ρ H locs lsr C S L
  exact lv_fstore_n C.1 C.2.1 hd rfl L hi rfl (fun ls' hl => K l D dA p e s m args below meth c ρ0 ρ H locs ls' C S (lv_mono hl lput1_sub))
theorem aw_fstore {i : Nat} {x : UInt32} (hd : decode (mB μ) pc = .ok (.fstore i, 2)) (hi : (i : Nat) < mL μ) (K : AW μ G (pc + 2) (lput1 ls i (.float x)) st h k n) : AW μ G pc ls (.float x :: st) h k n := by
  intro l D dA p e s m args below meth c ρ0 ρ H locs lsr C S L
  exact lv_fstore C.1 C.2.1 hd L hi rfl (fun ls' hl => K l D dA p e s m args below meth c ρ0 ρ H locs ls' C S (lv_mono hl lput1_sub))
theorem aw_astore_n {i : Fin 4} {x : Nat} (hd : decode (mB μ) pc = .ok (.astore_n i, 1)) (hi : (i : Nat) < mL μ) (K : AW μ G (pc + 1) (lput1 ls i (.ref x)) st h k n) : AW μ G pc ls (.ref x :: st) h k n := by
  intro l D dA p e s m args below meth c ρ0 ρ H locs lsr C S L
  exact lv_astore_n C.1 C.2.1 hd rfl L hi rfl (fun ls' hl => K l D dA p e s m args below meth c ρ0 ρ H locs ls' C S (lv_mono hl lput1_sub))
theorem aw_astore {i : Nat} {x : Nat} (hd : decode (mB μ) pc = .ok (.astore i, 2)) (hi : (i : Nat) < mL μ) (K : AW μ G (pc + 2) (lput1 ls i (.ref x)) st h k n) : AW μ G pc ls (.ref x :: st) h k n := by
  intro l D dA p e s m args below meth c ρ0 ρ H locs lsr C S L
  exact lv_astore C.1 C.2.1 hd L hi rfl (fun ls' hl => K l D dA p e s m args below meth c ρ0 ρ H locs ls' C S (lv_mono hl lput1_sub))
theorem aw_lstore_n {i : Fin 4} {x : Int64} (hd : decode (mB μ) pc = .ok (.lstore_n i, 1)) (hi : (i : Nat) + 1 < mL μ) (K : AW μ G (pc + 1) (lput2 ls i (.long x)) st h k n) : AW μ G pc ls (.long x :: st) h k n := by
  intro l D dA p e s m args below meth c ρ0 ρ H locs lsr C S L
  exact lv_lstore_n C.1 C.2.1 hd rfl L hi rfl (fun ls' hl => K l D dA p e s m args below meth c ρ0 ρ H locs ls' C S (lv_mono hl lput2_sub))
theorem aw_lstore {i : Nat} {x : Int64} (hd : decode (mB μ) pc = .ok (.lstore i, 2)) (hi : (i : Nat) + 1 < mL μ) (K : AW μ G (pc + 2) (lput2 ls i (.long x)) st h k n) : AW μ G pc ls (.long x :: st) h k n := by
  intro l D dA p e s m args below meth c ρ0 ρ H locs lsr C S L
  exact lv_lstore C.1 C.2.1 hd L hi rfl (fun ls' hl => K l D dA p e s m args below meth c ρ0 ρ H locs ls' C S (lv_mono hl lput2_sub))
theorem aw_iinc {i : Nat} {c1 : Int} {x v : Int32} (hd : decode (mB μ) pc = .ok (.iinc i c1, 3)) (hi : i < mL μ) (hl : lget ls i = some (.int x)) (hv : x + Int32.ofInt c1 = v) (K : AW μ G (pc + 3) (lput1 ls i (.int v)) st h k n) : AW μ G pc ls st h k n := by
  intro l D dA p e s m args below meth c ρ0 ρ H locs lsr C S L
  obtain ⟨kk, hk⟩ := List.getElem?_of_mem ((lpr_mem ρ ls 0 (i, .int x)).mpr ⟨i, .int x, hl, by simp [trv]⟩)
  exact lv_iinc C.1 C.2.1 hd L hk hv hi rfl (fun ls' hl => K l D dA p e s m args below meth c ρ0 ρ H locs ls' C S (lv_mono hl lput1_sub))
theorem aw_icmp_eq {x y : Int32} {off : Int} {tgt : Nat} (hd : decode (mB μ) pc = .ok (.if_icmp .eq off, 3)) (ht : (pc : Int) + off = (tgt : Int)) (K1 : x = y → AW μ G tgt ls st h k n) (K2 : ¬ (x = y) → AW μ G (pc + 3) ls st h k n) : AW μ G pc ls (.int y :: .int x :: st) h k n := by
  intro l D dA p e s m args below meth c ρ0 ρ H locs lsr C S L
  exact lv_icmp_eq C.1 C.2.1 hd ht (fun q => K1 q l D dA p e s m args below meth c ρ0 ρ H locs lsr C S L) (fun q => K2 q l D dA p e s m args below meth c ρ0 ρ H locs lsr C S L)
theorem aw_if_eq {x : Int32} {off : Int} {tgt : Nat} (hd : decode (mB μ) pc = .ok (.ifCond .eq off, 3)) (ht : (pc : Int) + off = (tgt : Int)) (K1 : x = 0 → AW μ G tgt ls st h k n) (K2 : ¬ (x = 0) → AW μ G (pc + 3) ls st h k n) : AW μ G pc ls (.int x :: st) h k n := by
  intro l D dA p e s m args below meth c ρ0 ρ H locs lsr C S L
  exact lv_if_eq C.1 C.2.1 hd ht (fun q => K1 q l D dA p e s m args below meth c ρ0 ρ H locs lsr C S L) (fun q => K2 q l D dA p e s m args below meth c ρ0 ρ H locs lsr C S L)
theorem aw_icmp_ne {x y : Int32} {off : Int} {tgt : Nat} (hd : decode (mB μ) pc = .ok (.if_icmp .ne off, 3)) (ht : (pc : Int) + off = (tgt : Int)) (K1 : ¬ x = y → AW μ G tgt ls st h k n) (K2 : x = y → AW μ G (pc + 3) ls st h k n) : AW μ G pc ls (.int y :: .int x :: st) h k n := by
  intro l D dA p e s m args below meth c ρ0 ρ H locs lsr C S L
  exact lv_icmp_ne C.1 C.2.1 hd ht (fun q => K1 q l D dA p e s m args below meth c ρ0 ρ H locs lsr C S L) (fun q => K2 q l D dA p e s m args below meth c ρ0 ρ H locs lsr C S L)
theorem aw_if_ne {x : Int32} {off : Int} {tgt : Nat} (hd : decode (mB μ) pc = .ok (.ifCond .ne off, 3)) (ht : (pc : Int) + off = (tgt : Int)) (K1 : ¬ x = 0 → AW μ G tgt ls st h k n) (K2 : x = 0 → AW μ G (pc + 3) ls st h k n) : AW μ G pc ls (.int x :: st) h k n := by
  intro l D dA p e s m args below meth c ρ0 ρ H locs lsr C S L
  exact lv_if_ne C.1 C.2.1 hd ht (fun q => K1 q l D dA p e s m args below meth c ρ0 ρ H locs lsr C S L) (fun q => K2 q l D dA p e s m args below meth c ρ0 ρ H locs lsr C S L)
theorem aw_icmp_lt {x y : Int32} {off : Int} {tgt : Nat} (hd : decode (mB μ) pc = .ok (.if_icmp .lt off, 3)) (ht : (pc : Int) + off = (tgt : Int)) (K1 : x < y → AW μ G tgt ls st h k n) (K2 : ¬ (x < y) → AW μ G (pc + 3) ls st h k n) : AW μ G pc ls (.int y :: .int x :: st) h k n := by
  intro l D dA p e s m args below meth c ρ0 ρ H locs lsr C S L
  exact lv_icmp_lt C.1 C.2.1 hd ht (fun q => K1 q l D dA p e s m args below meth c ρ0 ρ H locs lsr C S L) (fun q => K2 q l D dA p e s m args below meth c ρ0 ρ H locs lsr C S L)
theorem aw_if_lt {x : Int32} {off : Int} {tgt : Nat} (hd : decode (mB μ) pc = .ok (.ifCond .lt off, 3)) (ht : (pc : Int) + off = (tgt : Int)) (K1 : x < 0 → AW μ G tgt ls st h k n) (K2 : ¬ (x < 0) → AW μ G (pc + 3) ls st h k n) : AW μ G pc ls (.int x :: st) h k n := by
  intro l D dA p e s m args below meth c ρ0 ρ H locs lsr C S L
  exact lv_if_lt C.1 C.2.1 hd ht (fun q => K1 q l D dA p e s m args below meth c ρ0 ρ H locs lsr C S L) (fun q => K2 q l D dA p e s m args below meth c ρ0 ρ H locs lsr C S L)
theorem aw_icmp_ge {x y : Int32} {off : Int} {tgt : Nat} (hd : decode (mB μ) pc = .ok (.if_icmp .ge off, 3)) (ht : (pc : Int) + off = (tgt : Int)) (K1 : y ≤ x → AW μ G tgt ls st h k n) (K2 : ¬ (y ≤ x) → AW μ G (pc + 3) ls st h k n) : AW μ G pc ls (.int y :: .int x :: st) h k n := by
  intro l D dA p e s m args below meth c ρ0 ρ H locs lsr C S L
  exact lv_icmp_ge C.1 C.2.1 hd ht (fun q => K1 q l D dA p e s m args below meth c ρ0 ρ H locs lsr C S L) (fun q => K2 q l D dA p e s m args below meth c ρ0 ρ H locs lsr C S L)
theorem aw_if_ge {x : Int32} {off : Int} {tgt : Nat} (hd : decode (mB μ) pc = .ok (.ifCond .ge off, 3)) (ht : (pc : Int) + off = (tgt : Int)) (K1 : 0 ≤ x → AW μ G tgt ls st h k n) (K2 : ¬ (0 ≤ x) → AW μ G (pc + 3) ls st h k n) : AW μ G pc ls (.int x :: st) h k n := by
  intro l D dA p e s m args below meth c ρ0 ρ H locs lsr C S L
  exact lv_if_ge C.1 C.2.1 hd ht (fun q => K1 q l D dA p e s m args below meth c ρ0 ρ H locs lsr C S L) (fun q => K2 q l D dA p e s m args below meth c ρ0 ρ H locs lsr C S L)
theorem aw_icmp_gt {x y : Int32} {off : Int} {tgt : Nat} (hd : decode (mB μ) pc = .ok (.if_icmp .gt off, 3)) (ht : (pc : Int) + off = (tgt : Int)) (K1 : y < x → AW μ G tgt ls st h k n) (K2 : ¬ (y < x) → AW μ G (pc + 3) ls st h k n) : AW μ G pc ls (.int y :: .int x :: st) h k n := by
  intro l D dA p e s m args below meth c ρ0 ρ H locs lsr C S L
  exact lv_icmp_gt C.1 C.2.1 hd ht (fun q => K1 q l D dA p e s m args below meth c ρ0 ρ H locs lsr C S L) (fun q => K2 q l D dA p e s m args below meth c ρ0 ρ H locs lsr C S L)
theorem aw_if_gt {x : Int32} {off : Int} {tgt : Nat} (hd : decode (mB μ) pc = .ok (.ifCond .gt off, 3)) (ht : (pc : Int) + off = (tgt : Int)) (K1 : 0 < x → AW μ G tgt ls st h k n) (K2 : ¬ (0 < x) → AW μ G (pc + 3) ls st h k n) : AW μ G pc ls (.int x :: st) h k n := by
  intro l D dA p e s m args below meth c ρ0 ρ H locs lsr C S L
  exact lv_if_gt C.1 C.2.1 hd ht (fun q => K1 q l D dA p e s m args below meth c ρ0 ρ H locs lsr C S L) (fun q => K2 q l D dA p e s m args below meth c ρ0 ρ H locs lsr C S L)
theorem aw_icmp_le {x y : Int32} {off : Int} {tgt : Nat} (hd : decode (mB μ) pc = .ok (.if_icmp .le off, 3)) (ht : (pc : Int) + off = (tgt : Int)) (K1 : x ≤ y → AW μ G tgt ls st h k n) (K2 : ¬ (x ≤ y) → AW μ G (pc + 3) ls st h k n) : AW μ G pc ls (.int y :: .int x :: st) h k n := by
  intro l D dA p e s m args below meth c ρ0 ρ H locs lsr C S L
  exact lv_icmp_le C.1 C.2.1 hd ht (fun q => K1 q l D dA p e s m args below meth c ρ0 ρ H locs lsr C S L) (fun q => K2 q l D dA p e s m args below meth c ρ0 ρ H locs lsr C S L)
theorem aw_if_le {x : Int32} {off : Int} {tgt : Nat} (hd : decode (mB μ) pc = .ok (.ifCond .le off, 3)) (ht : (pc : Int) + off = (tgt : Int)) (K1 : x ≤ 0 → AW μ G tgt ls st h k n) (K2 : ¬ (x ≤ 0) → AW μ G (pc + 3) ls st h k n) : AW μ G pc ls (.int x :: st) h k n := by
  intro l D dA p e s m args below meth c ρ0 ρ H locs lsr C S L
  exact lv_if_le C.1 C.2.1 hd ht (fun q => K1 q l D dA p e s m args below meth c ρ0 ρ H locs lsr C S L) (fun q => K2 q l D dA p e s m args below meth c ρ0 ρ H locs lsr C S L)
theorem aw_goto {off : Int} {tgt : Nat} (hd : decode (mB μ) pc = .ok (.goto off, 3)) (ht : (pc : Int) + off = (tgt : Int)) (K : AW μ G tgt ls st h k n) : AW μ G pc ls st h k n := by
  intro l D dA p e s m args below meth c ρ0 ρ H locs lsr C S L
  exact lv_goto C.1 C.2.1 hd ht (K l D dA p e s m args below meth c ρ0 ρ H locs lsr C S L)
theorem aw_lookup {dflt : Int} {ps : Array (Int × Int)} {len : Nat} {x : Int32} {off : Int} {tgt : Nat} (hd : decode (mB μ) pc = .ok (.lookupswitch dflt ps, len)) (hp : (ps.toList.zip (ps.toList.drop 1)).all (fun (a, next) => a.1 < next.1) = true) (ho : Op.lookupswitch.offset ps.toList dflt x.toInt = off) (ht : (pc : Int) + off = (tgt : Int)) (K : AW μ G tgt ls st h k n) : AW μ G pc ls (.int x :: st) h k n := by
  intro l D dA p e s m args below meth c ρ0 ρ H locs lsr C S L
  exact lv_lookup C.1 C.2.1 hd hp ho ht (K l D dA p e s m args below meth c ρ0 ρ H locs lsr C S L)
theorem aw_tableOut {dflt lo hi : Int} {offs : Array Int} {len : Nat} {x : Int32} {tgt : Nat} (hd : decode (mB μ) pc = .ok (.tableswitch dflt lo hi offs, len)) (hh : x.toInt < lo ∨ hi < x.toInt) (ht : (pc : Int) + dflt = (tgt : Int)) (K : AW μ G tgt ls st h k n) : AW μ G pc ls (.int x :: st) h k n := by
  intro l D dA p e s m args below meth c ρ0 ρ H locs lsr C S L
  exact lv_tableOut C.1 C.2.1 hd hh ht (K l D dA p e s m args below meth c ρ0 ρ H locs lsr C S L)
theorem aw_tableIn {dflt lo hi : Int} {offs : Array Int} {len : Nat} {x : Int32} {off : Int} {tgt : Nat} (hd : decode (mB μ) pc = .ok (.tableswitch dflt lo hi offs, len)) (h1 : ¬ x.toInt < lo) (h2 : ¬ hi < x.toInt) (ho : offs[(x.toInt - lo).toNat]? = some off) (ht : (pc : Int) + off = (tgt : Int)) (K : AW μ G tgt ls st h k n) : AW μ G pc ls (.int x :: st) h k n := by
  intro l D dA p e s m args below meth c ρ0 ρ H locs lsr C S L
  exact lv_tableIn C.1 C.2.1 hd h1 h2 ho ht (K l D dA p e s m args below meth c ρ0 ρ H locs lsr C S L)
end AWR
