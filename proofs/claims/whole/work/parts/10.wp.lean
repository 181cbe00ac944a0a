/-! ===== WP: what is to be shown, computed along the code ===== -/
abbrev aK : Type := Nat → aL → List Value → aH → Nat → Nat → Prop
def oI : Option Value → aK → aK
  | some (.int x), K, pc, ls, st, h, k, n => K pc ls (.int x :: st) h k n
  | _, _, _, _, _, _, _, _ => False
def oJ : Option Value → aK → aK
  | some (.long x), K, pc, ls, st, h, k, n => K pc ls (.long x :: st) h k n
  | _, _, _, _, _, _, _, _ => False
def oF : Option Value → aK → aK
  | some (.float x), K, pc, ls, st, h, k, n => K pc ls (.float x :: st) h k n
  | _, _, _, _, _, _, _, _ => False
def oA : Option Value → aK → aK
  | some (.ref x), K, pc, ls, st, h, k, n => K pc ls (.ref x :: st) h k n
  | _, _, _, _, _, _, _, _ => False
def oV : Option Value → aK → aK
  | some v, K, pc, ls, st, h, k, n => K pc ls (v :: st) h k n
  | none, _, _, _, _, _, _, _ => False
def oH : Option aH → aK → Nat → aL → List Value → Nat → Nat → Prop
  | some h, K, pc, ls, st, k, n => K pc ls st h k n
  | none, _, _, _, _, _, _ => False
def oInc : Option Value → Int32 → aK → Nat → Nat → aL → List Value → aH → Nat → Nat → Prop
  | some (.int x), c, K, i, pc, ls, st, h, k, n => K pc (lput1 ls i (.int (x + c))) st h k n
  | _, _, _, _, _, _, _, _, _, _ => False
def oIld : Option (Nat × (Nat → Int32)) → Int32 → aK → aK
  | some (N, f), i, K, pc, ls, st, h, k, n => vp_in i N ∧ K pc ls (.int (f i.toNatClampNeg) :: st) h k n
  | none, _, _, _, _, _, _, _, _ => False
def oJld : Option (Nat × (Nat → Int64)) → Int32 → aK → aK
  | some (N, f), i, K, pc, ls, st, h, k, n => vp_in i N ∧ K pc ls (.long (f i.toNatClampNeg) :: st) h k n
  | none, _, _, _, _, _, _, _, _ => False
def oR : Option Nat → aK → aK
  | some b, K, pc, ls, st, h, k, n => K pc ls (.ref b :: st) h k n
  | none, _, _, _, _, _, _, _ => False
def oQld : Option (Nat × Nat × (Nat → Option Nat)) → Int32 → aK → aK
  | some (t, N, f), i, K, pc, ls, st, h, k, n => cond (t == 3 || t == 4) (vp_in i N ∧ oR (f i.toNatClampNeg) K pc ls st h k n) False
  | none, _, _, _, _, _, _, _, _ => False
def oLen : Option (Nat × Nat) → aK → aK
  | some (t, N), K, pc, ls, st, h, k, n => cond (Nat.blt t 5) (K pc ls (.int (Int32.ofNat N) :: st) h k n) False
  | none, _, _, _, _, _, _, _ => False
def oIst : Option (Nat × (Nat → Int32)) → Nat → Int32 → Int32 → aK → aK
  | some (N, f), a, i, x, K, pc, ls, st, h, k, n => vp_in i N ∧ K pc ls st (hset h a (.inl (1, N, .inl (upd f i.toNatClampNeg x)))) k n
  | none, _, _, _, _, _, _, _, _, _, _ => False
def oBst : Option (Nat × (Nat → Int32)) → Nat → Int32 → Int32 → aK → aK
  | some (N, f), a, i, x, K, pc, ls, st, h, k, n => vp_in i N ∧ K pc ls st (hset h a (.inl (0, N, .inl (upd f i.toNatClampNeg (vp_nar .byte x))))) k n
  | none, _, _, _, _, _, _, _, _, _, _ => False
def oJst : Option (Nat × (Nat → Int64)) → Nat → Int32 → Int64 → aK → aK
  | some (N, f), a, i, x, K, pc, ls, st, h, k, n => vp_in i N ∧ K pc ls st (hset h a (.inl (2, N, .inr (.inl (vp_updL f i.toNatClampNeg x))))) k n
  | none, _, _, _, _, _, _, _, _, _, _ => False
def ciOf : Option aC → Nat
  | some (.inr (c, _)) => c
  | _ => 99
def oQst : Option (Nat × Nat × (Nat → Option Nat)) → Nat → Int32 → Nat → aK → aK
  | some (t, N, f), a, i, b, K, pc, ls, st, h, k, n => cond ((t == 3 && ciOf (hget h b) == 2) || (t == 4 && ciOf (hget h b) == 7)) (vp_in i N ∧ K pc ls st (hset h a (.inl (t, N, .inr (.inr (.inr (.inr (va_up f i.toNatClampNeg (some b)))))))) k n) False
  | none, _, _, _, _, _, _, _, _, _, _ => False
/-- a new cell: the room, the cells' names, then on -/
def oNew (G : aG) (c : aC) (sz : Nat) (K : aK) (pc : Nat) (ls : aL) (st : List Value) (h : aH) (k n : Nat) : Prop :=
  k + 1 ≤ gC G ∧ n + sz ≤ gS G ∧ gN G ≤ h.length ∧ okH h.length nomv h ∧ okL h.length nomv ls = true ∧ okS h.length nomv st = true ∧ K pc ls (.ref h.length :: st) (h ++ [c]) (k + 1) (n + sz)
/-- a call: some contract of it, and on behind it -/
def CAL (G : aG) (K : aK) (μ' : Nat) (av : List Value) (pc : Nat) (ls : aL) (st : List Value) (h : aH) (k n : Nat) : Prop :=
  ∃ (d' : Nat) (mv' : Nat → Bool) (mc' ms' : Nat) (Post' : Option Value → aH → Prop), aSp d' μ' av h mv' mc' ms' Post' ∧ d' + 1 ≤ gD G ∧ k + mc' ≤ gC G ∧ n + ms' ≤ gS G ∧ (st.map fun v => v.category).sum ≤ 8 ∧ gN G ≤ h.length ∧ (∀ j, j < gN G → gM G j = false → mv' j = false) ∧ okL h.length mv' ls = true ∧ okS h.length mv' st = true ∧ ∀ r h', Post' r h' → K pc ls (r.toList ++ st) h' (k + mc') (n + ms')
def rcv : Option aC → Nat → Prop
  | some (.inr (c, _)), ci => c = ci
  | _, _ => False
theorem rcv_spec {h : aH} {b ci : Nat} (q : rcv (hget h b) ci) : ∃ fs, hget h b = some (.inr (ci, fs)) := by
  cases hc : hget h b with
  | none => rw [hc] at q; exact q.elim
  | some c =>
    rw [hc] at q
    rcases c with x | ⟨c1, fs⟩
    · exact q.elim
    · exact ⟨fs, by rw [show c1 = ci from q]⟩
def oCopI (a0 a1 : Nat) (sp dp x : Int32) (K : aK) (pc : Nat) (ls : aL) (st : List Value) (h : aH) (k n : Nat) : Prop :=
  ∃ n0 f n1 g, iget h a0 1 = some (n0, f) ∧ iget h a1 1 = some (n1, g) ∧ ¬ sp < 0 ∧ ¬ dp < 0 ∧ ¬ x < 0 ∧ sp.toNatClampNeg + x.toNatClampNeg ≤ n0 ∧ dp.toNatClampNeg + x.toNatClampNeg ≤ n1 ∧ K pc ls st (hset h a1 (.inl (1, n1, .inl (va_cpy f g sp.toNatClampNeg dp.toNatClampNeg x.toNatClampNeg)))) k n
def oCopJ (a0 a1 : Nat) (sp dp x : Int32) (K : aK) (pc : Nat) (ls : aL) (st : List Value) (h : aH) (k n : Nat) : Prop :=
  ∃ n0 f n1 g, jget h a0 = some (n0, f) ∧ jget h a1 = some (n1, g) ∧ ¬ sp < 0 ∧ ¬ dp < 0 ∧ ¬ x < 0 ∧ sp.toNatClampNeg + x.toNatClampNeg ≤ n0 ∧ dp.toNatClampNeg + x.toNatClampNeg ≤ n1 ∧ K pc ls st (hset h a1 (.inl (2, n1, .inr (.inl (va_cpy f g sp.toNatClampNeg dp.toNatClampNeg x.toNatClampNeg))))) k n
def oCp : Option (Nat × (Nat → Int32)) → Nat → Nat → Int32 → Int32 → Int32 → aK → aK
  | some _, a0, a1, sp, dp, x, K, pc, ls, st, h, k, n => oCopI a0 a1 sp dp x K pc ls st h k n
  | none, a0, a1, sp, dp, x, K, pc, ls, st, h, k, n => oCopJ a0 a1 sp dp x K pc ls st h k n
def tgtT (pc : Nat) (lo hi : Int) (offs : List Int) (dflt : Int) (x : Int32) : Nat := if x.toInt < lo ∨ hi < x.toInt then ((pc : Int) + dflt).toNat else ((pc : Int) + offs.getD (x.toInt - lo).toNat 0).toNat
def tgtL (pc : Nat) (ps : List (Int × Int)) (dflt : Int) (x : Int32) : Nat := ((pc : Int) + Op.lookupswitch.offset ps dflt x.toInt).toNat

/-! the instructions, by what stands on the stack -/
def w1 (v : Value) (K : aK) : aK := fun pc ls st h k n => K pc ls (v :: st) h k n
def w2I (f : Int32 → Int32 → Int32) (K : aK) : aK := fun pc ls st h k n => match st with
  | .int y :: .int x :: st => K pc ls (.int (f x y) :: st) h k n
  | _ => False
def w2D (f : Int32 → Int32 → Int32) (K : aK) : aK := fun pc ls st h k n => match st with
  | .int y :: .int x :: st => ¬ y = 0 ∧ K pc ls (.int (f x y) :: st) h k n
  | _ => False
def w2J (f : Int64 → Int64 → Int64) (K : aK) : aK := fun pc ls st h k n => match st with
  | .long y :: .long x :: st => K pc ls (.long (f x y) :: st) h k n
  | _ => False
def wJI (f : Int64 → Int32 → Int64) (K : aK) : aK := fun pc ls st h k n => match st with
  | .int y :: .long x :: st => K pc ls (.long (f x y) :: st) h k n
  | _ => False
def wCmp (K : aK) : aK := fun pc ls st h k n => match st with
  | .long y :: .long x :: st => K pc ls (.int (lg_cmp x y) :: st) h k n
  | _ => False
def wU (f : Value → Option Value) (K : aK) : aK := fun pc ls st h k n => match st with
  | v :: st => oV (f v) K pc ls st h k n
  | _ => False
def fNegJ : Value → Option Value
  | .long x => some (.long (-x))
  | _ => none
def fI2l : Value → Option Value
  | .int x => some (.long x.toInt64)
  | _ => none
def fL2i : Value → Option Value
  | .long x => some (.int x.toInt32)
  | _ => none
def fI2b : Value → Option Value
  | .int x => some (.int x.toInt8.toInt32)
  | _ => none
def fI2f : Value → Option Value
  | .int x => some (.float (FP.i2f x))
  | _ => none
def fF2i : Value → Option Value
  | .float x => some (.int (FP.f2i x))
  | _ => none
def w2F (f : UInt32 → UInt32 → UInt32) (K : aK) : aK := fun pc ls st h k n => match st with
  | .float y :: .float x :: st => vf_n32 (f x y) ∧ K pc ls (.float (f x y) :: st) h k n
  | _ => False
def wFc (op : CmpOp) (K : aK) : aK := fun pc ls st h k n => match st with
  | .float y :: .float x :: st => K pc ls (.int (Op.cmpValue (FP.fcmp x y) op) :: st) h k n
  | _ => False
def cat1 : Value → Bool
  | .long _ => false
  | .double _ => false
  | _ => true
theorem cat1_spec {v : Value} (h : cat1 v = true) : v.category = 1 := by cases v <;> simp [cat1] at h <;> rfl
def wDup (K : aK) : aK := fun pc ls st h k n => match st with
  | v :: st => cond (cat1 v) (K pc ls (v :: v :: st) h k n) False
  | _ => False
def wPop (K : aK) : aK := fun pc ls st h k n => match st with
  | v :: st => cond (cat1 v) (K pc ls st h k n) False
  | _ => False
def wDup2 (K : aK) : aK := fun pc ls st h k n => match st with
  | v :: w :: st => cond (cat1 v && cat1 w) (K pc ls (v :: w :: v :: w :: st) h k n) False
  | _ => False
def wSt (i nL : Nat) (K : aK) : aK := fun pc ls st h k n => match st with
  | .int x :: st => cond (Nat.blt i nL) (K pc (lput1 ls i (.int x)) st h k n) False
  | .float x :: st => cond (Nat.blt i nL) (K pc (lput1 ls i (.float x)) st h k n) False
  | .ref x :: st => cond (Nat.blt i nL) (K pc (lput1 ls i (.ref x)) st h k n) False
  | .long x :: st => cond (Nat.blt (i + 1) nL) (K pc (lput2 ls i (.long x)) st h k n) False
  | _ => False
def isI : List Value → Bool
  | .int _ :: _ => true
  | _ => false
def isJ : List Value → Bool
  | .long _ :: _ => true
  | _ => false
def isF : List Value → Bool
  | .float _ :: _ => true
  | _ => false
def isA : List Value → Bool
  | .ref _ :: _ => true
  | _ => false
def cIf : ClassFile.Cond → Int32 → Prop
  | .eq, x => x = 0
  | .ne, x => ¬ x = 0
  | .lt, x => x < 0
  | .ge, x => 0 ≤ x
  | .gt, x => 0 < x
  | .le, x => x ≤ 0
def nIf : ClassFile.Cond → Int32 → Prop
  | .eq, x => ¬ x = 0
  | .ne, x => x = 0
  | .lt, x => ¬ x < 0
  | .ge, x => ¬ 0 ≤ x
  | .gt, x => ¬ 0 < x
  | .le, x => ¬ x ≤ 0
def cCmp : ClassFile.Cond → Int32 → Int32 → Prop
  | .eq, x, y => x = y
  | .ne, x, y => ¬ x = y
  | .lt, x, y => x < y
  | .ge, x, y => y ≤ x
  | .gt, x, y => y < x
  | .le, x, y => x ≤ y
def nCmp : ClassFile.Cond → Int32 → Int32 → Prop
  | .eq, x, y => ¬ x = y
  | .ne, x, y => x = y
  | .lt, x, y => ¬ x < y
  | .ge, x, y => ¬ y ≤ x
  | .gt, x, y => ¬ y < x
  | .le, x, y => ¬ x ≤ y
def wIf (c : ClassFile.Cond) (tgt : Nat) (K : aK) : aK := fun pc ls st h k n => match st with
  | .int x :: st => (cIf c x → K tgt ls st h k n) ∧ (nIf c x → K pc ls st h k n)
  | _ => False
def wIc (c : ClassFile.Cond) (tgt : Nat) (K : aK) : aK := fun pc ls st h k n => match st with
  | .int y :: .int x :: st => (cCmp c x y → K tgt ls st h k n) ∧ (nCmp c x y → K pc ls st h k n)
  | _ => False
def wTs (lo hi : Int) (offs : List Int) (dflt : Int) (K : aK) : aK := fun pc ls st h k n => match st with
  | .int x :: st => K (tgtT pc lo hi offs dflt x) ls st h k n
  | _ => False
def wLs (ps : List (Int × Int)) (dflt : Int) (K : aK) : aK := fun pc ls st h k n => match st with
  | .int x :: st => K (tgtL pc ps dflt x) ls st h k n
  | _ => False
def wGet (o : Option (Nat × Nat × Nat × Nat × Bool × Bool × Nat × String × Nat)) (K : aK) : aK := fun pc ls st h k n => match o, st with
  | some (_, _, ci, fk, _), .ref a :: st => oV (fget h a ci fk) K pc ls st h k n
  | _, _ => False
def pB : Nat → Value → Bool
  | 0, .int _ => true
  | 1, .long _ => true
  | 2, .ref _ => true
  | 3, .int x => x == 0 || x == 1
  | _, _ => false
theorem pB_ok {tag : Nat} {ty : FieldType} {v : Value} (ht : tagOk tag ty = true) (h : pB tag v = true) : pOk ty v := by
  match tag, ht, h with
  | 0, ht, h => cases ty <;> cases v <;> simp_all [pB, pOk, narrow, fits, tagOk]
  | 1, ht, h => cases ty <;> cases v <;> simp_all [pB, pOk, narrow, fits, tagOk]
  | 2, ht, h => cases ty <;> cases v <;> simp_all [pB, pOk, narrow, fits, tagOk]
  | 3, ht, h =>
    cases ty <;> cases v <;> simp_all [pB, pOk, narrow, fits, tagOk]
    rcases h with h | h <;> subst h <;> decide
  | n + 4, ht, h => simp [tagOk] at ht
def wPut (ini : Bool) (kc : Nat) (o : Option (Nat × Nat × Nat × Nat × Bool × Bool × Nat × String × Nat)) (K : aK) : aK := fun pc ls st h k n => match o, st with
  | some (_, _, ci, fk, nest, fin, tag, _), v :: .ref a :: st => cond (pB tag v && (!fin || (!nest && ini && ci == kc))) (oH (fput h a ci fk v) K pc ls st k n) False
  | _, _ => False
def wIld (K : aK) : aK := fun pc ls st h k n => match st with
  | .int i :: .ref a :: st => oIld (iget h a 1) i K pc ls st h k n
  | _ => False
def wBld (K : aK) : aK := fun pc ls st h k n => match st with
  | .int i :: .ref a :: st => oIld (iget h a 0) i K pc ls st h k n
  | _ => False
def wJld (K : aK) : aK := fun pc ls st h k n => match st with
  | .int i :: .ref a :: st => oJld (jget h a) i K pc ls st h k n
  | _ => False
def wQld (K : aK) : aK := fun pc ls st h k n => match st with
  | .int i :: .ref a :: st => oQld (qget h a) i K pc ls st h k n
  | _ => False
def wIst (K : aK) : aK := fun pc ls st h k n => match st with
  | .int x :: .int i :: .ref a :: st => oIst (iget h a 1) a i x K pc ls st h k n
  | _ => False
def wBst (K : aK) : aK := fun pc ls st h k n => match st with
  | .int x :: .int i :: .ref a :: st => oBst (iget h a 0) a i x K pc ls st h k n
  | _ => False
def wJst (K : aK) : aK := fun pc ls st h k n => match st with
  | .long x :: .int i :: .ref a :: st => oJst (jget h a) a i x K pc ls st h k n
  | _ => False
def wQst (K : aK) : aK := fun pc ls st h k n => match st with
  | .ref b :: .int i :: .ref a :: st => oQst (qget h a) a i b K pc ls st h k n
  | _ => False
def wLen (K : aK) : aK := fun pc ls st h k n => match st with
  | .ref a :: st => oLen (alen h a) K pc ls st h k n
  | _ => False
def wNa (G : aG) (c : Nat → aC) (b : Nat) (K : aK) : aK := fun pc ls st h k n => match st with
  | .int x :: st => ¬ x < 0 ∧ x.toNatClampNeg * b ≤ 536870912 ∧ oNew G (c x.toNatClampNeg) x.toNatClampNeg K pc ls st h k n
  | _ => False
def cI (N : Nat) : aC := .inl (1, N, .inl (fun _ => 0))
def cB (N : Nat) : aC := .inl (0, N, .inl (fun _ => 0))
def cJ (N : Nat) : aC := .inl (2, N, .inr (.inl (fun _ => 0)))
def cQ (t N : Nat) : aC := .inl (t, N, .inr (.inr (.inr (.inr (fun _ => none)))))
def wOb (G : aG) (K : aK) : aK := fun pc ls st h k n => match st with
  | .ref _ :: st => (st.map fun v => v.category).sum ≤ 8 ∧ 1 ≤ gD G ∧ K pc ls st h k n
  | _ => False
def wCp (G : aG) (K : aK) : aK := fun pc ls st h k n => match st with
  | .int x :: .int dp :: .ref a1 :: .int sp :: .ref a0 :: st => (st.map fun v => v.category).sum ≤ 8 ∧ 1 ≤ gD G ∧ oCp (iget h a0 1) a0 a1 sp dp x K pc ls st h k n
  | _ => False
def wRw (G : aG) (K : aK) : aK := fun pc ls st h k n => match st with
  | .float b :: st => (st.map fun v => v.category).sum ≤ 8 ∧ 1 ≤ gD G ∧ K pc ls (.int b.toInt32 :: st) h k n
  | _ => False
/-- the values of a call with p parameters, first one first -/
def spl : Nat → List Value → List Value → Option (List Value × List Value)
  | 0, acc, st => some (acc, st)
  | p + 1, acc, v :: st => spl p (v :: acc) st
  | _ + 1, _, [] => none
theorem spl_spec : ∀ (p : Nat) (acc st av rest : List Value), spl p acc st = some (av, rest) → ∃ a2, av = a2 ++ acc ∧ st = a2.reverse ++ rest ∧ a2.length = p
  | 0, acc, st, av, rest, h => by simp only [spl, Option.some.injEq, Prod.mk.injEq] at h; exact ⟨[], by simp [h.1], by simp [h.2], rfl⟩
  | p + 1, acc, [], av, rest, h => by simp [spl] at h
  | p + 1, acc, v :: st, av, rest, h => by
    obtain ⟨a2, h1, h2, h3⟩ := spl_spec p (v :: acc) st av rest h
    exact ⟨a2 ++ [v], by simp [h1], by simp [h2], by simp [h3]⟩
def oCV (G : aG) (K : aK) (μ' ci : Nat) : Option (List Value × List Value) → Nat → aL → aH → Nat → Nat → Prop
  | some (av, .ref b :: st), pc, ls, h, k, n => rcv (hget h b) ci ∧ CAL G K μ' (.ref b :: av) pc ls st h k n
  | _, _, _, _, _, _ => False
def oCI (G : aG) (K : aK) (μ' : Nat) : Option (List Value × List Value) → Nat → aL → aH → Nat → Nat → Prop
  | some (av, .ref b :: st), pc, ls, h, k, n => CAL G K μ' (.ref b :: av) pc ls st h k n
  | _, _, _, _, _, _ => False
def oCS (G : aG) (K : aK) (μ' : Nat) : Option (List Value × List Value) → Nat → aL → aH → Nat → Nat → Prop
  | some (av, st), pc, ls, h, k, n => CAL G K μ' av pc ls st h k n
  | _, _, _, _, _, _ => False
def rB : Option FieldType → Int32 → Bool
  | some .int, _ => true
  | some .boolean, x => x == 0 || x == 1
  | _, _ => false
def wRi (G : aG) (r : Option FieldType) : List Value → aH → Nat → Nat → Prop := fun st h k n => match st with
  | [.int x] => cond (rB r x) (RET G (some (.int x)) h k n) False
  | _ => False
def wRj (G : aG) (r : Option FieldType) : List Value → aH → Nat → Nat → Prop := fun st h k n => match st, r with
  | [.long x], some .long => RET G (some (.long x)) h k n
  | _, _ => False
def wRf (G : aG) (r : Option FieldType) : List Value → aH → Nat → Nat → Prop := fun st h k n => match st, r with
  | [.float x], some .float => RET G (some (.float x)) h k n
  | _, _ => False
def wRa (G : aG) (r : Option FieldType) : List Value → aH → Nat → Nat → Prop := fun st h k n => match st, r with
  | [.ref a], some (.object _) => RET G (some (.ref a)) h k n
  | [.ref a], some (.array _) => RET G (some (.ref a)) h k n
  | _, _ => False
def wRv (G : aG) (r : Option FieldType) : List Value → aH → Nat → Nat → Prop := fun st h k n => match st, r with
  | [], none => RET G none h k n
  | _, _ => False
def fLook (c idx : Nat) := fTab.find? (fun q => q.1 == c && q.2.1 == idx)
def cLook (c idx : Nat) := cTab.find? (fun q => q.1 == c && q.2.1 == idx)
def kLI (c idx : Nat) := kTI.find? (fun q => q.1 == c && q.2.1 == idx)
def kLJ (c idx : Nat) := kTJ.find? (fun q => q.1 == c && q.2.1 == idx)
def kLF (c idx : Nat) := kTF.find? (fun q => q.1 == c && q.2.1 == idx)
def nLk (c idx : Nat) := nTb.find? (fun q => q.1 == c && q.2.1 == idx)
def qLk (c idx : Nat) := qTb.find? (fun q => q.1 == c && q.2.1 == idx)
def oLk (c idx : Nat) := oTb.find? (fun q => q.1 == c && q.2.1 == idx)
def aLk (c idx : Nat) := aTb.find? (fun q => q.1 == c && q.2.1 == idx)
def rLk (c idx : Nat) := rTb.find? (fun q => q.1 == c && q.2.1 == idx)
theorem find3 {α : Type} {l : List (Nat × Nat × α)} {c idx : Nat} {q : Nat × Nat × α} (h : l.find? (fun q => q.1 == c && q.2.1 == idx) = some q) : (c, idx, q.2.2) ∈ l := by
  have h1 := List.find?_some h
  have h2 := List.mem_of_find?_eq_some h
  simp only [Bool.and_eq_true, beq_iff_eq] at h1
  obtain ⟨a, b, r⟩ := q
  obtain ⟨rfl, rfl⟩ := h1
  exact h2
def fcn : Fin 3 → UInt32
  | 0 => FP.fconst0
  | 1 => FP.fconst1
  | 2 => FP.fconst2
def jmp (pc : Nat) (off : Int) : Nat := ((pc : Int) + off).toNat
/-- one instruction -/
def stepW (μ : Nat) (G : aG) (K : aK) (i : Instr) : aK := fun pc ls st h k n => match i with
  | .iconst x => K (pc + 1) ls (.int (Int32.ofInt x) :: st) h k n
  | .bipush x => K (pc + 2) ls (.int (Int8.ofInt x).toInt32 :: st) h k n
  | .sipush x => K (pc + 3) ls (.int (Int16.ofInt x).toInt32 :: st) h k n
  | .lconst x => K (pc + 1) ls (.long (Int64.ofNat (x : Nat)) :: st) h k n
  | .fconst x => K (pc + 1) ls (.float (fcn x) :: st) h k n
  | .ldc idx => match kLI (mK μ) idx with
    | some q => K (pc + 2) ls (.int q.2.2.1 :: st) h k n
    | none => match kLF (mK μ) idx with
      | some q => K (pc + 2) ls (.float q.2.2.1 :: st) h k n
      | none => False
  | .ldc_w idx => match kLI (mK μ) idx with
    | some q => K (pc + 3) ls (.int q.2.2.1 :: st) h k n
    | none => False
  | .ldc2_w idx => match kLJ (mK μ) idx with
    | some q => K (pc + 3) ls (.long q.2.2.1 :: st) h k n
    | none => False
  | .iload_n i => oI (lget ls i) K (pc + 1) ls st h k n
  | .iload i => oI (lget ls i) K (pc + 2) ls st h k n
  | .lload_n i => oJ (lget ls i) K (pc + 1) ls st h k n
  | .lload i => oJ (lget ls i) K (pc + 2) ls st h k n
  | .fload_n i => oF (lget ls i) K (pc + 1) ls st h k n
  | .aload_n i => oA (lget ls i) K (pc + 1) ls st h k n
  | .aload i => oA (lget ls i) K (pc + 2) ls st h k n
  | .istore_n i => cond (isI st) (wSt i (mL μ) K (pc + 1) ls st h k n) False
  | .istore i => cond (isI st) (wSt i (mL μ) K (pc + 2) ls st h k n) False
  | .lstore_n i => cond (isJ st) (wSt i (mL μ) K (pc + 1) ls st h k n) False
  | .lstore i => cond (isJ st) (wSt i (mL μ) K (pc + 2) ls st h k n) False
  | .fstore_n i => cond (isF st) (wSt i (mL μ) K (pc + 1) ls st h k n) False
  | .astore_n i => cond (isA st) (wSt i (mL μ) K (pc + 1) ls st h k n) False
  | .astore i => cond (isA st) (wSt i (mL μ) K (pc + 2) ls st h k n) False
  | .iinc i c => cond (Nat.blt i (mL μ)) (oInc (lget ls i) (Int32.ofInt c) K i (pc + 3) ls st h k n) False
  | .iadd => w2I (fun x y => x + y) K (pc + 1) ls st h k n
  | .isub => w2I (fun x y => x - y) K (pc + 1) ls st h k n
  | .imul => w2I (fun x y => x * y) K (pc + 1) ls st h k n
  | .iand => w2I (fun x y => x &&& y) K (pc + 1) ls st h k n
  | .ior => w2I (fun x y => x ||| y) K (pc + 1) ls st h k n
  | .ixor => w2I (fun x y => x ^^^ y) K (pc + 1) ls st h k n
  | .ishl => w2I (fun x y => x <<< (y &&& 31)) K (pc + 1) ls st h k n
  | .ishr => w2I (fun x y => x >>> (y &&& 31)) K (pc + 1) ls st h k n
  | .iushr => w2I (fun x y => (x.toUInt32 >>> (y.toUInt32 &&& Int32.toUInt32 31)).toInt32) K (pc + 1) ls st h k n
  | .idiv => w2D (fun x y => x / y) K (pc + 1) ls st h k n
  | .irem => w2D (fun x y => x - x / y * y) K (pc + 1) ls st h k n
  | .ladd => w2J (fun x y => x + y) K (pc + 1) ls st h k n
  | .lsub => w2J (fun x y => x - y) K (pc + 1) ls st h k n
  | .lmul => w2J (fun x y => x * y) K (pc + 1) ls st h k n
  | .land => w2J (fun x y => x &&& y) K (pc + 1) ls st h k n
  | .lor => w2J (fun x y => x ||| y) K (pc + 1) ls st h k n
  | .lxor => w2J (fun x y => x ^^^ y) K (pc + 1) ls st h k n
  | .lushr => wJI (fun x y => (x.toUInt64 >>> (y.toInt64.toUInt64 &&& Int64.toUInt64 63)).toInt64) K (pc + 1) ls st h k n
  | .lshl => wJI (fun x y => x <<< (y.toInt64 &&& 63)) K (pc + 1) ls st h k n
  | .lneg => wU fNegJ K (pc + 1) ls st h k n
  | .lcmp => wCmp K (pc + 1) ls st h k n
  | .i2l => wU fI2l K (pc + 1) ls st h k n
  | .l2i => wU fL2i K (pc + 1) ls st h k n
  | .i2b => wU fI2b K (pc + 1) ls st h k n
  | .i2f => wU fI2f K (pc + 1) ls st h k n
  | .f2i => wU fF2i K (pc + 1) ls st h k n
  | .fsub => w2F FP.fsub K (pc + 1) ls st h k n
  | .fmul => w2F FP.fmul K (pc + 1) ls st h k n
  | .fdiv => w2F FP.fdiv K (pc + 1) ls st h k n
  | .fcmp op => wFc op K (pc + 1) ls st h k n
  | .dup => wDup K (pc + 1) ls st h k n
  | .pop => wPop K (pc + 1) ls st h k n
  | .dup2 => wDup2 K (pc + 1) ls st h k n
  | .ifCond c off => cond (decide (0 ≤ (pc : Int) + off)) (wIf c (jmp pc off) K (pc + 3) ls st h k n) False
  | .if_icmp c off => cond (decide (0 ≤ (pc : Int) + off)) (wIc c (jmp pc off) K (pc + 3) ls st h k n) False
  | .goto off => cond (decide (0 ≤ (pc : Int) + off)) (K (jmp pc off) ls st h k n) False
  | .tableswitch dflt lo hi offs => cond (decide (0 ≤ (pc : Int) + dflt) && offs.toList.all (fun o => decide (0 ≤ (pc : Int) + o)) && (offs.toList.length == (hi - lo + 1).toNat) && decide (lo ≤ hi)) (wTs lo hi offs.toList dflt K pc ls st h k n) False
  | .lookupswitch dflt ps => cond (decide (0 ≤ (pc : Int) + dflt) && ps.toList.all (fun o => decide (0 ≤ (pc : Int) + o.2)) && (ps.toList.zip (ps.toList.drop 1)).all (fun (a, next) => a.1 < next.1)) (wLs ps.toList dflt K pc ls st h k n) False
  | .getfield idx => wGet (fLook (mK μ) idx) K (pc + 3) ls st h k n
  | .putfield idx => wPut (inits.contains μ) (mK μ) (fLook (mK μ) idx) K (pc + 3) ls st h k n
  | .iaload => wIld K (pc + 1) ls st h k n
  | .baload => wBld K (pc + 1) ls st h k n
  | .laload => wJld K (pc + 1) ls st h k n
  | .aaload => wQld K (pc + 1) ls st h k n
  | .iastore => wIst K (pc + 1) ls st h k n
  | .bastore => wBst K (pc + 1) ls st h k n
  | .lastore => wJst K (pc + 1) ls st h k n
  | .aastore => wQst K (pc + 1) ls st h k n
  | .arraylength => wLen K (pc + 1) ls st h k n
  | .newarray .int => wNa G cI 4 K (pc + 2) ls st h k n
  | .newarray .byte => wNa G cB 1 K (pc + 2) ls st h k n
  | .newarray .long => wNa G cJ 8 K (pc + 2) ls st h k n
  | .anewarray idx => match qLk (mK μ) idx with
    | some q => wNa G (cQ q.2.2.1) 4 K (pc + 3) ls st h k n
    | none => False
  | .new idx => match nLk (mK μ) idx with
    | some q => oNew G (.inr (q.2.2.1, dfl q.2.2.1)) (clT q.2.2.1).2.2 K (pc + 3) ls st h k n
    | none => False
  | .invokevirtual idx => match cLook (mK μ) idx with
    | some q => cond (q.2.2.2.1 == 0 || q.2.2.2.1 == 3) (oCV G K q.2.2.1 (mK q.2.2.1) (spl (mP q.2.2.1) [] st) (pc + 3) ls h k n) False
    | none => False
  | .invokespecial idx => match cLook (mK μ) idx with
    | some q => cond (q.2.2.2.1 == 2 || q.2.2.2.1 == 5) (oCI G K q.2.2.1 (spl (mP q.2.2.1) [] st) (pc + 3) ls h k n) False
    | none => match oLk (mK μ) idx with
      | some _ => wOb G K (pc + 3) ls st h k n
      | none => False
  | .invokestatic idx => match cLook (mK μ) idx with
    | some q => cond (q.2.2.2.1 == 1 || q.2.2.2.1 == 4) (oCS G K q.2.2.1 (spl (mP q.2.2.1) [] st) (pc + 3) ls h k n) False
    | none => match aLk (mK μ) idx with
      | some _ => wCp G K (pc + 3) ls st h k n
      | none => match rLk (mK μ) idx with
        | some _ => wRw G K (pc + 3) ls st h k n
        | none => False
  | .ireturn => wRi G (mR μ) st h k n
  | .lreturn => wRj G (mR μ) st h k n
  | .freturn => wRf G (mR μ) st h k n
  | .areturn => wRa G (mR μ) st h k n
  | .return_ => wRv G (mR μ) st h k n
  | _ => False
def lenOk : Instr → Nat → Bool
  | .iconst _, l => l == 1
  | .bipush _, l => l == 2
  | .sipush _, l => l == 3
  | .lconst _, l => l == 1
  | .fconst _, l => l == 1
  | .ldc _, l => l == 2
  | .ldc_w _, l => l == 3
  | .ldc2_w _, l => l == 3
  | .iload_n _, l => l == 1
  | .iload _, l => l == 2
  | .lload_n _, l => l == 1
  | .lload _, l => l == 2
  | .fload_n _, l => l == 1
  | .aload_n _, l => l == 1
  | .aload _, l => l == 2
  | .istore_n _, l => l == 1
  | .istore _, l => l == 2
  | .lstore_n _, l => l == 1
  | .lstore _, l => l == 2
  | .fstore_n _, l => l == 1
  | .astore_n _, l => l == 1
  | .astore _, l => l == 2
  | .iinc _ _, l => l == 3
  | .ifCond _ _, l => l == 3
  | .if_icmp _ _, l => l == 3
  | .goto _, l => l == 3
  | .tableswitch .., _ => true
  | .lookupswitch .., _ => true
  | .getfield _, l => l == 3
  | .putfield _, l => l == 3
  | .newarray _, l => l == 2
  | .anewarray _, l => l == 3
  | .new _, l => l == 3
  | .invokevirtual _, l => l == 3
  | .invokespecial _, l => l == 3
  | .invokestatic _, l => l == 3
  | _, l => l == 1
def WP (μ : Nat) (G : aG) (S : Nat → Bool) : Nat → aK
  | 0, pc, ls, st, h, k, n => AW μ G pc ls st h k n
  | f + 1, pc, ls, st, h, k, n => if S pc = true then AW μ G pc ls st h k n else match decode (mB μ) pc with
    | .ok (i, len) => cond (lenOk i len) (stepW μ G (WP μ G S f) i pc ls st h k n) False
    | .error _ => False
def WQ (μ : Nat) (G : aG) (S : Nat → Bool) (f : Nat) : aK := fun pc ls st h k n => match decode (mB μ) pc with
    | .ok (i, len) => cond (lenOk i len) (stepW μ G (WP μ G S f) i pc ls st h k n) False
    | .error _ => False
