/-! branches as ifs -/
theorem br_ite {c A B : Prop} [Decidable c] : ((c → A) ∧ (¬ c → B)) = (if c then A else B) := by
  by_cases h : c
  · rw [if_pos h]; exact propext ⟨fun q => q.1 h, fun q => ⟨fun _ => q, fun z => absurd h z⟩⟩
  · rw [if_neg h]; exact propext ⟨fun q => q.2 h, fun q => ⟨fun z => absurd z h, fun _ => q⟩⟩
theorem br_iten {c A B : Prop} [Decidable c] : ((¬ c → A) ∧ (c → B)) = (if c then B else A) := by
  by_cases h : c
  · rw [if_pos h]; exact propext ⟨fun q => q.2 h, fun q => ⟨fun z => absurd h z, fun _ => q⟩⟩
  · rw [if_neg h]; exact propext ⟨fun q => q.1 h, fun q => ⟨fun _ => q, fun z => absurd z h⟩⟩
theorem ts_ite {K : Nat → Prop} {x : Int32} {pc : Nat} {lo hi d o : Int} {os : List Int} (v : Int32) (hv : v.toInt = lo) (hl : lo ≤ hi) : K (tgtT pc lo hi (o :: os) d x) = if x = v then K (jmp pc o) else K (tgtT pc (lo + 1) hi os d x) := by
  by_cases h : x = v
  · subst h
    rw [if_pos rfl]
    unfold tgtT jmp
    rw [if_neg (by omega), hv]
    simp
  · rw [if_neg h]
    have hx : x.toInt ≠ lo := fun q => h (Int32.toInt_inj.mp (q.trans hv.symm))
    congr 1
    unfold tgtT
    by_cases hc : x.toInt < lo ∨ hi < x.toInt
    · rw [if_pos hc, if_pos (by omega)]
    · rw [if_neg hc, if_neg (by omega)]
      have e1 : (x.toInt - lo).toNat = (x.toInt - (lo + 1)).toNat + 1 := by omega
      rw [e1, List.getD_cons_succ]
theorem ts_nil {K : Nat → Prop} {x : Int32} {pc : Nat} {lo hi d : Int} (hl : hi < lo) : K (tgtT pc lo hi [] d x) = K (jmp pc d) := by
  unfold tgtT jmp
  rw [if_pos (by omega)]
theorem tl_ite {K : Nat → Prop} {x : Int32} {pc : Nat} {a o d : Int} {ps : List (Int × Int)} (v : Int32) (hv : v.toInt = a) : K (tgtL pc ((a, o) :: ps) d x) = if x = v then K (jmp pc o) else K (tgtL pc ps d x) := by
  unfold tgtL jmp
  rw [Op.lookupswitch.offset_cons]
  by_cases h : x = v
  · rw [if_pos h, if_pos (by rw [h, hv])]
  · rw [if_neg h, if_neg (fun q => h (Int32.toInt_inj.mp (by rw [hv]; exact q.symm)))]
theorem tl_nil {K : Nat → Prop} {x : Int32} {pc : Nat} {d : Int} : K (tgtL pc [] d x) = K (jmp pc d) := by
  unfold tgtL jmp
  first | rfl | simp [Op.lookupswitch.offset]
theorem if_cg {c : Prop} [Decidable c] {A B B2 : Prop} (h : B = B2) : (if c then A else B) = (if c then A else B2) := by rw [h]
