/-! fewer locals -/
def lle : aL → aL → Prop
  | [], _ => True
  | none :: l', _ :: l => lle l' l
  | some v :: l', o :: l => o = some v ∧ lle l' l
  | none :: l', [] => lle l' []
  | some _ :: _, [] => False
theorem lle_ok : ∀ (l' l : aL), lle l' l → ∀ i v, lget l' i = some v → lget l i = some v
  | [], l, _, i, v, q => by simp [lget] at q
  | none :: l', o :: l, h, 0, v, q => by simp [lget] at q
  | none :: l', o :: l, h, i + 1, v, q => lle_ok l' l h i v q
  | some w :: l', o :: l, h, 0, v, q => by
    simp only [lget, Option.some.injEq] at q
    subst q
    exact h.1
  | some w :: l', o :: l, h, i + 1, v, q => lle_ok l' l h.2 i v q
  | none :: l', [], h, 0, v, q => by simp [lget] at q
  | none :: l', [], h, i + 1, v, q => by
    have := lle_ok l' [] h i v q
    simp [lget] at this
  | some _ :: _, [], h, _, _, _ => h.elim
theorem aw_lle {μ : Nat} {G : aG} {pc : Nat} {ls : aL} {st : List Value} {h : aH} {k n : Nat} (ls' : aL) (hl : lle ls' ls) (K : AW μ G pc ls' st h k n) : AW μ G pc ls st h k n := aw_less (lle_ok ls' ls hl) K
