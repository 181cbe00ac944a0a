/-! A pattern's number out of its nodes -/
def encN : List Nat → Nat
  | [] => 0
  | k :: L => k + 16 * encN L
theorem encN_lt : ∀ {L : List Nat}, (∀ k ∈ L, k < 16) → encN L < 16 ^ L.length
  | [], _ => by decide
  | k :: L, h => by
    have h1 := h k (List.mem_cons_self ..)
    have h2 := encN_lt (L := L) (fun x hx => h x (List.mem_cons_of_mem _ hx))
    simp only [encN, List.length_cons, Nat.pow_succ]
    omega
theorem encN_app (k : Nat) : ∀ L : List Nat, encN (L ++ [k]) = encN L + k * 16 ^ L.length
  | [] => by simp [encN]
  | x :: L => by
    simp only [List.cons_append, encN, encN_app k L, List.length_cons, Nat.pow_succ]
    rw [Nat.mul_add, ← Nat.mul_assoc, ← Nat.mul_assoc, Nat.mul_comm 16 k, Nat.mul_assoc k 16, Nat.mul_comm 16 (16 ^ L.length), Nat.add_assoc, Nat.mul_assoc]
theorem encN_nib : ∀ (L : List Nat) (i : Nat), (∀ k ∈ L, k < 16) → encN L / 16 ^ i % 16 = L.getD i 0
  | [], i, _ => by simp [encN]
  | k :: L, 0, h => by
    have h1 := h k (List.mem_cons_self ..)
    simp only [encN, Nat.pow_zero, Nat.div_one, List.getD_cons_zero]
    omega
  | k :: L, i + 1, h => by
    have h1 := h k (List.mem_cons_self ..)
    have := encN_nib L i (fun x hx => h x (List.mem_cons_of_mem _ hx))
    rw [List.getD_cons_succ, ← this, encN, Nat.pow_succ, Nat.mul_comm (16 ^ i) 16, ← Nat.div_div_eq_div_mul, show (k + 16 * encN L) / 16 = encN L by omega]
theorem i64k : ∀ k, k < 16 → (nI k).toInt64 = lN k := by decide +kernel
theorem shl4 : ∀ j, j < 16 → ∀ k, k < 16 → lN k <<< ((nI (4 * j)).toInt64 &&& 63) = lN (k * 16 ^ j) := by decide +kernel
theorem pw16 {n : Nat} (h : n ≤ 16) : 16 ^ n ≤ 2 ^ 64 := by
  have := Nat.pow_le_pow_right (n := 16) (by decide) h
  have e : (16 : Nat) ^ 16 = 2 ^ 64 := by decide
  omega
theorem or_add {a b j : Nat} (h : a < 2 ^ j) : a ||| b * 2 ^ j = a + b * 2 ^ j := by
  rw [Nat.or_comm, Nat.mul_comm, ← Nat.two_pow_add_eq_or_of_lt h, Nat.add_comm]
/-- one node more -/
theorem enc_step {L : List Nat} {k : Nat} (h : ∀ x ∈ L, x < 16) (hk : k < 16) (hl : L.length < 16) : lN (encN L) ||| (nI k).toInt64 <<< ((nI (4 * L.length)).toInt64 &&& 63) = lN (encN (L ++ [k])) := by
  rw [i64k k hk, shl4 L.length hl k hk, fb_orL, encN_app, show (16 : Nat) ^ L.length = 2 ^ (4 * L.length) by rw [Nat.pow_mul]]
  have := encN_lt h
  rw [show (16 : Nat) ^ L.length = 2 ^ (4 * L.length) by rw [Nat.pow_mul]] at this
  rw [or_add this]
theorem and15 (a : Nat) : nI a &&& nI 15 = nI (a % 16) := by
  rw [fa_and, show (15 : Nat) = 2 ^ 4 - 1 by decide, Nat.and_two_pow_sub_one_eq_mod]
theorem enc_nib {L : List Nat} (h : ∀ x ∈ L, x < 16) (hl : L.length ≤ 16) : encP (lN (encN L)) (fun i => L.getD i 0) L.length := by
  intro i hi
  have h1 : encN L < 2 ^ 64 := Nat.lt_of_lt_of_le (encN_lt h) (pw16 hl)
  unfold nib
  rw [bl_lN_ushr h1 (by omega), bl_lN_i, and15, show (2 : Nat) ^ (4 * i) = 16 ^ i by rw [Nat.pow_mul], encN_nib L i h]
  congr 1
  split
  · rfl
  next q =>
    rw [List.getD_eq_getElem?_getD, List.getElem?_eq_none (by omega)]
    rfl
