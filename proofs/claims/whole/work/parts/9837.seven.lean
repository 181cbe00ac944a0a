/-! Room: seven sorts, one of them with two letters at most -/
def rwN (L : List Nat) : Nat → List (List Nat)
  | 0 => [[]]
  | k + 1 => [] :: L.flatMap (fun x => (rwN L k).map (x :: ·))
def geS (c : Nat) : Nat → Nat
  | 0 => 1
  | k + 1 => 1 + c * geS c k
theorem fl_len {α β : Type} {f : α → List β} {c : Nat} : ∀ (L : List α), (∀ x ∈ L, (f x).length = c) → (L.flatMap f).length = L.length * c
  | [], _ => by simp
  | x :: L, h => by
    rw [List.flatMap_cons, List.length_append, h x (List.mem_cons_self ..), fl_len L (fun y hy => h y (List.mem_cons_of_mem _ hy)), List.length_cons, Nat.add_mul, Nat.one_mul, Nat.add_comm]
theorem rwN_len (L : List Nat) : ∀ k, (rwN L k).length = geS L.length k
  | 0 => rfl
  | k + 1 => by
    show (L.flatMap (fun x => (rwN L k).map (x :: ·))).length + 1 = 1 + L.length * geS L.length k
    rw [fl_len L (c := geS L.length k) (fun x _ => by rw [List.length_map, rwN_len L k])]
    omega
theorem mem_rwN (L : List Nat) : ∀ (k : Nat) (v : List Nat), v.length ≤ k → (∀ x ∈ v, x ∈ L) → v ∈ rwN L k
  | 0, v, h, _ => by
    have : v = [] := List.length_eq_zero_iff.mp (by omega)
    rw [this]
    exact List.mem_singleton.mpr rfl
  | k + 1, [], _, _ => List.mem_cons_self ..
  | k + 1, x :: v, h, hx => by
    rw [List.length_cons] at h
    exact List.mem_cons_of_mem _ (List.mem_flatMap.mpr ⟨x, hx x (List.mem_cons_self ..), List.mem_map.mpr ⟨v, mem_rwN L k v (by omega) (fun y hy => hx y (List.mem_cons_of_mem _ hy)), rfl⟩⟩)
def prU : List Nat → List (Nat × Nat)
  | [] => []
  | x :: L => L.map (fun y => (x, y)) ++ prU L
theorem mem_prU : ∀ {L : List Nat} {x y : Nat}, x ∈ L → y ∈ L → x ≠ y → (x, y) ∈ prU L ∨ (y, x) ∈ prU L
  | a :: L, x, y, hx, hy, hne => by
    rcases List.mem_cons.mp hx with e | e
    · rcases List.mem_cons.mp hy with e2 | e2
      · exact absurd (e.trans e2.symm) hne
      · exact Or.inl (List.mem_append.mpr (Or.inl (List.mem_map.mpr ⟨y, e2, by rw [e]⟩)))
    · rcases List.mem_cons.mp hy with e2 | e2
      · exact Or.inr (List.mem_append.mpr (Or.inl (List.mem_map.mpr ⟨x, e, by rw [e2]⟩)))
      · exact (mem_prU e e2 hne).imp (fun w => List.mem_append.mpr (Or.inr w)) (fun w => List.mem_append.mpr (Or.inr w))
theorem prU_in : ∀ {L : List Nat} {t : Nat × Nat}, L.Nodup → t ∈ prU L → t.1 ∈ L ∧ t.2 ∈ L ∧ t.1 ≠ t.2
  | a :: L, t, hn, h => by
    obtain ⟨n1, n2⟩ := List.nodup_cons.mp hn
    rcases List.mem_append.mp h with w | w
    · obtain ⟨y, hy, rfl⟩ := List.mem_map.mp w
      exact ⟨List.mem_cons_self .., List.mem_cons_of_mem _ hy, fun e => n1 (by rw [show a = y from e]; exact hy)⟩
    · obtain ⟨q1, q2, q3⟩ := prU_in n2 w
      exact ⟨List.mem_cons_of_mem _ q1, List.mem_cons_of_mem _ q2, q3⟩
theorem prU_len : ∀ {L : List Nat}, L.length = 6 → (prU L).length = 15
  | [a, b, c, d, e, f], _ => rfl
section CV
variable (p : Int64) (f : Nat → Nat) (d : Nat) (P : List Nat)
noncomputable def sgM (x : Nat) : Nat := pmk p (2 ^ cntL (dK p) (f x))
noncomputable def prM (x y : Nat) : Nat := pmk p (2 ^ cntL (dK p) (f x) ||| 2 ^ cntL (dK p) (f y))
theorem prM_c (x y : Nat) : prM p f x y = prM p f y x := by
  unfold prM
  rw [Nat.or_comm]
noncomputable def tri3 (t : Nat × Nat) : List Nat := [prM p f t.1 t.2, sgM p f t.1 ||| prM p f t.1 t.2, sgM p f t.2 ||| prM p f t.1 t.2]
noncomputable def cv1 : List Nat := (rwN P 4).map (fun v => rowM p 1 (d :: v))
noncomputable def cv2 : List Nat := (P.erase d).map (sgM p f)
noncomputable def cv3 : List Nat := (P.erase d).flatMap (fun x => (rwN P 3).map (fun v => rowM p (sgM p f x) (d :: v)))
noncomputable def cv4 : List Nat := (prU (P.erase d)).flatMap (tri3 p f)
noncomputable def cv5 : List Nat := (P.erase d).flatMap (fun x => ((P.erase d).erase x).flatMap (fun y => ((P.erase x).erase y).flatMap (fun z => (rwN P 2).map (fun v => rowM p 1 (x :: y :: z :: v)))))
noncomputable def cv6 : List Nat := (prU (P.erase d)).flatMap (fun t => (tri3 p f t).flatMap (fun m => ((P.erase t.1).erase t.2).flatMap (fun z => (rwN P 1).map (fun v => rowM p m (z :: v)))))
noncomputable def cv7 : List Nat := (P.erase d).flatMap (fun y => ((P.erase d).erase y).flatMap (fun z => (rwN P 1).map (fun v => rowM p (sgM p f y) (z :: v))))
noncomputable def cvA : List Nat := 1 :: (cv1 p d P ++ (cv2 p f d P ++ (cv3 p f d P ++ (cv4 p f d P ++ (cv5 p d P ++ (cv6 p f d P ++ cv7 p f d P))))))
end CV
section CW
variable {p : Int64} {f : Nat → Nat} {d : Nat} {P : List Nat}
theorem cvA_len (h7 : P.length = 7) (hn : P.Nodup) (hd : d ∈ P) : (cvA p f d P).length = 15843 := by
  have hO : (P.erase d).length = 6 := by rw [List.length_erase_of_mem hd, h7]
  have hOn := List.Nodup.erase d hn
  have hin : ∀ {x}, x ∈ P.erase d → x ∈ P := fun hx => List.mem_of_mem_erase hx
  have e2 : ∀ x y, x ∈ P → y ∈ P → x ≠ y → ((P.erase x).erase y).length = 5 := fun x y hx hy hne => by
    rw [List.length_erase_of_mem ((List.mem_erase_of_ne (Ne.symm hne)).mpr hy), List.length_erase_of_mem hx, h7]
  have l1 : (cv1 p d P).length = 2801 := by
    unfold cv1
    rw [List.length_map, rwN_len, h7]
    rfl
  have l2 : (cv2 p f d P).length = 6 := by
    unfold cv2
    rw [List.length_map, hO]
  have l3 : (cv3 p f d P).length = 2400 := by
    unfold cv3
    rw [fl_len _ (c := 400) (fun x _ => by rw [List.length_map, rwN_len, h7]; rfl), hO]
  have l4 : (cv4 p f d P).length = 45 := by
    unfold cv4
    rw [fl_len _ (c := 3) (fun x _ => rfl), prU_len hO]
  have l5 : (cv5 p d P).length = 8550 := by
    unfold cv5
    rw [fl_len _ (c := 1425) (fun x hx => ?_), hO]
    rw [fl_len _ (c := 285) (fun y hy => ?_), List.length_erase_of_mem hx, hO]
    have hy2 := (List.Nodup.mem_erase_iff hOn).mp hy
    rw [fl_len _ (c := 57) (fun z _ => by rw [List.length_map, rwN_len, h7]; rfl), e2 x y (hin hx) (hin hy2.2) (Ne.symm hy2.1)]
  have l6 : (cv6 p f d P).length = 1800 := by
    unfold cv6
    rw [fl_len _ (c := 120) (fun t ht => ?_), prU_len hO]
    obtain ⟨t1, t2, t3⟩ := prU_in hOn ht
    rw [fl_len _ (c := 40) (fun m _ => ?_)]
    · rfl
    · rw [fl_len _ (c := 8) (fun z _ => by rw [List.length_map, rwN_len, h7]; rfl), e2 t.1 t.2 (hin t1) (hin t2) t3]
  have l7 : (cv7 p f d P).length = 240 := by
    unfold cv7
    rw [fl_len _ (c := 40) (fun y hy => ?_), hO]
    rw [fl_len _ (c := 8) (fun z _ => by rw [List.length_map, rwN_len, h7]; rfl), List.length_erase_of_mem hy, hO]
  unfold cvA
  rw [List.length_cons, List.length_append, List.length_append, List.length_append, List.length_append, List.length_append, List.length_append, l1, l2, l3, l4, l5, l6, l7]
/-- a row of two sorts -/
theorem row_pair (hp : okP p) (hf : ∀ x ∈ P.erase d, uqS p x (f x)) {x y : Nat} (hx : x ∈ P.erase d) (hy : y ∈ P.erase d) {u : List Nat} (hu : ∀ z ∈ u, z = x ∨ z = y) (hne0 : u ≠ []) (hne : rowM p 1 u ≠ 0) : ∃ l o, (l = x ∧ o = y ∨ l = y ∧ o = x) ∧ (rowM p 1 u = sgM p f l ∨ rowM p 1 u = prM p f o l ∨ rowM p 1 u = sgM p f l ||| prM p f o l) := by
  have e := (List.dropLast_concat_getLast hne0).symm
  have hl := hu (u.getLast hne0) (List.getLast_mem hne0)
  have hdl : ∀ z ∈ u.dropLast, z = x ∨ z = y := fun z hz => hu z ((List.dropLast_sublist u).subset hz)
  rcases hl with w | w
  · refine ⟨x, y, Or.inl ⟨rfl, rfl⟩, ?_⟩
    rw [w] at e
    rw [e] at hne ⊢
    exact row_two hp (hf y hy) (hf x hx) (one_lt hp) (inS_1 hp _) (fun z hz => (hdl z hz).symm) hne
  · refine ⟨y, x, Or.inr ⟨rfl, rfl⟩, ?_⟩
    rw [w] at e
    rw [e] at hne ⊢
    exact row_two hp (hf x hx) (hf y hy) (one_lt hp) (inS_1 hp _) hdl hne
theorem row_pre {xs ys : List Nat} (h : rowM p 1 (xs ++ ys) ≠ 0) : rowM p 1 xs ≠ 0 := fun e => h (by rw [rowM_app, e, rowM_0])
theorem cov7 (hp : okP p) (hn : P.Nodup) (hd : d ∈ P) (hf : ∀ x ∈ P.erase d, uqS p x (f x)) : ∀ (N : Nat) (w : List Nat), w.length ≤ N → w.length ≤ 5 → (∀ x ∈ w, x ∈ P) → rowM p 1 w ≠ 0 → rowM p 1 w ∈ cvA p f d P := by
  have hOn := List.Nodup.erase d hn
  have c1 : ∀ {m}, m ∈ cv1 p d P → m ∈ cvA p f d P := fun h => List.mem_cons_of_mem _ (List.mem_append.mpr (Or.inl h))
  have c2 : ∀ {m}, m ∈ cv2 p f d P → m ∈ cvA p f d P := fun h => List.mem_cons_of_mem _ (List.mem_append.mpr (Or.inr (List.mem_append.mpr (Or.inl h))))
  have c3 : ∀ {m}, m ∈ cv3 p f d P → m ∈ cvA p f d P := fun h => List.mem_cons_of_mem _ (List.mem_append.mpr (Or.inr (List.mem_append.mpr (Or.inr (List.mem_append.mpr (Or.inl h))))))
  have c4 : ∀ {m}, m ∈ cv4 p f d P → m ∈ cvA p f d P := fun h => List.mem_cons_of_mem _ (List.mem_append.mpr (Or.inr (List.mem_append.mpr (Or.inr (List.mem_append.mpr (Or.inr (List.mem_append.mpr (Or.inl h))))))))
  have c5 : ∀ {m}, m ∈ cv5 p d P → m ∈ cvA p f d P := fun h => List.mem_cons_of_mem _ (List.mem_append.mpr (Or.inr (List.mem_append.mpr (Or.inr (List.mem_append.mpr (Or.inr (List.mem_append.mpr (Or.inr (List.mem_append.mpr (Or.inl h))))))))))
  have c6 : ∀ {m}, m ∈ cv6 p f d P → m ∈ cvA p f d P := fun h => List.mem_cons_of_mem _ (List.mem_append.mpr (Or.inr (List.mem_append.mpr (Or.inr (List.mem_append.mpr (Or.inr (List.mem_append.mpr (Or.inr (List.mem_append.mpr (Or.inr (List.mem_append.mpr (Or.inl h))))))))))))
  have c7 : ∀ {m}, m ∈ cv7 p f d P → m ∈ cvA p f d P := fun h => List.mem_cons_of_mem _ (List.mem_append.mpr (Or.inr (List.mem_append.mpr (Or.inr (List.mem_append.mpr (Or.inr (List.mem_append.mpr (Or.inr (List.mem_append.mpr (Or.inr (List.mem_append.mpr (Or.inr h))))))))))))
  intro N
  induction N with
  | zero =>
    intro w hw _ _ _
    have : w = [] := List.length_eq_zero_iff.mp (by omega)
    rw [this]
    exact List.mem_cons_self ..
  | succ N ih =>
    intro w hw h5 hP hne
    cases w with
    | nil => exact List.mem_cons_self ..
    | cons x w1 =>
      rw [List.length_cons] at hw h5
      have hxP := hP x (List.mem_cons_self ..)
      have hw1P : ∀ y ∈ w1, y ∈ P := fun y hy => hP y (List.mem_cons_of_mem _ hy)
      by_cases xd : x = d
      · subst xd
        exact c1 (List.mem_map.mpr ⟨w1, mem_rwN P 4 w1 (by omega) hw1P, rfl⟩)
      · have hxO : x ∈ P.erase d := (List.mem_erase_of_ne xd).mpr hxP
        have hx1 : rowM p 1 [x] ≠ 0 := row_pre (ys := w1) hne
        have ex1 : rowM p 1 [x] = sgM p f x := row_one hp (hf x hxO) (u := []) (one_lt hp) (inS_1 hp _) (fun z hz => absurd hz List.not_mem_nil) hx1
        cases w1 with
        | nil =>
          rw [ex1]
          exact c2 (List.mem_map.mpr ⟨x, hxO, rfl⟩)
        | cons y w2 =>
          rw [List.length_cons] at hw h5
          have hyP := hw1P y (List.mem_cons_self ..)
          have hw2P : ∀ z ∈ w2, z ∈ P := fun z hz => hw1P z (List.mem_cons_of_mem _ hz)
          by_cases yd : y = d
          · subst yd
            have e : rowM p 1 (x :: y :: w2) = rowM p (sgM p f x) (y :: w2) := by
              rw [← ex1]
              exact rowM_app [x] (y :: w2) 1
            rw [e]
            exact c3 (List.mem_flatMap.mpr ⟨x, hxO, List.mem_map.mpr ⟨w2, mem_rwN P 3 w2 (by omega) hw2P, rfl⟩⟩)
          · have hyO : y ∈ P.erase d := (List.mem_erase_of_ne yd).mpr hyP
            have hxy1 : rowM p 1 [x, y] ≠ 0 := row_pre (ys := w2) hne
            by_cases yx : y = x
            · subst yx
              have ex2 : rowM p 1 [y, y] = sgM p f y := row_one hp (hf y hyO) (u := [y]) (one_lt hp) (inS_1 hp _) (fun z hz => List.mem_singleton.mp hz) hxy1
              have e : rowM p 1 (y :: y :: w2) = rowM p 1 (y :: w2) := by
                have a1 : rowM p 1 (y :: y :: w2) = rowM p (rowM p 1 [y, y]) w2 := rowM_app [y, y] w2 1
                have a2 : rowM p 1 (y :: w2) = rowM p (rowM p 1 [y]) w2 := rowM_app [y] w2 1
                rw [a1, a2, ex2, ex1]
              rw [e] at hne ⊢
              exact ih (y :: w2) (by rw [List.length_cons]; omega) (by rw [List.length_cons]; omega) hw1P hne
            · have ht : w2 = w2.takeWhile (fun z => z == x || z == y) ++ w2.dropWhile (fun z => z == x || z == y) := (List.takeWhile_append_dropWhile).symm
              have htl := congrArg List.length ht
              rw [List.length_append] at htl
              have hr : ∀ z v, w2.dropWhile (fun z => z == x || z == y) = z :: v → z ≠ x ∧ z ≠ y ∧ z ∈ w2 ∧ ∀ t ∈ v, t ∈ w2 := fun z v e => by
                have hmem : ∀ t ∈ z :: v, t ∈ w2 := fun t ht2 => by
                  rw [ht, e]
                  exact List.mem_append.mpr (Or.inr ht2)
                have hz0 : ¬ (z == x || z == y) = true := by
                  have := List.head?_dropWhile_not (fun z => z == x || z == y) w2
                  rw [e] at this
                  have h2 : (z == x || z == y) = false := this
                  rw [h2]
                  decide
                rw [Bool.or_eq_true, beq_iff_eq, beq_iff_eq] at hz0
                exact ⟨fun q => hz0 (Or.inl q), fun q => hz0 (Or.inr q), hmem z (List.mem_cons_self ..), fun t ht2 => hmem t (List.mem_cons_of_mem _ ht2)⟩
              have htw : ∀ z ∈ w2.takeWhile (fun z => z == x || z == y), z = x ∨ z = y := fun z hz => by
                have := List.all_eq_true.mp (List.all_takeWhile (p := fun z => z == x || z == y) (l := w2)) z hz
                rw [Bool.or_eq_true, beq_iff_eq, beq_iff_eq] at this
                exact this
              generalize w2.takeWhile (fun z => z == x || z == y) = t at *
              generalize w2.dropWhile (fun z => z == x || z == y) = r at *
              subst ht
              have hua : ∀ z ∈ x :: y :: t, z = x ∨ z = y := fun z hz => by
                rcases List.mem_cons.mp hz with q | q
                · exact Or.inl q
                · rcases List.mem_cons.mp q with q | q
                  · exact Or.inr q
                  · exact htw z q
              have hune : rowM p 1 (x :: y :: t) ≠ 0 := row_pre (xs := x :: y :: t) (ys := r) hne
              obtain ⟨l, o, hlo, hm3⟩ := row_pair hp hf hxO hyO hua (by simp) hune
              have hlO : l ∈ P.erase d := by rcases hlo with ⟨e, -⟩ | ⟨e, -⟩ <;> rw [e] <;> assumption
              have hoO : o ∈ P.erase d := by rcases hlo with ⟨-, e⟩ | ⟨-, e⟩ <;> rw [e] <;> assumption
              have hne2 : o ≠ l := by rcases hlo with ⟨e1, e2⟩ | ⟨e1, e2⟩ <;> rw [e1, e2] <;> first | exact yx | exact Ne.symm yx
              have hpm : rowM p 1 (x :: y :: t) ≠ sgM p f l → ∃ tt ∈ prU (P.erase d), rowM p 1 (x :: y :: t) ∈ tri3 p f tt ∧ (tt = (o, l) ∨ tt = (l, o)) := fun hs => by
                rcases mem_prU hoO hlO hne2 with w | w
                · refine ⟨(o, l), w, ?_, Or.inl rfl⟩
                  unfold tri3
                  rcases hm3 with e | e | e
                  · exact absurd e hs
                  · rw [e]; exact List.mem_cons_self ..
                  · rw [e]; exact List.mem_cons_of_mem _ (List.mem_cons_of_mem _ (List.mem_cons_self ..))
                · refine ⟨(l, o), w, ?_, Or.inr rfl⟩
                  unfold tri3
                  dsimp only
                  rw [prM_c p f l o]
                  rcases hm3 with e | e | e
                  · exact absurd e hs
                  · rw [e]; exact List.mem_cons_self ..
                  · rw [e]; exact List.mem_cons_of_mem _ (List.mem_cons_self ..)
              cases r with
              | nil =>
                rw [List.append_nil] at hne ⊢
                by_cases hs : rowM p 1 (x :: y :: t) = sgM p f l
                · rw [hs]
                  exact c2 (List.mem_map.mpr ⟨l, hlO, rfl⟩)
                · obtain ⟨tt, t1, t2, -⟩ := hpm hs
                  exact c4 (List.mem_flatMap.mpr ⟨tt, t1, t2⟩)
              | cons z v =>
                obtain ⟨zx, zy, hz2, hv2⟩ := hr z v rfl
                have hzP := hw2P z hz2
                have hvP : ∀ a ∈ v, a ∈ P := fun a ha => hw2P a (hv2 a ha)
                rw [List.length_cons] at htl
                cases t with
                | nil =>
                  rw [List.length_nil] at htl
                  refine c5 (List.mem_flatMap.mpr ⟨x, hxO, List.mem_flatMap.mpr ⟨y, (List.mem_erase_of_ne yx).mpr hyO, List.mem_flatMap.mpr ⟨z, (List.mem_erase_of_ne zy).mpr ((List.mem_erase_of_ne zx).mpr hzP), List.mem_map.mpr ⟨v, mem_rwN P 2 v (by omega) hvP, rfl⟩⟩⟩⟩)
                | cons a t =>
                  rw [List.length_cons] at htl
                  have hv1 : v.length ≤ 1 := by omega
                  have e : rowM p 1 (x :: y :: (a :: t ++ z :: v)) = rowM p (rowM p 1 (x :: y :: a :: t)) (z :: v) := rowM_app (x :: y :: a :: t) (z :: v) 1
                  rw [e]
                  by_cases hs : rowM p 1 (x :: y :: a :: t) = sgM p f l
                  · rw [hs]
                    by_cases zd : z = d
                    · subst zd
                      exact c3 (List.mem_flatMap.mpr ⟨l, hlO, List.mem_map.mpr ⟨v, mem_rwN P 3 v (by omega) hvP, rfl⟩⟩)
                    · have zl : z ≠ l := by rcases hlo with ⟨e1, -⟩ | ⟨e1, -⟩ <;> rw [e1] <;> assumption
                      exact c7 (List.mem_flatMap.mpr ⟨l, hlO, List.mem_flatMap.mpr ⟨z, (List.mem_erase_of_ne zl).mpr ((List.mem_erase_of_ne zd).mpr hzP), List.mem_map.mpr ⟨v, mem_rwN P 1 v hv1 hvP, rfl⟩⟩⟩)
                  · obtain ⟨tt, t1, t2, t3⟩ := hpm hs
                    have zt : z ≠ tt.1 ∧ z ≠ tt.2 := by
                      rcases hlo with ⟨e1, e2⟩ | ⟨e1, e2⟩ <;> rcases t3 with e3 | e3 <;> rw [e3, e1, e2] <;> first | exact ⟨zy, zx⟩ | exact ⟨zx, zy⟩
                    exact c6 (List.mem_flatMap.mpr ⟨tt, t1, List.mem_flatMap.mpr ⟨_, t2, List.mem_flatMap.mpr ⟨z, (List.mem_erase_of_ne zt.2).mpr ((List.mem_erase_of_ne zt.1).mpr hzP), List.mem_map.mpr ⟨v, mem_rwN P 1 v hv1 hvP, rfl⟩⟩⟩⟩)
end CW
