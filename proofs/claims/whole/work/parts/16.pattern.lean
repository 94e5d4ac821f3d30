/-! ===== Pattern: one contract a method ===== -/
/-- the first of m places from i on at which f holds; -1 -/
def fstI (f : Int → Bool) : Nat → Int → Int
  | 0, _ => -1
  | m + 1, i => if f i = true then i else fstI f m (i + 1)
def mxF (f : Int → Int) : Nat → Int → Int → Int
  | 0, _, a => a
  | m + 1, i, a => mxF f m (i + 1) (max a (f i))
def mnF (f : Int → Int) : Nat → Int → Int → Int
  | 0, _, a => a
  | m + 1, i, a => mnF f m (i + 1) (min a (f i))
def smF (f : Int → Int) : Nat → Int → Int → Int
  | 0, _, a => a
  | m + 1, i, a => smF f m (i + 1) (a + f i)
/-- w laid into m places of cell a, from i on -/
def flF (a len : Nat) (w : Int) : Nat → Int → HP → HP
  | 0, _, h => h
  | m + 1, i, h => flF a len w m (i + 1) (wrA h a len i w)
/-- m numbers of cell a laid into cell b, at the same places -/
def cpF (a la b lb : Nat) : Nat → Int → HP → HP
  | 0, _, h => h
  | m + 1, i, h => cpF a la b lb m (i + 1) (wrA h b lb i (rdA h a la i))
def addNameN (h : HP) (p : Nat) (i w n : Int) : HP := wrA (wrA h (p + 1) 32 (i * 8 + n) w) (p + 2) 4 i (n + 1)
def addNameH (h : HP) (p : Nat) (i w : Int) : HP :=
  if i = 3 then wrA (if i = 2 then wrA (addNameN h p i w (rdA h (p + 2) 4 i)) (p + 3) 4 (rdA h (p + 2) 4 i) 0 else addNameN h p i w (rdA h (p + 2) 4 i)) (p + 6) 6 (rdA h (p + 2) 4 i) 0
  else (if i = 2 then wrA (addNameN h p i w (rdA h (p + 2) 4 i)) (p + 3) 4 (rdA h (p + 2) 4 i) 0 else addNameN h p i w (rdA h (p + 2) 4 i))
def addRowH (h : HP) (p : Nat) (i x y : Int) : HP :=
  let n := rdA h (p + 3) 4 i
  wrA (wrA (wrA h (p + 4) 32 (i * 8 + n) x) (p + 5) 32 (i * 8 + n) y) (p + 3) 4 i (n + 1)
def addPartN (h : HP) (p : Nat) (x b : Int) : HP := wrA (wrA (wrA (wrA (flF (p + 7) 540 0 9 b h) (p + 7) 540 (b + 0) x) (p + 7) 540 (b + 2) (-1)) (p + 7) 540 (b + 6) (-1)) (p + 7) 540 (b + 8) (-1)
def addPartH (h : HP) (p : Nat) (i x n : Int) : HP := wrA (addPartN h p x ((i * 10 + n) * 9)) (p + 6) 6 i (n + 1)
section PATTERN
variable {N : List CT} {h : HP} {p : Nat} {i j k x y w : Int}
theorem total_ok (hp : isPt p) : Ok 19 [vR p, vI i] (LC N) h (rt (some (vI (rdA h (p + 2) 4 i))) (LC N) h) := by
  rcases hp with rfl | rfl
  all_goals
    refine ok_body B_X2_total rfl (fun X hX => ?_)
    refine hX 10 [] 0 _ _ _ _ _ _ ?_
    refine Ok_rt (at_ok (len := 4) rfl (by decide)) ?_
    exact rt_mk rfl rfl

theorem isFull_ok {b : Int} (hp : isPt p) (hi : (i = 0 ∧ b = 6) ∨ (i = 1 ∧ b = 8) ∨ (i = 2 ∧ b = 4) ∨ (i = 3 ∧ b = 6)) : Ok 20 [vR p, vI i] (LC N) h (rt (some (vI (if b ≤ rdA h (p + 2) 4 i then 1 else 0))) (LC N) h) := by
  rcases hp with rfl | rfl
  all_goals
    refine ok_body B_X2_isFull rfl (fun X hX => ?_)
    refine hX 30 [] 0 _ _ _ _ _ _ ?_
    refine And.intro (fun d => ?_) (And.intro (fun d => ?_) (And.intro (fun d => ?_) (And.intro (fun d => ?_) True.intro)))
    all_goals
      try have d : i < 0 ∨ (3 : Int) ≤ i := by simpa using d
      refine Ok_rt (total_ok (by first | exact Or.inl rfl | exact Or.inr rfl)) ?_
      refine And.intro (fun c => ?_) (fun c => ?_)
      · exact And.intro ⟨by decide, by decide⟩ (rt_mk (by rw [if_neg (by omega)]) rfl)
      · exact And.intro ⟨by decide, by decide⟩ (rt_mk (by rw [if_pos (by omega)]) rfl)

theorem chartRowTotal_ok (hp : isPt p) : Ok 23 [vR p, vI i] (LC N) h (rt (some (vI (rdA h (p + 3) 4 i))) (LC N) h) := by
  rcases hp with rfl | rfl
  all_goals
    refine ok_body B_X2_chartRowTotal rfl (fun X hX => ?_)
    refine hX 10 [] 0 _ _ _ _ _ _ ?_
    refine Ok_rt (at_ok (len := 4) rfl (by decide)) ?_
    exact rt_mk rfl rfl

theorem partTotal_ok (hp : isPt p) : Ok 31 [vR p, vI i] (LC N) h (rt (some (vI (rdA h (p + 6) 6 i))) (LC N) h) := by
  rcases hp with rfl | rfl
  all_goals
    refine ok_body B_X2_partTotal rfl (fun X hX => ?_)
    refine hX 10 [] 0 _ _ _ _ _ _ ?_
    refine Ok_rt (at_ok (len := 6) rfl (by decide)) ?_
    exact rt_mk rfl rfl

theorem taken_ok (hp : isPt p) (hi : -1000 ≤ i ∧ i ≤ 1000)(hj : -1000 ≤ j ∧ j ≤ 1000) : Ok 24 [vR p, vI i, vI j] (LC N) h (rt (some (vI (rdA h (p + 4) 32 (i * 8 + j)))) (LC N) h) := by
  rcases hp with rfl | rfl
  all_goals
    refine ok_body B_X2_taken rfl (fun X hX => ?_)
    refine hX 14 [] 0 _ _ _ _ _ _ ?_
    refine And.intro ⟨by omega, by omega⟩ ?_
    refine And.intro ⟨by omega, by omega⟩ ?_
    refine Ok_rt (at_ok (len := 32) rfl (by decide)) ?_
    exact rt_mk rfl rfl

theorem made_ok (hp : isPt p) (hi : -1000 ≤ i ∧ i ≤ 1000)(hj : -1000 ≤ j ∧ j ≤ 1000) : Ok 25 [vR p, vI i, vI j] (LC N) h (rt (some (vI (rdA h (p + 5) 32 (i * 8 + j)))) (LC N) h) := by
  rcases hp with rfl | rfl
  all_goals
    refine ok_body B_X2_made rfl (fun X hX => ?_)
    refine hX 14 [] 0 _ _ _ _ _ _ ?_
    refine And.intro ⟨by omega, by omega⟩ ?_
    refine And.intro ⟨by omega, by omega⟩ ?_
    refine Ok_rt (at_ok (len := 32) rfl (by decide)) ?_
    exact rt_mk rfl rfl

theorem fact_ok (hp : isPt p) (hi : -1000 ≤ i ∧ i ≤ 1000)(hj : -1000 ≤ j ∧ j ≤ 1000)(hk : -1000 ≤ k ∧ k ≤ 1000) : Ok 33 [vR p, vI i, vI j, vI k] (LC N) h (rt (some (vI (rdA h (p + 7) 540 ((i * 10 + j) * 9 + k)))) (LC N) h) := by
  rcases hp with rfl | rfl
  all_goals
    refine ok_body B_X2_fact rfl (fun X hX => ?_)
    refine hX 18 [] 0 _ _ _ _ _ _ ?_
    refine And.intro ⟨by omega, by omega⟩ ?_
    refine And.intro ⟨by omega, by omega⟩ ?_
    refine And.intro ⟨by omega, by omega⟩ ?_
    refine And.intro ⟨by omega, by omega⟩ ?_
    refine Ok_rt (at_ok (len := 540) rfl (by decide)) ?_
    exact rt_mk rfl rfl

theorem setFact_ok (hp : isPt p) (hi : -1000 ≤ i ∧ i ≤ 1000)(hj : -1000 ≤ j ∧ j ≤ 1000)(hk : -1000 ≤ k ∧ k ≤ 1000) : Ok 34 [vR p, vI i, vI j, vI k, vI x] (LC N) h (rt none (LC N) (wrA h (p + 7) 540 ((i * 10 + j) * 9 + k) x)) := by
  rcases hp with rfl | rfl
  all_goals
    refine ok_body B_X2_setFact rfl (fun X hX => ?_)
    refine hX 19 [] 0 _ _ _ _ _ _ ?_
    refine And.intro ⟨by omega, by omega⟩ ?_
    refine And.intro ⟨by omega, by omega⟩ ?_
    refine And.intro ⟨by omega, by omega⟩ ?_
    refine And.intro ⟨by omega, by omega⟩ ?_
    refine Ok_rt (put_ok (len := 540) rfl (by decide)) ?_
    exact rt_mk rfl rfl

theorem numberOf_ok (hp : isPt p) (hi : -1000 ≤ i ∧ i ≤ 1000) {n : Int} (hn : rdA h (p + 2) 4 i = n) (hn2 : n ≤ 1000) : Ok 21 [vR p, vI i, vL w] (LC N) h (rt (some (vI (fstI (fun q => rdA h (p + 1) 32 (i * 8 + q) == w) n.toNat 0))) (LC N) h) := by
  rcases hp with rfl | rfl
  · refine ok_body B_X2_numberOf rfl (fun X hX => ?_)
    have loop : ∀ (m : Nat) (q : Int), 0 ≤ q → n.toNat - q = (m : Int) → (fstI (fun q => rdA h (5 + 1) 32 (i * 8 + q) == w) m q) = (fstI (fun q => rdA h (5 + 1) 32 (i * 8 + q) == w) n.toNat 0) → X 13 [vR 5, vI i, vL w, vU, vI n, vI q] [] (LC N) h 0 0 := by
      intro m
      induction m with
      | zero =>
        intro q hq hm he
        refine hX 32 [] 13 _ _ _ _ _ _ ?_
        refine And.intro (fun c17 => ?_) (fun c17 => absurd c17 (by omega))
        exact rt_mk (by rw [← he]; rfl) rfl
      | succ m ih =>
        intro q hq hm he
        refine hX 32 [13] 13 _ _ _ _ _ _ ?_
        refine And.intro (fun c17 => absurd c17 (by omega)) (fun c17 => ?_)
        refine And.intro ⟨by omega, by omega⟩ ?_
        refine And.intro ⟨by omega, by omega⟩ ?_
        refine Ok_rt (atL_ok (len := 32) rfl (by decide)) ?_
        refine And.intro (fun c36 => ?_) (fun c36 => ?_)
        · refine And.intro ⟨by omega, by omega⟩ ?_
          exact ih (q + 1) (by omega) (by omega) (by rw [← he]; exact (if_neg (by rw [beq_iff_eq]; exact fun hh => absurd hh c36)).symm)
        · exact rt_mk (by rw [← he]; exact congrArg (fun z => some (vI z)) (if_pos (by rw [beq_iff_eq]; exact c36)).symm) rfl
    refine hX 20 [13] 0 _ _ _ _ _ _ ?_
    refine Ok_rt (at_ok (len := 4) rfl (by decide)) ?_
    rw [hn]
    exact loop n.toNat 0 (by omega) (by omega) rfl
  · refine ok_body B_X2_numberOf rfl (fun X hX => ?_)
    have loop : ∀ (m : Nat) (q : Int), 0 ≤ q → n.toNat - q = (m : Int) → (fstI (fun q => rdA h (19 + 1) 32 (i * 8 + q) == w) m q) = (fstI (fun q => rdA h (19 + 1) 32 (i * 8 + q) == w) n.toNat 0) → X 13 [vR 19, vI i, vL w, vU, vI n, vI q] [] (LC N) h 0 0 := by
      intro m
      induction m with
      | zero =>
        intro q hq hm he
        refine hX 32 [] 13 _ _ _ _ _ _ ?_
        refine And.intro (fun c17 => ?_) (fun c17 => absurd c17 (by omega))
        exact rt_mk (by rw [← he]; rfl) rfl
      | succ m ih =>
        intro q hq hm he
        refine hX 32 [13] 13 _ _ _ _ _ _ ?_
        refine And.intro (fun c17 => absurd c17 (by omega)) (fun c17 => ?_)
        refine And.intro ⟨by omega, by omega⟩ ?_
        refine And.intro ⟨by omega, by omega⟩ ?_
        refine Ok_rt (atL_ok (len := 32) rfl (by decide)) ?_
        refine And.intro (fun c36 => ?_) (fun c36 => ?_)
        · refine And.intro ⟨by omega, by omega⟩ ?_
          exact ih (q + 1) (by omega) (by omega) (by rw [← he]; exact (if_neg (by rw [beq_iff_eq]; exact fun hh => absurd hh c36)).symm)
        · exact rt_mk (by rw [← he]; exact congrArg (fun z => some (vI z)) (if_pos (by rw [beq_iff_eq]; exact c36)).symm) rfl
    refine hX 20 [13] 0 _ _ _ _ _ _ ?_
    refine Ok_rt (at_ok (len := 4) rfl (by decide)) ?_
    rw [hn]
    exact loop n.toNat 0 (by omega) (by omega) rfl

theorem addName_ok (hp : isPt p) (hi : 0 ≤ i ∧ i ≤ 3) (hn : 0 ≤ rdA h (p + 2) 4 i ∧ rdA h (p + 2) 4 i ≤ 1000) : Ok 22 [vR p, vI i, vL w] (LC N) h (rt (some (vI (rdA h (p + 2) 4 i))) (LC N) (addNameH h p i w)) := by
  rcases hp with rfl | rfl
  all_goals
    refine ok_body B_X2_addName rfl (fun X hX => ?_)
    refine hX 43 [] 0 _ _ _ _ _ _ ?_
    refine Ok_rt (total_ok (by first | exact Or.inl rfl | exact Or.inr rfl)) ?_
    refine And.intro ⟨by omega, by omega⟩ ?_
    refine And.intro ⟨by omega, by omega⟩ ?_
    refine Ok_rt (putL_ok (len := 32) rfl (by decide)) ?_
    refine And.intro ⟨by omega, by omega⟩ ?_
    refine Ok_rt (put_ok (len := 4) rfl (by decide)) ?_
    refine And.intro (fun c36 => ?_) (fun c36 => ?_)
    · refine And.intro (fun c51 => ?_) (fun c51 => ?_)
      · exact rt_mk rfl (by first | (rw [addNameH, if_neg c51, if_neg c36]; rfl) | (rw [addNameH, if_pos c51, if_neg c36]; rfl) | (rw [addNameH, if_neg c51, if_pos c36]; rfl) | (exfalso; omega))
      · refine Ok_rt (put_ok (len := 6) rfl (by decide)) ?_
        exact rt_mk rfl (by first | (rw [addNameH, if_neg c51, if_neg c36]; rfl) | (rw [addNameH, if_pos c51, if_neg c36]; rfl) | (rw [addNameH, if_neg c51, if_pos c36]; rfl) | (exfalso; omega))
    · refine Ok_rt (put_ok (len := 4) rfl (by decide)) ?_
      refine And.intro (fun c51 => ?_) (fun c51 => ?_)
      · exact rt_mk rfl (by first | (rw [addNameH, if_neg c51, if_neg c36]; rfl) | (rw [addNameH, if_pos c51, if_neg c36]; rfl) | (rw [addNameH, if_neg c51, if_pos c36]; rfl) | (exfalso; omega))
      · refine Ok_rt (put_ok (len := 6) rfl (by decide)) ?_
        exact rt_mk rfl (by first | (rw [addNameH, if_neg c51, if_neg c36]; rfl) | (rw [addNameH, if_pos c51, if_neg c36]; rfl) | (rw [addNameH, if_neg c51, if_pos c36]; rfl) | (exfalso; omega))

theorem addChartRow_ok (hp : isPt p) (hi : 0 ≤ i ∧ i ≤ 3) (hn : 0 ≤ rdA h (p + 3) 4 i ∧ rdA h (p + 3) 4 i ≤ 1000) : Ok 30 [vR p, vI i, vI x, vI y] (LC N) h (rt none (LC N) (addRowH h p i x y)) := by
  rcases hp with rfl | rfl
  all_goals
    refine ok_body B_X2_addChartRow rfl (fun X hX => ?_)
    refine hX 35 [] 0 _ _ _ _ _ _ ?_
    refine Ok_rt (chartRowTotal_ok (by first | exact Or.inl rfl | exact Or.inr rfl)) ?_
    refine And.intro ⟨by omega, by omega⟩ ?_
    refine And.intro ⟨by omega, by omega⟩ ?_
    refine Ok_rt (put_ok rfl (by decide)) ?_
    refine And.intro ⟨by omega, by omega⟩ ?_
    refine And.intro ⟨by omega, by omega⟩ ?_
    refine Ok_rt (put_ok rfl (by decide)) ?_
    refine And.intro ⟨by omega, by omega⟩ ?_
    refine Ok_rt (put_ok rfl (by decide)) ?_
    exact rt_mk rfl rfl

theorem isClosed_ok (hp : isPt p) (hi : 0 ≤ i ∧ i ≤ 3) (hn : 0 ≤ rdA h (p + 3) 4 i ∧ rdA h (p + 3) 4 i ≤ 100) : Ok 29 [vR p, vI i] (LC N) h (rt (some (vI (if rdA h (p + 5) 32 (i * 8 + (rdA h (p + 3) 4 i - 1)) = rdA h (p + 4) 32 (i * 8 + 0) then 1 else 0))) (LC N) h) := by
  rcases hp with rfl | rfl
  all_goals
    refine ok_body B_X2_isClosed rfl (fun X hX => ?_)
    refine hX 22 [] 0 _ _ _ _ _ _ ?_
    refine Ok_rt (chartRowTotal_ok (by first | exact Or.inl rfl | exact Or.inr rfl)) ?_
    refine And.intro ⟨by omega, by omega⟩ ?_
    refine Ok_rt (made_ok (by first | exact Or.inl rfl | exact Or.inr rfl) (by omega) (by omega)) ?_
    refine Ok_rt (taken_ok (by first | exact Or.inl rfl | exact Or.inr rfl) (by omega) (by omega)) ?_
    refine And.intro (fun c18 => ?_) (fun c18 => ?_)
    · exact And.intro ⟨by decide, by decide⟩ (rt_mk (by first | rw [if_neg (by assumption)] | rw [if_pos (by assumption)]) rfl)
    · exact And.intro ⟨by decide, by decide⟩ (rt_mk (by first | rw [if_neg (by assumption)] | rw [if_pos (by assumption)]) rfl)

theorem mostMade_ok (hp : isPt p) {n : Int} (hi : 0 ≤ i ∧ i ≤ 3) (hn : rdA h (p + 3) 4 i = n) (hn2 : n ≤ 1000) : Ok 26 [vR p, vI i] (LC N) h (rt (some (vI (mxF (fun q => rdA h (p + 5) 32 (i * 8 + q)) (n - 0).toNat 0 (0)))) (LC N) h) := by
  rcases hp with rfl | rfl
  · refine ok_body B_X2_mostMade rfl (fun X hX => ?_)
    have loop : ∀ (m : Nat) (q a : Int), 0 ≤ q → n - q = (m : Int) ∨ (m = 0 ∧ n ≤ q) → mxF (fun q => rdA h (5 + 5) 32 (i * 8 + q)) m q a = mxF (fun q => rdA h (5 + 5) 32 (i * 8 + q)) (n - 0).toNat 0 (0) → X 11 [vR 5, vI i, vI n, vI a, vI q] [] (LC N) h 0 0 := by
      intro m
      induction m with
      | zero =>
        intro q a hq hm he
        refine hX 27 [] 11 _ _ _ _ _ _ ?_
        refine And.intro (fun c14 => ?_) (fun c14 => absurd c14 (by omega))
        exact rt_mk (by rw [← he]; rfl) rfl
      | succ m ih =>
        intro q a hq hm he
        refine hX 27 [11] 11 _ _ _ _ _ _ ?_
        refine And.intro (fun c14 => absurd c14 (by omega)) (fun c14 => ?_)
        refine Ok_rt (made_ok (by first | exact Or.inl rfl | exact Or.inr rfl) (by omega) (by omega)) ?_
        refine Ok_rt (max_ok) ?_
        refine And.intro ⟨by omega, by omega⟩ ?_
        exact ih (q + 1) _ (by omega) (by omega) he
    refine hX 27 [11] 0 _ _ _ _ _ _ ?_
    refine Ok_rt (chartRowTotal_ok (by first | exact Or.inl rfl | exact Or.inr rfl)) ?_
    rw [hn]
    exact loop (n - 0).toNat 0 _ (by omega) (by omega) rfl
  · refine ok_body B_X2_mostMade rfl (fun X hX => ?_)
    have loop : ∀ (m : Nat) (q a : Int), 0 ≤ q → n - q = (m : Int) ∨ (m = 0 ∧ n ≤ q) → mxF (fun q => rdA h (19 + 5) 32 (i * 8 + q)) m q a = mxF (fun q => rdA h (19 + 5) 32 (i * 8 + q)) (n - 0).toNat 0 (0) → X 11 [vR 19, vI i, vI n, vI a, vI q] [] (LC N) h 0 0 := by
      intro m
      induction m with
      | zero =>
        intro q a hq hm he
        refine hX 27 [] 11 _ _ _ _ _ _ ?_
        refine And.intro (fun c14 => ?_) (fun c14 => absurd c14 (by omega))
        exact rt_mk (by rw [← he]; rfl) rfl
      | succ m ih =>
        intro q a hq hm he
        refine hX 27 [11] 11 _ _ _ _ _ _ ?_
        refine And.intro (fun c14 => absurd c14 (by omega)) (fun c14 => ?_)
        refine Ok_rt (made_ok (by first | exact Or.inl rfl | exact Or.inr rfl) (by omega) (by omega)) ?_
        refine Ok_rt (max_ok) ?_
        refine And.intro ⟨by omega, by omega⟩ ?_
        exact ih (q + 1) _ (by omega) (by omega) he
    refine hX 27 [11] 0 _ _ _ _ _ _ ?_
    refine Ok_rt (chartRowTotal_ok (by first | exact Or.inl rfl | exact Or.inr rfl)) ?_
    rw [hn]
    exact loop (n - 0).toNat 0 _ (by omega) (by omega) rfl

theorem leastMade_ok (hp : isPt p) {n : Int} (hi : 0 ≤ i ∧ i ≤ 3) (hn : rdA h (p + 3) 4 i = n) (hn2 : n ≤ 1000) : Ok 27 [vR p, vI i] (LC N) h (rt (some (vI (mnF (fun q => rdA h (p + 5) 32 (i * 8 + q)) (n - 1).toNat 1 (rdA h (p + 5) 32 (i * 8 + 0))))) (LC N) h) := by
  rcases hp with rfl | rfl
  · refine ok_body B_X2_leastMade rfl (fun X hX => ?_)
    have loop : ∀ (m : Nat) (q a : Int), 1 ≤ q → n - q = (m : Int) ∨ (m = 0 ∧ n ≤ q) → mnF (fun q => rdA h (5 + 5) 32 (i * 8 + q)) m q a = mnF (fun q => rdA h (5 + 5) 32 (i * 8 + q)) (n - 1).toNat 1 (rdA h (5 + 5) 32 (i * 8 + 0)) → X 16 [vR 5, vI i, vI n, vI a, vI q] [] (LC N) h 0 0 := by
      intro m
      induction m with
      | zero =>
        intro q a hq hm he
        refine hX 30 [] 16 _ _ _ _ _ _ ?_
        refine And.intro (fun c19 => ?_) (fun c19 => absurd c19 (by omega))
        exact rt_mk (by rw [← he]; rfl) rfl
      | succ m ih =>
        intro q a hq hm he
        refine hX 30 [16] 16 _ _ _ _ _ _ ?_
        refine And.intro (fun c19 => absurd c19 (by omega)) (fun c19 => ?_)
        refine Ok_rt (made_ok (by first | exact Or.inl rfl | exact Or.inr rfl) (by omega) (by omega)) ?_
        refine Ok_rt (min_ok) ?_
        refine And.intro ⟨by omega, by omega⟩ ?_
        exact ih (q + 1) _ (by omega) (by omega) he
    refine hX 30 [16] 0 _ _ _ _ _ _ ?_
    refine Ok_rt (chartRowTotal_ok (by first | exact Or.inl rfl | exact Or.inr rfl)) ?_
    refine Ok_rt (made_ok (by first | exact Or.inl rfl | exact Or.inr rfl) (by omega) (by omega)) ?_
    rw [hn]
    exact loop (n - 1).toNat 1 _ (by omega) (by omega) rfl
  · refine ok_body B_X2_leastMade rfl (fun X hX => ?_)
    have loop : ∀ (m : Nat) (q a : Int), 1 ≤ q → n - q = (m : Int) ∨ (m = 0 ∧ n ≤ q) → mnF (fun q => rdA h (19 + 5) 32 (i * 8 + q)) m q a = mnF (fun q => rdA h (19 + 5) 32 (i * 8 + q)) (n - 1).toNat 1 (rdA h (19 + 5) 32 (i * 8 + 0)) → X 16 [vR 19, vI i, vI n, vI a, vI q] [] (LC N) h 0 0 := by
      intro m
      induction m with
      | zero =>
        intro q a hq hm he
        refine hX 30 [] 16 _ _ _ _ _ _ ?_
        refine And.intro (fun c19 => ?_) (fun c19 => absurd c19 (by omega))
        exact rt_mk (by rw [← he]; rfl) rfl
      | succ m ih =>
        intro q a hq hm he
        refine hX 30 [16] 16 _ _ _ _ _ _ ?_
        refine And.intro (fun c19 => absurd c19 (by omega)) (fun c19 => ?_)
        refine Ok_rt (made_ok (by first | exact Or.inl rfl | exact Or.inr rfl) (by omega) (by omega)) ?_
        refine Ok_rt (min_ok) ?_
        refine And.intro ⟨by omega, by omega⟩ ?_
        exact ih (q + 1) _ (by omega) (by omega) he
    refine hX 30 [16] 0 _ _ _ _ _ _ ?_
    refine Ok_rt (chartRowTotal_ok (by first | exact Or.inl rfl | exact Or.inr rfl)) ?_
    refine Ok_rt (made_ok (by first | exact Or.inl rfl | exact Or.inr rfl) (by omega) (by omega)) ?_
    rw [hn]
    exact loop (n - 1).toNat 1 _ (by omega) (by omega) rfl

theorem madeByAll_ok (hp : isPt p) {n : Int} (hi : 0 ≤ i ∧ i ≤ 3) (hn : rdA h (p + 3) 4 i = n) (hn2 : n ≤ 1000) (hf : ∀ q, 0 ≤ q → q < n → 0 ≤ rdA h (p + 5) 32 (i * 8 + q) ∧ rdA h (p + 5) 32 (i * 8 + q) ≤ 1000) : Ok 28 [vR p, vI i] (LC N) h (rt (some (vI (smF (fun q => rdA h (p + 5) 32 (i * 8 + q)) (n - 0).toNat 0 (0)))) (LC N) h) := by
  rcases hp with rfl | rfl
  · refine ok_body B_X2_madeByAll rfl (fun X hX => ?_)
    have loop : ∀ (m : Nat) (q a : Int), 0 ≤ q → n - q = (m : Int) ∨ (m = 0 ∧ n ≤ q) → 0 ≤ a → a ≤ 1000 * q → smF (fun q => rdA h (5 + 5) 32 (i * 8 + q)) m q a = smF (fun q => rdA h (5 + 5) 32 (i * 8 + q)) (n - 0).toNat 0 (0) → X 11 [vR 5, vI i, vI n, vI a, vI q] [] (LC N) h 0 0 := by
      intro m
      induction m with
      | zero =>
        intro q a hq hm ha1 ha2 he
        refine hX 27 [] 11 _ _ _ _ _ _ ?_
        refine And.intro (fun c14 => ?_) (fun c14 => absurd c14 (by omega))
        exact rt_mk (by rw [← he]; rfl) rfl
      | succ m ih =>
        intro q a hq hm ha1 ha2 he
        have hff := hf q (by omega) (by omega)
        refine hX 27 [11] 11 _ _ _ _ _ _ ?_
        refine And.intro (fun c14 => absurd c14 (by omega)) (fun c14 => ?_)
        refine Ok_rt (made_ok (by first | exact Or.inl rfl | exact Or.inr rfl) (by omega) (by omega)) ?_
        refine And.intro ⟨by omega, by omega⟩ ?_
        refine And.intro ⟨by omega, by omega⟩ ?_
        exact ih (q + 1) _ (by omega) (by omega) (by omega) (by omega) he
    refine hX 27 [11] 0 _ _ _ _ _ _ ?_
    refine Ok_rt (chartRowTotal_ok (by first | exact Or.inl rfl | exact Or.inr rfl)) ?_
    rw [hn]
    exact loop (n - 0).toNat 0 _ (by omega) (by omega) (by omega) (by omega) rfl
  · refine ok_body B_X2_madeByAll rfl (fun X hX => ?_)
    have loop : ∀ (m : Nat) (q a : Int), 0 ≤ q → n - q = (m : Int) ∨ (m = 0 ∧ n ≤ q) → 0 ≤ a → a ≤ 1000 * q → smF (fun q => rdA h (19 + 5) 32 (i * 8 + q)) m q a = smF (fun q => rdA h (19 + 5) 32 (i * 8 + q)) (n - 0).toNat 0 (0) → X 11 [vR 19, vI i, vI n, vI a, vI q] [] (LC N) h 0 0 := by
      intro m
      induction m with
      | zero =>
        intro q a hq hm ha1 ha2 he
        refine hX 27 [] 11 _ _ _ _ _ _ ?_
        refine And.intro (fun c14 => ?_) (fun c14 => absurd c14 (by omega))
        exact rt_mk (by rw [← he]; rfl) rfl
      | succ m ih =>
        intro q a hq hm ha1 ha2 he
        have hff := hf q (by omega) (by omega)
        refine hX 27 [11] 11 _ _ _ _ _ _ ?_
        refine And.intro (fun c14 => absurd c14 (by omega)) (fun c14 => ?_)
        refine Ok_rt (made_ok (by first | exact Or.inl rfl | exact Or.inr rfl) (by omega) (by omega)) ?_
        refine And.intro ⟨by omega, by omega⟩ ?_
        refine And.intro ⟨by omega, by omega⟩ ?_
        exact ih (q + 1) _ (by omega) (by omega) (by omega) (by omega) he
    refine hX 27 [11] 0 _ _ _ _ _ _ ?_
    refine Ok_rt (chartRowTotal_ok (by first | exact Or.inl rfl | exact Or.inr rfl)) ?_
    rw [hn]
    exact loop (n - 0).toNat 0 _ (by omega) (by omega) (by omega) (by omega) rfl

theorem addPart_ok (hp : isPt p) {n : Int} (hi : 0 ≤ i ∧ i ≤ 10) (hn : rdA h (p + 6) 6 i = n) (hn2 : 0 ≤ n ∧ n ≤ 100) : Ok 32 [vR p, vI i, vI x] (LC N) h (rt (some (vI n)) (LC N) (addPartH h p i x n)) := by
  rcases hp with rfl | rfl
  · refine ok_body B_X2_addPart rfl (fun X hX => ?_)
    have loop : ∀ (m : Nat) (q : Int) (h1 : HP), 0 ≤ q → 9 - q = (m : Int) → flF (5 + 7) 540 0 m ((i * 10 + n) * 9 + q) h1 = flF (5 + 7) 540 0 9 ((i * 10 + n) * 9) h → X 9 [vR 5, vI i, vI x, vI n, vI q] [] (LC N) h1 0 0 := by
      intro m
      induction m with
      | zero =>
        intro q h1 hq hm he
        refine hX 55 [] 9 _ _ _ _ _ _ ?_
        refine And.intro (fun c13 => ?_) (fun c13 => absurd c13 (by omega))
        refine Ok_rt (setFact_ok (by first | exact Or.inl rfl | exact Or.inr rfl) (by omega) (by omega) (by omega)) ?_
        refine Ok_rt (setFact_ok (by first | exact Or.inl rfl | exact Or.inr rfl) (by omega) (by omega) (by omega)) ?_
        refine Ok_rt (setFact_ok (by first | exact Or.inl rfl | exact Or.inr rfl) (by omega) (by omega) (by omega)) ?_
        refine Ok_rt (setFact_ok (by first | exact Or.inl rfl | exact Or.inr rfl) (by omega) (by omega) (by omega)) ?_
        refine And.intro ⟨by omega, by omega⟩ ?_
        refine Ok_rt (put_ok (len := 6) rfl (by decide)) ?_
        exact rt_mk rfl (by unfold addPartH addPartN; rw [← he]; rfl)
      | succ m ih =>
        intro q h1 hq hm he
        refine hX 55 [9] 9 _ _ _ _ _ _ ?_
        refine And.intro (fun c13 => absurd c13 (by omega)) (fun c13 => ?_)
        refine Ok_rt (setFact_ok (by first | exact Or.inl rfl | exact Or.inr rfl) (by omega) (by omega) (by omega)) ?_
        refine And.intro ⟨by omega, by omega⟩ ?_
        exact ih (q + 1) _ (by omega) (by omega) (by rw [← he, show (i * 10 + n) * 9 + (q + 1) = (i * 10 + n) * 9 + q + 1 by omega]; rfl)
    refine hX 55 [9] 0 _ _ _ _ _ _ ?_
    refine Ok_rt (partTotal_ok (by first | exact Or.inl rfl | exact Or.inr rfl)) ?_
    rw [hn]
    exact loop 9 0 h (by omega) (by omega) (by rw [Int.add_zero])
  · refine ok_body B_X2_addPart rfl (fun X hX => ?_)
    have loop : ∀ (m : Nat) (q : Int) (h1 : HP), 0 ≤ q → 9 - q = (m : Int) → flF (19 + 7) 540 0 m ((i * 10 + n) * 9 + q) h1 = flF (19 + 7) 540 0 9 ((i * 10 + n) * 9) h → X 9 [vR 19, vI i, vI x, vI n, vI q] [] (LC N) h1 0 0 := by
      intro m
      induction m with
      | zero =>
        intro q h1 hq hm he
        refine hX 55 [] 9 _ _ _ _ _ _ ?_
        refine And.intro (fun c13 => ?_) (fun c13 => absurd c13 (by omega))
        refine Ok_rt (setFact_ok (by first | exact Or.inl rfl | exact Or.inr rfl) (by omega) (by omega) (by omega)) ?_
        refine Ok_rt (setFact_ok (by first | exact Or.inl rfl | exact Or.inr rfl) (by omega) (by omega) (by omega)) ?_
        refine Ok_rt (setFact_ok (by first | exact Or.inl rfl | exact Or.inr rfl) (by omega) (by omega) (by omega)) ?_
        refine Ok_rt (setFact_ok (by first | exact Or.inl rfl | exact Or.inr rfl) (by omega) (by omega) (by omega)) ?_
        refine And.intro ⟨by omega, by omega⟩ ?_
        refine Ok_rt (put_ok (len := 6) rfl (by decide)) ?_
        exact rt_mk rfl (by unfold addPartH addPartN; rw [← he]; rfl)
      | succ m ih =>
        intro q h1 hq hm he
        refine hX 55 [9] 9 _ _ _ _ _ _ ?_
        refine And.intro (fun c13 => absurd c13 (by omega)) (fun c13 => ?_)
        refine Ok_rt (setFact_ok (by first | exact Or.inl rfl | exact Or.inr rfl) (by omega) (by omega) (by omega)) ?_
        refine And.intro ⟨by omega, by omega⟩ ?_
        exact ih (q + 1) _ (by omega) (by omega) (by rw [← he, show (i * 10 + n) * 9 + (q + 1) = (i * 10 + n) * 9 + q + 1 by omega]; rfl)
    refine hX 55 [9] 0 _ _ _ _ _ _ ?_
    refine Ok_rt (partTotal_ok (by first | exact Or.inl rfl | exact Or.inr rfl)) ?_
    rw [hn]
    exact loop 9 0 h (by omega) (by omega) (by rw [Int.add_zero])

theorem empty_ok (hp : isPt p) : Ok 18 [vR p] (LC N) h (rt none (LC N) (flF (p + 2) 4 0 4 0 h)) := by
  rcases hp with rfl | rfl
  · refine ok_body B_X2_empty rfl (fun X hX => ?_)
    have loop : ∀ (m : Nat) (q : Int) (h1 : HP), 0 ≤ q → 4 - q = (m : Int) → flF (5 + 2) 4 0 m q h1 = flF (5 + 2) 4 0 4 0 h → X 2 [vR 5, vI q] [] (LC N) h1 0 0 := by
      intro m
      induction m with
      | zero =>
        intro q h1 hq hm he
        refine hX 18 [] 2 _ _ _ _ _ _ ?_
        refine And.intro (fun c4 => ?_) (fun c4 => absurd c4 (by omega))
        exact rt_mk rfl he
      | succ m ih =>
        intro q h1 hq hm he
        refine hX 18 [2] 2 _ _ _ _ _ _ ?_
        refine And.intro (fun c4 => absurd c4 (by omega)) (fun c4 => ?_)
        refine Ok_rt (put_ok (len := 4) rfl (by decide)) ?_
        refine And.intro ⟨by omega, by omega⟩ ?_
        exact ih (q + 1) _ (by omega) (by omega) he
    refine hX 18 [2] 0 _ _ _ _ _ _ ?_
    exact loop 4 0 h (by omega) (by omega) rfl
  · refine ok_body B_X2_empty rfl (fun X hX => ?_)
    have loop : ∀ (m : Nat) (q : Int) (h1 : HP), 0 ≤ q → 4 - q = (m : Int) → flF (19 + 2) 4 0 m q h1 = flF (19 + 2) 4 0 4 0 h → X 2 [vR 19, vI q] [] (LC N) h1 0 0 := by
      intro m
      induction m with
      | zero =>
        intro q h1 hq hm he
        refine hX 18 [] 2 _ _ _ _ _ _ ?_
        refine And.intro (fun c4 => ?_) (fun c4 => absurd c4 (by omega))
        exact rt_mk rfl he
      | succ m ih =>
        intro q h1 hq hm he
        refine hX 18 [2] 2 _ _ _ _ _ _ ?_
        refine And.intro (fun c4 => absurd c4 (by omega)) (fun c4 => ?_)
        refine Ok_rt (put_ok (len := 4) rfl (by decide)) ?_
        refine And.intro ⟨by omega, by omega⟩ ?_
        exact ih (q + 1) _ (by omega) (by omega) he
    refine hX 18 [2] 0 _ _ _ _ _ _ ?_
    exact loop 4 0 h (by omega) (by omega) rfl

def copyPH (h : HP) : HP := cpA (cpA (cpA (cpA (cpA (cpA (cpF 6 32 20 32 32 0 h) 7 4 0 21 4 0 4) 8 4 0 22 4 0 4) 9 32 0 23 32 0 32) 10 32 0 24 32 0 32) 11 6 0 25 6 0 6) 12 540 0 26 540 0 540
theorem copyFrom_ok : Ok 17 [vR 19, vR 5] (LC N) h (rt none (LC N) (copyPH h)) := by
  refine ok_body B_X2_copyFrom rfl (fun X hX => ?_)
  have loop : ∀ (m : Nat) (q : Int) (h1 : HP), 0 ≤ q → 32 - q = (m : Int) → cpF 6 32 20 32 m q h1 = cpF 6 32 20 32 32 0 h → X 2 [vR 19, vR 5, vI q] [] (LC N) h1 0 0 := by
    intro m
    induction m with
    | zero =>
      intro q h1 hq hm he
      refine hX 53 [] 2 _ _ _ _ _ _ ?_
      refine And.intro (fun c8 => ?_) (fun c8 => absurd c8 (by omega))
      refine Ok_rt (copyAll_ok rfl rfl (by decide) (by decide) (by decide)) ?_
      refine Ok_rt (copyAll_ok rfl rfl (by decide) (by decide) (by decide)) ?_
      refine Ok_rt (copyAll_ok rfl rfl (by decide) (by decide) (by decide)) ?_
      refine Ok_rt (copyAll_ok rfl rfl (by decide) (by decide) (by decide)) ?_
      refine Ok_rt (copyAll_ok rfl rfl (by decide) (by decide) (by decide)) ?_
      refine Ok_rt (copyAll_ok rfl rfl (by decide) (by decide) (by decide)) ?_
      exact rt_mk rfl (by unfold copyPH; rw [← he]; rfl)
    | succ m ih =>
      intro q h1 hq hm he
      refine hX 53 [2] 2 _ _ _ _ _ _ ?_
      refine And.intro (fun c8 => absurd c8 (by omega)) (fun c8 => ?_)
      refine Ok_rt (atL_ok (len := 32) rfl (by decide)) ?_
      refine Ok_rt (putL_ok (len := 32) rfl (by decide)) ?_
      refine And.intro ⟨by omega, by omega⟩ ?_
      exact ih (q + 1) _ (by omega) (by omega) he
  refine hX 53 [2] 0 _ _ _ _ _ _ ?_
  exact loop 32 0 h (by omega) (by omega) rfl
end PATTERN
