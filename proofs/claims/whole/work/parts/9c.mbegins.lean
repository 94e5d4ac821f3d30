/-! ===== the model: begins =====
 k numbers of cell a laid into cell b -/
def cpy (g : HP) (a b k : Nat) : HP := fun c p => if c = b ∧ p < k then g a p else g c p
theorem cpy_0 {g : HP} {a b : Nat} : cpy g a b 0 = g := by
  funext c p
  unfold cpy
  rw [if_neg (fun z => by omega)]
theorem cpy_cell {g : HP} {a b k c : Nat} (n : c ≠ b) : cpy g a b k c = g c := by
  funext p
  unfold cpy
  rw [if_neg (fun z => n z.1)]
theorem cpy_in {g : HP} {a b k p : Nat} (h : p < k) : cpy g a b k b p = g a p := by
  unfold cpy
  rw [if_pos ⟨rfl, h⟩]
theorem cpy_up {g : HP} {a b k : Nat} (n : a ≠ b) : up (cpy g a b k) b k (cpy g a b k a k) = cpy g a b (k + 1) := by
  rw [cpy_cell n]
  funext c p
  by_cases z : c = b
  · subst z
    rw [up_at]
    unfold cpy
    by_cases y : p = k
    · rw [if_pos y, if_pos ⟨rfl, by omega⟩, y]
    · rw [if_neg y]
      by_cases w : p < k
      · rw [if_pos ⟨rfl, w⟩, if_pos ⟨rfl, by omega⟩]
      · rw [if_neg (fun u => w u.2), if_neg (fun u => by omega)]
  · rw [up_cell z, cpy_cell z, cpy_cell z]
/-- what begins leaves -/
def bgA (g : HP) : HP := up (up (up (up g 50 1 (g 50 25)) 50 2 (g 50 26)) 50 3 (g 50 27)) 50 4 (g 50 28)
def bgB (g : HP) : HP := cpy (bgA g) 62 51 4
def bgC (g : HP) : HP := cpy (cpy (bgB g) 63 52 32) 64 53 32
def bgD (g : HP) : HP := cpy (bgC g) 65 54 6
def bgE (g : HP) : HP := cpy (bgD g) 66 55 480
def bgF (g : HP) : HP := cpy (bgE g) 68 56 192
def bgG (g : HP) : HP := cpy (bgF g) 67 57 132
def bgH (g : HP) : HP := up (up (up (bgG g) 50 15 0) 60 0 0) 60 1 0
section MBEGINS
variable {M : List CT} {g : HP}
theorem m_begins : Ok 208 [vR 50] (LL M) g (rt none (LL M) (bgH g)) := by
  refine ok_body B_X9_begins rfl (fun X hX => ?_)
  have l7 : ∀ (m k : Nat), k + m = 132 → X 177 [vR 50, vI (k : Int)] [] (LL M) (cpy (bgF g) 67 57 k) 0 0 := by
    intro m
    induction m with
    | zero =>
      intro k hk
      have e : k = 132 := by omega
      subst e
      refine hX 40 [] 177 _ _ _ _ _ _ ?_
      refine And.intro (fun _ => ?_) (fun y => absurd y (by decide))
      refine And.intro ⟨by decide, by decide⟩ ?_
      refine And.intro ⟨by decide, by decide⟩ ?_
      exact rt_mk rfl rfl
    | succ m ih =>
      intro k hk
      refine hX 30 [177] 177 _ _ _ _ _ _ ?_
      refine And.intro (fun y => absurd (show (132 : Int) ≤ (k : Int) from y) (by omega)) (fun _ => ?_)
      refine And.intro (show 0 ≤ (k : Int) ∧ (k : Int) < 132 from ⟨by omega, by omega⟩) ?_
      refine And.intro (show 0 ≤ (k : Int) ∧ (k : Int) < 132 from ⟨by omega, by omega⟩) ?_
      refine And.intro (show inR ((k : Int) + 1) from ⟨by omega, by omega⟩) ?_
      rw [Int.toNat_natCast, cpy_up (by decide)]
      exact ih (k + 1) (by omega)
  have l6 : ∀ (m k : Nat), k + m = 192 → X 150 [vR 50, vI (k : Int)] [] (LL M) (cpy (bgE g) 68 56 k) 0 0 := by
    intro m
    induction m with
    | zero =>
      intro k hk
      have e : k = 192 := by omega
      subst e
      refine hX 40 [177] 150 _ _ _ _ _ _ ?_
      refine And.intro (fun _ => ?_) (fun y => absurd y (by decide))
      show X 177 [_, vI 0] _ _ _ _ _
      have a := l7 132 0 (by omega)
      rw [cpy_0] at a
      exact a
    | succ m ih =>
      intro k hk
      refine hX 30 [150] 150 _ _ _ _ _ _ ?_
      refine And.intro (fun y => absurd (show (192 : Int) ≤ (k : Int) from y) (by omega)) (fun _ => ?_)
      refine And.intro (show 0 ≤ (k : Int) ∧ (k : Int) < 192 from ⟨by omega, by omega⟩) ?_
      refine And.intro (show 0 ≤ (k : Int) ∧ (k : Int) < 192 from ⟨by omega, by omega⟩) ?_
      refine And.intro (show inR ((k : Int) + 1) from ⟨by omega, by omega⟩) ?_
      rw [Int.toNat_natCast, cpy_up (by decide)]
      exact ih (k + 1) (by omega)
  have l5 : ∀ (m k : Nat), k + m = 480 → X 123 [vR 50, vI (k : Int)] [] (LL M) (cpy (bgD g) 66 55 k) 0 0 := by
    intro m
    induction m with
    | zero =>
      intro k hk
      have e : k = 480 := by omega
      subst e
      refine hX 40 [150] 123 _ _ _ _ _ _ ?_
      refine And.intro (fun _ => ?_) (fun y => absurd y (by decide))
      show X 150 [_, vI 0] _ _ _ _ _
      have a := l6 192 0 (by omega)
      rw [cpy_0] at a
      exact a
    | succ m ih =>
      intro k hk
      refine hX 30 [123] 123 _ _ _ _ _ _ ?_
      refine And.intro (fun y => absurd (show (480 : Int) ≤ (k : Int) from y) (by omega)) (fun _ => ?_)
      refine And.intro (show 0 ≤ (k : Int) ∧ (k : Int) < 480 from ⟨by omega, by omega⟩) ?_
      refine And.intro (show 0 ≤ (k : Int) ∧ (k : Int) < 480 from ⟨by omega, by omega⟩) ?_
      refine And.intro (show inR ((k : Int) + 1) from ⟨by omega, by omega⟩) ?_
      rw [Int.toNat_natCast, cpy_up (by decide)]
      exact ih (k + 1) (by omega)
  have l4 : ∀ (m k : Nat), k + m = 6 → X 97 [vR 50, vI (k : Int)] [] (LL M) (cpy (bgC g) 65 54 k) 0 0 := by
    intro m
    induction m with
    | zero =>
      intro k hk
      have e : k = 6 := by omega
      subst e
      refine hX 40 [123] 97 _ _ _ _ _ _ ?_
      refine And.intro (fun _ => ?_) (fun y => absurd y (by decide))
      show X 123 [_, vI 0] _ _ _ _ _
      have a := l5 480 0 (by omega)
      rw [cpy_0] at a
      exact a
    | succ m ih =>
      intro k hk
      refine hX 30 [97] 97 _ _ _ _ _ _ ?_
      refine And.intro (fun y => absurd (show (6 : Int) ≤ (k : Int) from y) (by omega)) (fun _ => ?_)
      refine And.intro (show 0 ≤ (k : Int) ∧ (k : Int) < 6 from ⟨by omega, by omega⟩) ?_
      refine And.intro (show 0 ≤ (k : Int) ∧ (k : Int) < 6 from ⟨by omega, by omega⟩) ?_
      refine And.intro (show inR ((k : Int) + 1) from ⟨by omega, by omega⟩) ?_
      rw [Int.toNat_natCast, cpy_up (by decide)]
      exact ih (k + 1) (by omega)
  have l3 : ∀ (m k : Nat), k + m = 32 → X 59 [vR 50, vI (k : Int)] [] (LL M) (cpy (cpy (bgB g) 63 52 k) 64 53 k) 0 0 := by
    intro m
    induction m with
    | zero =>
      intro k hk
      have e : k = 32 := by omega
      subst e
      refine hX 40 [97] 59 _ _ _ _ _ _ ?_
      refine And.intro (fun _ => ?_) (fun y => absurd y (by decide))
      show X 97 [_, vI 0] _ _ _ _ _
      have a := l4 6 0 (by omega)
      rw [cpy_0] at a
      exact a
    | succ m ih =>
      intro k hk
      have sw : up (cpy (cpy (bgB g) 63 52 k) 64 53 k) 52 k (cpy (cpy (bgB g) 63 52 k) 64 53 k 63 k) = cpy (cpy (bgB g) 63 52 (k + 1)) 64 53 k := by
        rw [← cpy_up (by decide)]
        funext c p
        by_cases z : c = 52
        · subst z
          rw [up_at, cpy_cell (g := up (cpy (bgB g) 63 52 k) 52 k (cpy (bgB g) 63 52 k 63 k)) (by decide), up_at, cpy_cell (g := cpy (bgB g) 63 52 k) (c := 63) (b := 53) (by decide), cpy_cell (g := cpy (bgB g) 63 52 k) (c := 52) (b := 53) (by decide)]
        · rw [up_cell z]
          by_cases y : c = 53
          · subst y
            unfold cpy up
            simp
          · rw [cpy_cell y, cpy_cell y, up_cell z]
      refine hX 30 [59] 59 _ _ _ _ _ _ ?_
      refine And.intro (fun y => absurd (show (32 : Int) ≤ (k : Int) from y) (by omega)) (fun _ => ?_)
      refine And.intro (show 0 ≤ (k : Int) ∧ (k : Int) < 32 from ⟨by omega, by omega⟩) ?_
      refine And.intro (show 0 ≤ (k : Int) ∧ (k : Int) < 32 from ⟨by omega, by omega⟩) ?_
      rw [Int.toNat_natCast, sw]
      refine And.intro (show 0 ≤ (k : Int) ∧ (k : Int) < 32 from ⟨by omega, by omega⟩) ?_
      refine And.intro (show 0 ≤ (k : Int) ∧ (k : Int) < 32 from ⟨by omega, by omega⟩) ?_
      refine And.intro (show inR ((k : Int) + 1) from ⟨by omega, by omega⟩) ?_
      rw [Int.toNat_natCast, cpy_up (by decide)]
      exact ih (k + 1) (by omega)
  have l2 : ∀ (m k : Nat), k + m = 4 → X 34 [vR 50, vI (k : Int)] [] (LL M) (cpy (bgA g) 62 51 k) 0 0 := by
    intro m
    induction m with
    | zero =>
      intro k hk
      have e : k = 4 := by omega
      subst e
      refine hX 40 [59] 34 _ _ _ _ _ _ ?_
      refine And.intro (fun _ => ?_) (fun y => absurd y (by decide))
      show X 59 [_, vI 0] _ _ _ _ _
      have a := l3 32 0 (by omega)
      rw [cpy_0, cpy_0] at a
      exact a
    | succ m ih =>
      intro k hk
      refine hX 30 [34] 34 _ _ _ _ _ _ ?_
      refine And.intro (fun y => absurd (show (4 : Int) ≤ (k : Int) from y) (by omega)) (fun _ => ?_)
      refine And.intro (show 0 ≤ (k : Int) ∧ (k : Int) < 4 from ⟨by omega, by omega⟩) ?_
      refine And.intro (show 0 ≤ (k : Int) ∧ (k : Int) < 4 from ⟨by omega, by omega⟩) ?_
      refine And.intro (show inR ((k : Int) + 1) from ⟨by omega, by omega⟩) ?_
      rw [Int.toNat_natCast, cpy_up (by decide)]
      exact ih (k + 1) (by omega)
  refine hX 40 [32] 0 _ _ _ _ _ _ ?_
  have eA : up (up (up (up g 50 1 (g 50 25)) 50 2 (up g 50 1 (g 50 25) 50 26)) 50 3 (up (up g 50 1 (g 50 25)) 50 2 (up g 50 1 (g 50 25) 50 26) 50 27)) 50 4 (up (up (up g 50 1 (g 50 25)) 50 2 (up g 50 1 (g 50 25) 50 26)) 50 3 (up (up g 50 1 (g 50 25)) 50 2 (up g 50 1 (g 50 25) 50 26) 50 27) 50 28) = bgA g := by
    unfold bgA
    rw [up_ne (by decide), up_ne (by decide), up_ne (by decide), up_ne (by decide), up_ne (by decide), up_ne (by decide)]
  have go : X 32 [vR 50, vU] [] (LL M) (bgA g) 0 0 := by
    refine hX 40 [34] 32 _ _ _ _ _ _ ?_
    show X 34 [_, vI 0] _ _ _ _ _
    have a := l2 4 0 (by omega)
    rw [cpy_0] at a
    exact a
  rw [← eA] at go
  exact go
end MBEGINS
