/-! ===== Plan: knitting a piece ===== -/
def isPl (b : Nat) : Prop := b = 31 ∨ b = 36
def isPS (b o a : Nat) : Prop := (b = 31 ∧ o = 27 ∧ a = 28) ∨ (b = 36 ∧ o = 29 ∧ a = 30)
def Frm (b : Nat) (h h' : HP) : Prop := ∀ c, (c < b ∨ b + 4 < c) → h' c = h c
/-- plan b holds the knitting of piece p -/
def PlanIs (h : HP) (b : Nat) (D : KD) (n : Nat) (p : Int) : Prop :=
  h b 5 = p ∧ h b 6 = (md D n : Nat) ∧ h b 7 = tp D (md D n) ∧ h b 8 = fl D n ∧ ∀ k : Nat, k < md D n → rdA h (b + 1) 10 k = tp D k ∧ rdA h (b + 2) 10 k = kR D k ∧ rdA h (b + 3) 10 k = hv D k ∧ rdA h (b + 4) 10 k = hv D (k + 1)
def addPartP (h : HP) (b : Nat) (x y z : Int) : HP :=
  up (up (wrA (wrA (wrA (wrA h (b + 1) 10 (h b 6) (h b 7)) (b + 2) 10 (h b 6) x) (b + 3) 10 (h b 6) y) (b + 4) 10 (h b 6) z) b 6 (h b 6 + 1)) b 7 (h b 7 + x)
theorem td100 {x : Int} (h0 : 0 ≤ x) (h1 : x ≤ 2000000000) : inR (x.tdiv 100) := by rw [Int.tdiv_eq_ediv_of_nonneg h0]; exact ⟨by omega, by omega⟩
theorem td_bd {x y : Int} (h0 : 0 ≤ x) (h1 : 0 ≤ y) : 0 ≤ x.tdiv y ∧ x.tdiv y ≤ x := by
  rw [Int.tdiv_eq_ediv_of_nonneg h0]
  exact ⟨Int.ediv_nonneg h0 h1, Int.ediv_le_self y h0⟩
theorem tm_bd {x y : Int} (h0 : 0 ≤ x) (h1 : 0 < y) : 0 ≤ x.tmod y ∧ x.tmod y < y ∧ x.tmod y ≤ x := by
  rw [Int.tmod_eq_emod_of_nonneg h0]
  have e := Int.mul_ediv_add_emod x y
  have f := Int.mul_nonneg (Int.le_of_lt h1) (Int.ediv_nonneg h0 (Int.le_of_lt h1))
  exact ⟨Int.emod_nonneg x (by omega), Int.emod_lt_of_pos x h1, by omega⟩
theorem ab_bd {x A : Int} (h0 : -A ≤ x) (h1 : x ≤ A) : 0 ≤ ab x ∧ ab x ≤ A := by unfold ab; split <;> omega
theorem nz {x : Int} (h : 1 ≤ x) : x ≠ 0 := by omega
theorem td_in {x y : Int} (h : 0 ≤ x ∧ x ≤ 10000) (h1 : 1 ≤ y) : inR (x.tdiv y) := by have e := td_bd (y := y) h.1 (by omega); exact ⟨by omega, by omega⟩
section PLAN
variable {N : List CT} {h : HP} {b o a : Nat} {i j k s p x y z w : Int} {tot pc : Nat → Int}
theorem pfact_ok (hb : isPl b) (hp : h b 5 = p) (hp2 : 0 ≤ p ∧ p ≤ 10) (hk : -1 ≤ k ∧ k ≤ 1000) (hw : 0 ≤ w ∧ w ≤ 10) : Ok 42 [vR b, vI k, vI w] (LC N) h (rt (some (vI (cF (h 26) p k w))) (LC N) h) := by
  rcases hb with rfl | rfl
  · refine ok_body B_X3_fact rfl (fun X hX => ?_)
    subst hp
    refine hX 13 [] 0 _ _ _ _ _ _ ?_
    refine Ok_rt (fact_ok (Or.inr rfl) (by omega) (by omega) (by omega)) ?_
    exact rt_mk rfl rfl
  · refine ok_body B_X3_fact rfl (fun X hX => ?_)
    subst hp
    refine hX 13 [] 0 _ _ _ _ _ _ ?_
    refine Ok_rt (fact_ok (Or.inr rfl) (by omega) (by omega) (by omega)) ?_
    exact rt_mk rfl rfl

theorem rowsOf_ok (hb : isPl b) : Ok 43 [vR b, vI k] (LC N) h (rt (some (vI (rdA h (b + 2) 10 k))) (LC N) h) := by
  rcases hb with rfl | rfl
  · refine ok_body B_X3_rowsOf rfl (fun X hX => ?_)
    refine hX 10 [] 0 _ _ _ _ _ _ ?_
    refine Ok_rt (at_ok (a := 31 + 2) (len := 10) rfl (by decide)) ?_
    exact rt_mk rfl rfl
  · refine ok_body B_X3_rowsOf rfl (fun X hX => ?_)
    refine hX 10 [] 0 _ _ _ _ _ _ ?_
    refine Ok_rt (at_ok (a := 36 + 2) (len := 10) rfl (by decide)) ?_
    exact rt_mk rfl rfl

theorem ahead_ok (hb : isPl b) : Ok 45 [vR b, vI k] (LC N) h (rt (some (vI (rdA h (b + 3) 10 k))) (LC N) h) := by
  rcases hb with rfl | rfl
  · refine ok_body B_X3_ahead rfl (fun X hX => ?_)
    refine hX 10 [] 0 _ _ _ _ _ _ ?_
    refine Ok_rt (at_ok (a := 31 + 3) (len := 10) rfl (by decide)) ?_
    exact rt_mk rfl rfl
  · refine ok_body B_X3_ahead rfl (fun X hX => ?_)
    refine hX 10 [] 0 _ _ _ _ _ _ ?_
    refine Ok_rt (at_ok (a := 36 + 3) (len := 10) rfl (by decide)) ?_
    exact rt_mk rfl rfl

theorem after_ok (hb : isPl b) : Ok 46 [vR b, vI k] (LC N) h (rt (some (vI (rdA h (b + 4) 10 k))) (LC N) h) := by
  rcases hb with rfl | rfl
  · refine ok_body B_X3_after rfl (fun X hX => ?_)
    refine hX 10 [] 0 _ _ _ _ _ _ ?_
    refine Ok_rt (at_ok (a := 31 + 4) (len := 10) rfl (by decide)) ?_
    exact rt_mk rfl rfl
  · refine ok_body B_X3_after rfl (fun X hX => ?_)
    refine hX 10 [] 0 _ _ _ _ _ _ ?_
    refine Ok_rt (at_ok (a := 36 + 4) (len := 10) rfl (by decide)) ?_
    exact rt_mk rfl rfl

theorem rowBehind_ok (hb : isPl b) (h1 : 0 ≤ rdA h (b + 1) 10 k ∧ rdA h (b + 1) 10 k ≤ 100000) (h2 : 0 ≤ rdA h (b + 2) 10 k ∧ rdA h (b + 2) 10 k ≤ 100000) : Ok 44 [vR b, vI k] (LC N) h (rt (some (vI (rdA h (b + 1) 10 k + rdA h (b + 2) 10 k))) (LC N) h) := by
  rcases hb with rfl | rfl
  · refine ok_body B_X3_rowBehind rfl (fun X hX => ?_)
    refine hX 14 [] 0 _ _ _ _ _ _ ?_
    refine Ok_rt (at_ok (a := 31 + 1) (len := 10) rfl (by decide)) ?_
    refine Ok_rt (rowsOf_ok (by first | exact Or.inl rfl | exact Or.inr rfl)) ?_
    refine And.intro ⟨by omega, by omega⟩ ?_
    exact rt_mk rfl rfl
  · refine ok_body B_X3_rowBehind rfl (fun X hX => ?_)
    refine hX 14 [] 0 _ _ _ _ _ _ ?_
    refine Ok_rt (at_ok (a := 36 + 1) (len := 10) rfl (by decide)) ?_
    refine Ok_rt (rowsOf_ok (by first | exact Or.inl rfl | exact Or.inr rfl)) ?_
    refine And.intro ⟨by omega, by omega⟩ ?_
    exact rt_mk rfl rfl

theorem paddPart_ok (hb : isPl b) (h6 : 0 ≤ h b 6 ∧ h b 6 ≤ 100) (h7 : 0 ≤ h b 7 ∧ h b 7 ≤ 100000) (hx : 0 ≤ x ∧ x ≤ 100000) : Ok 41 [vR b, vI x, vI y, vI z] (LC N) h (rt none (LC N) (addPartP h b x y z)) := by
  rcases hb with rfl | rfl
  · refine ok_body B_X3_addPart rfl (fun X hX => ?_)
    refine hX 43 [] 0 _ _ _ _ _ _ ?_
    refine Ok_rt (put_ok (a := 32) (len := 10) rfl (by decide)) ?_
    refine Ok_rt (put_ok (a := 33) (len := 10) rfl (by decide)) ?_
    refine Ok_rt (put_ok (a := 34) (len := 10) rfl (by decide)) ?_
    refine Ok_rt (put_ok (a := 35) (len := 10) rfl (by decide)) ?_
    refine And.intro (by simp only [wrA_cell (show (31 : Nat) ≠ 32 by decide), wrA_cell (show (31 : Nat) ≠ 33 by decide), wrA_cell (show (31 : Nat) ≠ 34 by decide), wrA_cell (show (31 : Nat) ≠ 35 by decide), up_ne (show (7 : Nat) ≠ 6 by decide)]; exact ⟨by omega, by omega⟩) ?_
    refine And.intro (by simp only [wrA_cell (show (31 : Nat) ≠ 32 by decide), wrA_cell (show (31 : Nat) ≠ 33 by decide), wrA_cell (show (31 : Nat) ≠ 34 by decide), wrA_cell (show (31 : Nat) ≠ 35 by decide), up_ne (show (7 : Nat) ≠ 6 by decide)]; exact ⟨by omega, by omega⟩) ?_
    exact rt_mk rfl (by simp only [wrA_cell (show (31 : Nat) ≠ 32 by decide), wrA_cell (show (31 : Nat) ≠ 33 by decide), wrA_cell (show (31 : Nat) ≠ 34 by decide), wrA_cell (show (31 : Nat) ≠ 35 by decide), up_ne (show (7 : Nat) ≠ 6 by decide)]; rfl)
  · refine ok_body B_X3_addPart rfl (fun X hX => ?_)
    refine hX 43 [] 0 _ _ _ _ _ _ ?_
    refine Ok_rt (put_ok (a := 37) (len := 10) rfl (by decide)) ?_
    refine Ok_rt (put_ok (a := 38) (len := 10) rfl (by decide)) ?_
    refine Ok_rt (put_ok (a := 39) (len := 10) rfl (by decide)) ?_
    refine Ok_rt (put_ok (a := 40) (len := 10) rfl (by decide)) ?_
    refine And.intro (by simp only [wrA_cell (show (36 : Nat) ≠ 37 by decide), wrA_cell (show (36 : Nat) ≠ 38 by decide), wrA_cell (show (36 : Nat) ≠ 39 by decide), wrA_cell (show (36 : Nat) ≠ 40 by decide), up_ne (show (7 : Nat) ≠ 6 by decide)]; exact ⟨by omega, by omega⟩) ?_
    refine And.intro (by simp only [wrA_cell (show (36 : Nat) ≠ 37 by decide), wrA_cell (show (36 : Nat) ≠ 38 by decide), wrA_cell (show (36 : Nat) ≠ 39 by decide), wrA_cell (show (36 : Nat) ≠ 40 by decide), up_ne (show (7 : Nat) ≠ 6 by decide)]; exact ⟨by omega, by omega⟩) ?_
    exact rt_mk rfl (by simp only [wrA_cell (show (36 : Nat) ≠ 37 by decide), wrA_cell (show (36 : Nat) ≠ 38 by decide), wrA_cell (show (36 : Nat) ≠ 39 by decide), wrA_cell (show (36 : Nat) ≠ 40 by decide), up_ne (show (7 : Nat) ≠ 6 by decide)]; rfl)

theorem cFk {fc : Nat → Int} {p k w : Int} : rdA (fun _ => fc) 0 540 ((p * 10 + k) * 9 + w) = cF fc p k w := rfl
end PLAN
