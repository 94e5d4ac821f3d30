/-! ===== the class's cells, by number (N: what lies behind); State: one contract a method =====
 1 KnitGrader, 2 Text (3 bytes), 4 Reader (5 Pattern, 6 names, 7 nameCounts, 8 chartRowCounts, 9 rowTakes, 10 rowMakes, 11 partCounts, 12 facts; 13 State, 14 cells; 15 kinds, 16 starts, 17 ends, 18 values),
 19 Pattern (20 .. 26), 27 State (28), 29 otherState (30), 31 Plan (32 firstRows, 33 rowCounts, 34 ahead, 35 after), 36 otherPlan (37 .. 40), 41 Dealer (42 needs, 43 setNeeds, 44 setPlaces, 45 costs), 46 past (47), 48 slots (49) -/
def LC (N : List CT) : List CT := .inl (7, [2, 4, 19, 27, 29, 31, 36, 41, 46, 48, 0, 0, 0, 0, 0]) :: .inl (6, [3, 0]) :: .inr (2, 1500) :: .inl (3, [2, 5, 13, 15, 16, 17, 18, 0, 0, 0, 0, 0]) ::
  .inl (1, [6, 7, 8, 9, 10, 11, 12]) :: .inr (1, 32) :: .inr (0, 4) :: .inr (0, 4) :: .inr (0, 32) :: .inr (0, 32) :: .inr (0, 6) :: .inr (0, 540) :: .inl (5, [14]) :: .inr (0, 132) ::
  .inr (0, 1501) :: .inr (0, 1501) :: .inr (0, 1501) :: .inr (1, 1501) ::
  .inl (1, [20, 21, 22, 23, 24, 25, 26]) :: .inr (1, 32) :: .inr (0, 4) :: .inr (0, 4) :: .inr (0, 32) :: .inr (0, 32) :: .inr (0, 6) :: .inr (0, 540) :: .inl (5, [28]) :: .inr (0, 132) :: .inl (5, [30]) :: .inr (0, 132) ::
  .inl (2, [19, 32, 33, 34, 35, 0, 0, 0, 0]) :: .inr (0, 10) :: .inr (0, 10) :: .inr (0, 10) :: .inr (0, 10) :: .inl (2, [19, 37, 38, 39, 40, 0, 0, 0, 0]) :: .inr (0, 10) :: .inr (0, 10) :: .inr (0, 10) :: .inr (0, 10) ::
  .inl (0, [19, 31, 42, 43, 44, 45]) :: .inr (1, 24) :: .inr (1, 64) :: .inr (0, 64) :: .inr (0, 64) :: .inl (4, [47]) :: .inr (0, 1056) :: .inl (4, [49]) :: .inr (0, 264) :: N
def isSt (o : Nat) : Prop := o = 13 ∨ o = 27 ∨ o = 29
def isPt (o : Nat) : Prop := o = 5 ∨ o = 19
section STATE
variable {N : List CT} {h : HP} {o : Nat} {i j x : Int}
theorem cell_ok (ho : isSt o) : Ok 102 [vR o, vI i] (LC N) h (rt (some (vI (rdA h (o + 1) 132 i))) (LC N) h) := by
  rcases ho with rfl | rfl | rfl <;>
  (refine ok_body B_X6_cell rfl (fun X hX => ?_)
   refine hX 10 [] 0 _ _ _ _ _ _ ?_
   refine Ok_rt (at_ok (len := 132) rfl (by decide)) ?_
   exact rt_mk rfl rfl)

theorem setCell_ok (ho : isSt o) : Ok 103 [vR o, vI i, vI x] (LC N) h (rt none (LC N) (wrA h (o + 1) 132 i x)) := by
  rcases ho with rfl | rfl | rfl <;>
  (refine ok_body B_X6_setCell rfl (fun X hX => ?_)
   refine hX 11 [] 0 _ _ _ _ _ _ ?_
   refine Ok_rt (put_ok (len := 132) rfl (by decide)) ?_
   exact rt_mk rfl rfl)

theorem measured_ok (ho : isSt o) (hi : -1000 ≤ i ∧ i ≤ 1000) (hj : -1000 ≤ j ∧ j ≤ 1000) : Ok 104 [vR o, vI i, vI j] (LC N) h (rt (some (vI (rdA h (o + 1) 132 (24 + i * 6 + j)))) (LC N) h) := by
  rcases ho with rfl | rfl | rfl <;>
  (refine ok_body B_X6_measured rfl (fun X hX => ?_)
   refine hX 15 [] 0 _ _ _ _ _ _ ?_
   refine And.intro ⟨by omega, by omega⟩ ?_
   refine And.intro ⟨by omega, by omega⟩ ?_
   refine And.intro ⟨by omega, by omega⟩ ?_
   refine Ok_rt (cell_ok (by first | exact Or.inl rfl | exact Or.inr (Or.inl rfl) | exact Or.inr (Or.inr rfl))) ?_
   exact rt_mk rfl rfl)

theorem setMeasured_ok (ho : isSt o) (hi : -1000 ≤ i ∧ i ≤ 1000) (hj : -1000 ≤ j ∧ j ≤ 1000) : Ok 105 [vR o, vI i, vI j, vI x] (LC N) h (rt none (LC N) (wrA h (o + 1) 132 (24 + i * 6 + j) x)) := by
  rcases ho with rfl | rfl | rfl <;>
  (refine ok_body B_X6_setMeasured rfl (fun X hX => ?_)
   refine hX 16 [] 0 _ _ _ _ _ _ ?_
   refine And.intro ⟨by omega, by omega⟩ ?_
   refine And.intro ⟨by omega, by omega⟩ ?_
   refine And.intro ⟨by omega, by omega⟩ ?_
   refine Ok_rt (setCell_ok (by first | exact Or.inl rfl | exact Or.inr (Or.inl rfl) | exact Or.inr (Or.inr rfl))) ?_
   exact rt_mk rfl rfl)

theorem easeOf_ok (ho : isSt o) (hi : -1000 ≤ i ∧ i ≤ 1000) (hj : -1000 ≤ j ∧ j ≤ 1000) : Ok 106 [vR o, vI i, vI j] (LC N) h (rt (some (vI (rdA h (o + 1) 132 (72 + i * 10 + j)))) (LC N) h) := by
  rcases ho with rfl | rfl | rfl <;>
  (refine ok_body B_X6_easeOf rfl (fun X hX => ?_)
   refine hX 15 [] 0 _ _ _ _ _ _ ?_
   refine And.intro ⟨by omega, by omega⟩ ?_
   refine And.intro ⟨by omega, by omega⟩ ?_
   refine And.intro ⟨by omega, by omega⟩ ?_
   refine Ok_rt (cell_ok (by first | exact Or.inl rfl | exact Or.inr (Or.inl rfl) | exact Or.inr (Or.inr rfl))) ?_
   exact rt_mk rfl rfl)

theorem setEaseOf_ok (ho : isSt o) (hi : -1000 ≤ i ∧ i ≤ 1000) (hj : -1000 ≤ j ∧ j ≤ 1000) : Ok 107 [vR o, vI i, vI j, vI x] (LC N) h (rt none (LC N) (wrA h (o + 1) 132 (72 + i * 10 + j) x)) := by
  rcases ho with rfl | rfl | rfl <;>
  (refine ok_body B_X6_setEaseOf rfl (fun X hX => ?_)
   refine hX 16 [] 0 _ _ _ _ _ _ ?_
   refine And.intro ⟨by omega, by omega⟩ ?_
   refine And.intro ⟨by omega, by omega⟩ ?_
   refine And.intro ⟨by omega, by omega⟩ ?_
   refine Ok_rt (setCell_ok (by first | exact Or.inl rfl | exact Or.inr (Or.inl rfl) | exact Or.inr (Or.inr rfl))) ?_
   exact rt_mk rfl rfl)

theorem lots_ok (ho : isSt o) : Ok 108 [vR o] (LC N) h (rt (some (vI (rdA h (o + 1) 132 3))) (LC N) h) := by
  rcases ho with rfl | rfl | rfl <;>
  (refine ok_body B_X6_lots rfl (fun X hX => ?_)
   refine hX 9 [] 0 _ _ _ _ _ _ ?_
   refine Ok_rt (cell_ok (by first | exact Or.inl rfl | exact Or.inr (Or.inl rfl) | exact Or.inr (Or.inr rfl))) ?_
   exact rt_mk rfl rfl)

theorem lotColor_ok (ho : isSt o) (hi : -1000 ≤ i ∧ i ≤ 1000) : Ok 109 [vR o, vI i] (LC N) h (rt (some (vI (rdA h (o + 1) 132 (4 + i)))) (LC N) h) := by
  rcases ho with rfl | rfl | rfl <;>
  (refine ok_body B_X6_lotColor rfl (fun X hX => ?_)
   refine hX 11 [] 0 _ _ _ _ _ _ ?_
   refine And.intro ⟨by omega, by omega⟩ ?_
   refine Ok_rt (cell_ok (by first | exact Or.inl rfl | exact Or.inr (Or.inl rfl) | exact Or.inr (Or.inr rfl))) ?_
   exact rt_mk rfl rfl)

theorem lotMeters_ok (ho : isSt o) (hi : -1000 ≤ i ∧ i ≤ 1000) : Ok 110 [vR o, vI i] (LC N) h (rt (some (vI (rdA h (o + 1) 132 (14 + i)))) (LC N) h) := by
  rcases ho with rfl | rfl | rfl <;>
  (refine ok_body B_X6_lotMeters rfl (fun X hX => ?_)
   refine hX 11 [] 0 _ _ _ _ _ _ ?_
   refine And.intro ⟨by omega, by omega⟩ ?_
   refine Ok_rt (cell_ok (by first | exact Or.inl rfl | exact Or.inr (Or.inl rfl) | exact Or.inr (Or.inr rfl))) ?_
   exact rt_mk rfl rfl)

theorem appendLot_ok (ho : isSt o) (hl : -1000 ≤ rdA h (o + 1) 132 3 ∧ rdA h (o + 1) 132 3 ≤ 1000) : Ok 111 [vR o, vI i, vI x] (LC N) h (rt none (LC N) (wrA (wrA (wrA h (o + 1) 132 (4 + rdA h (o + 1) 132 3) i) (o + 1) 132 (14 + rdA h (o + 1) 132 3) x) (o + 1) 132 3 (rdA h (o + 1) 132 3 + 1))) := by
  rcases ho with rfl | rfl | rfl <;>
  (refine ok_body B_X6_appendLot rfl (fun X hX => ?_)
   refine hX 27 [] 0 _ _ _ _ _ _ ?_
   refine Ok_rt (lots_ok (by first | exact Or.inl rfl | exact Or.inr (Or.inl rfl) | exact Or.inr (Or.inr rfl))) ?_
   refine And.intro ⟨by omega, by omega⟩ ?_
   refine Ok_rt (setCell_ok (by first | exact Or.inl rfl | exact Or.inr (Or.inl rfl) | exact Or.inr (Or.inr rfl))) ?_
   refine And.intro ⟨by omega, by omega⟩ ?_
   refine Ok_rt (setCell_ok (by first | exact Or.inl rfl | exact Or.inr (Or.inl rfl) | exact Or.inr (Or.inr rfl))) ?_
   refine And.intro ⟨by omega, by omega⟩ ?_
   refine Ok_rt (setCell_ok (by first | exact Or.inl rfl | exact Or.inr (Or.inl rfl) | exact Or.inr (Or.inr rfl))) ?_
   exact rt_mk rfl rfl)

end STATE
