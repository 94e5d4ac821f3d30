/-! ===== Reader: a row of a chart ===== -/
def crA (h : HP) (j : Int) : HP := failH (failH h (if icV h = 0 then 1 else 0) 1) (if 8 ≤ j then 1 else 0) 5
def crT (h : HP) (j : Int) : Int := tkT (crA h j)
def crM (h : HP) (j : Int) : Int := enH (crA h j) - crA h j 4 8
def crB (h : HP) (i j : Int) : HP := failH (crA h j) (if 0 < j ∧ crT h j ≠ rdA (crA h j) 10 32 (i * 8 + (j - 1)) then 1 else 0) 6
def crC (h : HP) (i j : Int) : HP := if crB h i j 4 10 = 0 then addRowH (crB h i j) 5 i (crT h j) (crM h j) else crB h i j
def crH (h : HP) (i j : Int) : HP := passH (crC h i j)
theorem addRow_cell {h : HP} {i x y : Int} {q : Nat} (h8 : q ≠ 8) (h9 : q ≠ 9) (h10 : q ≠ 10) : addRowH h 5 i x y q = h q := by
  unfold addRowH
  rw [wrA_cell h8, wrA_cell h10, wrA_cell h9]
theorem crC_7 {h : HP} {i j : Int} : crC h i j 4 7 = h 4 7 := by
  have e : crB h i j 4 7 = h 4 7 := by
    unfold crB crA
    rw [fail_7, fail_7, fail_7]
  unfold crC
  split
  · rw [addRow_cell (by decide) (by decide) (by decide)]; exact e
  · exact e
theorem cr_bd {h : HP} {i j : Int} : h 4 7 ≤ crH h i j 4 7 ∧ crH h i j 4 7 ≤ h 4 7 + 1 := by
  have := pass_bd (h := crC h i j)
  rw [crC_7] at this
  exact this
theorem cr_cell {h : HP} {i j : Int} {q : Nat} (h4 : q ≠ 4) (h8 : q ≠ 8) (h9 : q ≠ 9) (h10 : q ≠ 10) : crH h i j q = h q := by
  have e : crB h i j q = h q := by
    unfold crB crA
    rw [failH_cell h4, failH_cell h4, failH_cell h4]
  unfold crH
  rw [passH_cell h4]
  unfold crC
  split
  · rw [addRow_cell h8 h9 h10]; exact e
  · exact e
/-- a chart that takes one row more, if nothing is wrong yet -/
def rwRm (h : HP) (i : Int) : Prop := (-1000 ≤ i ∧ i ≤ 1000) ∧ (h 4 10 = 0 → (0 ≤ i ∧ i ≤ 3) ∧ 0 ≤ rdA h 8 4 i ∧ rdA h 8 4 i ≤ 1000)
def posOK (h : HP) : Prop := (0 ≤ h 4 8 ∧ h 4 8 ≤ 1501) ∧ -1 ≤ enH h ∧ enH h ≤ 1501
section READER8
variable {N : List CT} {h : HP} {i j k t a b w x : Int}
theorem readChartRow_ok (h7 : -1 ≤ h 4 7 ∧ h 4 7 ≤ 2000) (hp : posOK h) (hi : rwRm h i) (hj : 0 ≤ j ∧ j ≤ 900) : Ok 83 [vR 4, vI i, vI j] (LC N) h (rt none (LC N) (crH h i j)) := by
  have a7 : crA h j 4 7 = h 4 7 := by unfold crA; rw [fail_7, fail_7]
  have a8 : crA h j 4 8 = h 4 8 := by unfold crA; rw [failH_7 (by decide) (by decide) (by decide), failH_7 (by decide) (by decide) (by decide)]
  have ac : ∀ q, q ≠ 4 → crA h j q = h q := fun q hq => by unfold crA; rw [failH_cell hq, failH_cell hq]
  have ae : enH (crA h j) = enH h := by unfold enH rdA; rw [a7, ac 17 (by decide)]
  obtain ⟨⟨p0, p1⟩, q0, q1⟩ := hp
  refine ok_body B_X4_readChartRow rfl (fun X hX => ?_)
  have at104 : ∀ g, g = crC h i j → X 104 [vR 4, vI i, vI j, vI (crT h j), vI (crM h j)] [] (LC N) g 0 0 := by
    intro g eg
    refine hX 40 [] 104 _ _ _ _ _ _ ?_
    refine Ok_rt (pass_ok (by rw [eg, crC_7]; exact h7)) ?_
    exact rt_mk rfl (by rw [eg]; rfl)
  have at81 : ∀ y, y = (if 0 < j ∧ crT h j ≠ rdA (crA h j) 10 32 (i * 8 + (j - 1)) then (1 : Int) else 0) → X 81 [vR 4, vI i, vI j, vI (crT h j), vI (crM h j)] [vI y, vR 4] (LC N) (crA h j) 0 0 := by
    intro y hy
    refine hX 40 [104] 81 _ _ _ _ _ _ ?_
    refine Ok_rt failIf_ok ?_
    rw [hy]
    refine And.intro (fun c => ?_) (fun c => ?_)
    · have c : crB h i j 4 10 ≠ 0 := c
      exact at104 (crB h i j) (by unfold crC; rw [if_neg c])
    · have c : crB h i j 4 10 = 0 := c
      have f1 := fail_10 (h := crA h j) (c := 6) (by decide) c
      have f2 := fail_10 (h := failH h (if icV h = 0 then 1 else 0) 1) (c := 5) (by decide) f1.1
      have f3 := fail_10 (h := h) (c := 1) (by decide) f2.1
      have r := hi.2 f3.1
      have e8 : rdA (crB h i j) 8 4 i = rdA h 8 4 i := by
        unfold rdA crB
        rw [failH_cell (by decide), ac 8 (by decide)]
      refine Ok_rt (addChartRow_ok (h := crB h i j) (p := 5) (Or.inl rfl) r.1 (show 0 ≤ rdA (crB h i j) 8 4 i ∧ rdA (crB h i j) 8 4 i ≤ 1000 by rw [e8]; exact r.2)) ?_
      exact at104 _ (by unfold crC; rw [if_pos c])
  have at56 : X 56 [vR 4, vI i, vI j, vI (crT h j), vI (crM h j)] [] (LC N) (crA h j) 0 0 := by
    refine hX 40 [81] 56 _ _ _ _ _ _ ?_
    refine And.intro (fun c => ?_) (fun c => ?_)
    · have c : j ≤ 0 := c
      exact at81 _ (by rw [if_neg (fun z => by omega)])
    · have c : 0 < j := c
      refine And.intro ⟨by omega, by omega⟩ ?_
      refine Ok_rt (made_ok (p := 5) (Or.inl rfl) hi.1 ⟨by omega, by omega⟩) ?_
      refine And.intro (fun d => ?_) (fun d => ?_)
      · have d : crT h j = rdA (crA h j) 10 32 (i * 8 + (j - 1)) := d
        exact at81 _ (by rw [if_neg (fun z => z.2 d)])
      · have d : crT h j ≠ rdA (crA h j) 10 32 (i * 8 + (j - 1)) := d
        exact at81 _ (by rw [if_pos ⟨c, d⟩])
  have at29 : ∀ y, y = (if 8 ≤ j then (1 : Int) else 0) → X 29 [vR 4, vI i, vI j, vU, vU] [vI y, vR 4] (LC N) (failH h (if icV h = 0 then 1 else 0) 1) 0 0 := by
    intro y hy
    refine hX 40 [37] 29 _ _ _ _ _ _ ?_
    refine Ok_rt failIf_ok ?_
    rw [hy]
    refine Ok_rt (takenHere_ok (h := crA h j) (by rw [a8]; exact ⟨p0, p1⟩) (by rw [ae]; exact q1)) ?_
    show X 37 _ [vI (crT h j)] _ (crA h j) _ _
    refine hX 40 [38] 37 _ _ _ _ _ _ ?_
    show X 38 [_, _, _, vI (crT h j), _] _ _ _ _ _
    refine hX 40 [54] 38 _ _ _ _ _ _ ?_
    refine Ok_rt (at_ok (a := 17) (len := 1501) rfl (by decide)) ?_
    refine And.intro (show inR (enH (crA h j) - crA h j 4 8) by rw [ae, a8]; exact ⟨by omega, by omega⟩) ?_
    show X 54 _ [vI (crM h j)] _ _ _ _
    refine hX 40 [56] 54 _ _ _ _ _ _ ?_
    show X 56 [_, _, _, _, vI (crM h j)] _ _ _ _ _
    exact at56
  have at13 : ∀ y, y = (if icV h = 0 then (1 : Int) else 0) → X 13 [vR 4, vI i, vI j, vU, vU] [vI y, vR 4] (LC N) h 0 0 := by
    intro y hy
    refine hX 40 [29] 13 _ _ _ _ _ _ ?_
    refine Ok_rt failIf_ok ?_
    rw [hy]
    refine And.intro (fun c => ?_) (fun c => ?_)
    · have c : j < 8 := c
      exact at29 _ (by rw [if_neg (by omega)])
    · have c : 8 ≤ j := c
      exact at29 _ (by rw [if_pos c])
  refine hX 40 [13] 0 _ _ _ _ _ _ ?_
  refine Ok_rt (isChartRowHere_ok ⟨p0, p1⟩ ⟨q0, q1⟩) ?_
  refine And.intro (fun c => ?_) (fun c => ?_)
  · have c : icV h ≠ 0 := c
    exact at13 _ (by rw [if_neg c])
  · have c : icV h = 0 := c
    exact at13 _ (by rw [if_pos c])
end READER8
