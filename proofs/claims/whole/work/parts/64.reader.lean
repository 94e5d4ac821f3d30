/-! ===== Reader: what it does at a token =====
 4 Reader (fields: 7 token, 8 position, 9 kind, 10 faultCode, 11 faultPosition; 15 kinds, 16 starts, 17 ends, 18 values) -/
def failH (h : HP) (x c : Int) : HP := if x ≠ 0 ∧ h 4 10 = 0 then up (up (up h 4 10 c) 4 11 (h 4 8)) 4 9 (-1) else h
def passA (h : HP) : HP := up (up h 4 7 (h 4 7 + 1)) 4 8 (rdA h 16 1501 (h 4 7 + 1))
def passH (h : HP) : HP := if h 4 10 = 0 then up (passA h) 4 9 (rdA h 15 1501 (h 4 7 + 1)) else h
theorem failH_cell {h : HP} {x c : Int} {q : Nat} (n : q ≠ 4) : failH h x c q = h q := by unfold failH; split; rw [up_cell n, up_cell n, up_cell n]; rfl
theorem failH_7 {h : HP} {x c : Int} {q : Nat} (h0 : q ≠ 9) (h1 : q ≠ 10) (h2 : q ≠ 11) : failH h x c 4 q = h 4 q := by unfold failH; split; rw [up_ne h0, up_ne h2, up_ne h1]; rfl
theorem passH_cell {h : HP} {q : Nat} (n : q ≠ 4) : passH h q = h q := by unfold passH passA; split; rw [up_cell n, up_cell n, up_cell n]; rfl
theorem passH_10 {h : HP} {q : Nat} (h0 : q ≠ 7) (h1 : q ≠ 8) (h2 : q ≠ 9) : passH h 4 q = h 4 q := by unfold passH passA; split; rw [up_ne h2, up_ne h1, up_ne h0]; rfl
theorem passH_7 {h : HP} : passH h 4 7 = if h 4 10 = 0 then h 4 7 + 1 else h 4 7 := by
  unfold passH passA
  split
  · rw [up_ne (by decide), up_ne (by decide), up_same]
  · rfl
section READER
variable {N : List CT} {h : HP} {i j k x c v a b : Int}
theorem failIf_ok : Ok 72 [vR 4, vI x, vI c] (LC N) h (rt none (LC N) (failH h x c)) := by
  refine ok_body B_X4_failIf rfl (fun X hX => ?_)
  refine hX 20 [] 0 _ _ _ _ _ _ ?_
  refine And.intro (fun c1 => ?_) (fun c1 => ?_)
  · exact rt_mk rfl (by unfold failH; rw [if_neg (fun z => z.1 c1)])
  · refine And.intro (fun c8 => ?_) (fun c8 => ?_)
    · have c8 : h 4 10 ≠ 0 := c8
      exact rt_mk rfl (by unfold failH; rw [if_neg (fun z => c8 z.2)])
    · have c8 : h 4 10 = 0 := c8
      exact rt_mk rfl (by unfold failH; rw [if_pos ⟨c1, c8⟩, up_ne (by decide)])
theorem pass_ok (h7 : -1 ≤ h 4 7 ∧ h 4 7 ≤ 2000) : Ok 73 [vR 4] (LC N) h (rt none (LC N) (passH h)) := by
  refine ok_body B_X4_pass rfl (fun X hX => ?_)
  refine hX 30 [17] 0 _ _ _ _ _ _ ?_
  refine And.intro (fun c4 => ?_) (fun c4 => ?_)
  · have c4 : h 4 10 ≠ 0 := c4
    exact rt_mk rfl (by unfold passH; rw [if_neg c4])
  · have c4 : h 4 10 = 0 := c4
    refine And.intro (show inR (h 4 7 + 1) from ⟨by omega, by omega⟩) ?_
    obtain ⟨h1, e1⟩ : ∃ h1 : HP, h1 = up h 4 7 (h 4 7 + 1) := ⟨_, rfl⟩
    have go : X 17 [vR 4] [] (LC N) h1 0 0 := by
      have e7 : h1 4 7 = h 4 7 + 1 := by rw [e1, up_same]
      refine hX 30 [32] 17 _ _ _ _ _ _ ?_
      refine Ok_rt (at_ok (a := 16) (len := 1501) rfl (by decide)) ?_
      obtain ⟨h2, e2⟩ : ∃ h2 : HP, h2 = up h1 4 8 (rdA h1 16 1501 (h1 4 7)) := ⟨_, rfl⟩
      have go2 : X 32 [vR 4] [] (LC N) h2 0 0 := by
        have e72 : h2 4 7 = h 4 7 + 1 := by rw [e2, up_ne (by decide)]; exact e7
        refine hX 30 [] 32 _ _ _ _ _ _ ?_
        refine Ok_rt (at_ok (a := 15) (len := 1501) rfl (by decide)) ?_
        refine rt_mk rfl ?_
        show up h2 4 9 (rdA h2 15 1501 (h2 4 7)) = passH h
        unfold passH passA
        rw [if_pos c4, e72, e2, e7, rdA_up_oth (by decide), e1, rdA_up_oth (by decide), rdA_up_oth (by decide)]
      rw [e2] at go2
      exact go2
    rw [e1] at go
    exact go
theorem passToken_ok (h7 : -1 ≤ h 4 7 ∧ h 4 7 ≤ 2000) : Ok 74 [vR 4, vI k] (LC N) h (rt none (LC N) (passH (failH h (if h 4 9 = k then 0 else 1) 1))) := by
  refine ok_body B_X4_passToken rfl (fun X hX => ?_)
  have fin : ∀ y, y = (if h 4 9 = k then (0 : Int) else 1) → X 14 [vR 4, vI k] [vI y, vR 4] (LC N) h 0 0 := by
    intro y hy
    subst hy
    refine hX 30 [] 14 _ _ _ _ _ _ ?_
    refine Ok_rt failIf_ok ?_
    refine Ok_rt (pass_ok (by rw [failH_7 (by decide) (by decide) (by decide)]; exact h7)) ?_
    exact rt_mk rfl rfl
  refine hX 30 [14] 0 _ _ _ _ _ _ ?_
  refine And.intro (fun c6 => ?_) (fun c6 => ?_)
  · have c6 : h 4 9 = k := c6
    exact fin _ (by rw [if_pos c6])
  · have c6 : h 4 9 ≠ k := c6
    exact fin _ (by rw [if_neg c6])
/-- the value of the token that stands here -/
def tvH (h : HP) : Int := rdA h 18 1501 (h 4 7)
def numH (h : HP) (a b : Int) : HP := passH (failH (failH h (if h 4 9 = 2 then 0 else 1) 1) (if l2iI (tvH h) < a ∨ b < l2iI (tvH h) then 1 else 0) 2)
theorem readNumber_ok (h7 : -1 ≤ h 4 7 ∧ h 4 7 ≤ 2000) : Ok 75 [vR 4, vI a, vI b] (LC N) h (rt (some (vI (l2iI (tvH h)))) (LC N) (numH h a b)) := by
  refine ok_body B_X4_readNumber rfl (fun X hX => ?_)
  obtain ⟨h1, e1⟩ : ∃ h1 : HP, h1 = failH h (if h 4 9 = 2 then 0 else 1) 1 := ⟨_, rfl⟩
  have e7 : h1 4 7 = h 4 7 := by rw [e1]; exact failH_7 (by decide) (by decide) (by decide)
  have ev : rdA h1 18 1501 (h1 4 7) = tvH h := by rw [e7, e1]; unfold tvH rdA; rw [failH_cell (by decide)]
  have fin : ∀ y, y = (if l2iI (tvH h) < a ∨ b < l2iI (tvH h) then (1 : Int) else 0) → X 47 [vR 4, vI a, vI b, vI (l2iI (tvH h))] [vI y, vR 4] (LC N) h1 0 0 := by
    intro y hy
    subst hy
    refine hX 30 [] 47 _ _ _ _ _ _ ?_
    refine Ok_rt failIf_ok ?_
    refine Ok_rt (pass_ok (by rw [failH_7 (by decide) (by decide) (by decide), e7]; exact h7)) ?_
    exact rt_mk rfl (by unfold numH; rw [e1])
  have mid : X 18 [vR 4, vI a, vI b, vU] [] (LC N) h1 0 0 := by
    refine hX 30 [31] 18 _ _ _ _ _ _ ?_
    refine Ok_rt (atL_ok (a := 18) (len := 1501) rfl (by decide)) ?_
    rw [ev]
    show X 31 [_, _, _, _] _ _ _ _ _
    refine hX 30 [47] 31 _ _ _ _ _ _ ?_
    refine And.intro (fun c34 => fin _ (by rw [if_pos (Or.inl c34)])) (fun c34 => ?_)
    refine And.intro (fun c39 => ?_) (fun c39 => ?_)
    · exact fin _ (by rw [if_neg (by omega)])
    · exact fin _ (by rw [if_pos (Or.inr (by omega))])
  have st : ∀ y, y = (if h 4 9 = 2 then (0 : Int) else 1) → X 14 [vR 4, vI a, vI b, vU] [vI y, vR 4] (LC N) h 0 0 := by
    intro y hy
    subst hy
    refine hX 30 [18] 14 _ _ _ _ _ _ ?_
    refine Ok_rt failIf_ok ?_
    rw [e1] at mid
    exact mid
  refine hX 30 [14] 0 _ _ _ _ _ _ ?_
  refine And.intro (fun c6 => ?_) (fun c6 => ?_)
  · have c6 : h 4 9 = 2 := c6
    exact st _ (by rw [if_pos c6])
  · have c6 : h 4 9 ≠ 2 := c6
    exact st _ (by rw [if_neg c6])
def nameB (h : HP) : Int := if (4 ≤ h 4 9 ∧ h 4 9 < 16) ∧ tvH h ≠ 0 then 0 else 1
theorem nameHere_ok : Ok 76 [vR 4] (LC N) h (rt (some (vL (tvH h))) (LC N) (failH h (nameB h) 1)) := by
  refine ok_body B_X4_nameHere rfl (fun X hX => ?_)
  have fin : ∀ y, y = nameB h → X 41 [vR 4, vL (tvH h), vU] [vI y, vR 4] (LC N) h 0 0 := by
    intro y hy
    subst hy
    refine hX 30 [] 41 _ _ _ _ _ _ ?_
    refine Ok_rt failIf_ok ?_
    exact rt_mk rfl rfl
  refine hX 30 [12] 0 _ _ _ _ _ _ ?_
  refine Ok_rt (atL_ok (a := 18) (len := 1501) rfl (by decide)) ?_
  show X 12 [_, vL (tvH h), _] _ _ _ _ _
  refine hX 30 [41] 12 _ _ _ _ _ _ ?_
  refine And.intro (fun c18 => ?_) (fun c18 => ?_)
  · have c18 : h 4 9 < 4 := c18
    exact fin _ (by unfold nameB; rw [if_neg (fun z => by omega)])
  · have c18 : 4 ≤ h 4 9 := c18
    refine And.intro (fun c27 => ?_) (fun c27 => ?_)
    · have c27 : 16 ≤ h 4 9 := c27
      exact fin _ (by unfold nameB; rw [if_neg (fun z => by omega)])
    · have c27 : h 4 9 < 16 := c27
      refine And.intro (fun c33 => ?_) (fun c33 => ?_)
      · have c33 : tvH h ≠ 0 := c33
        exact fin _ (by unfold nameB; rw [if_pos ⟨⟨c18, c27⟩, c33⟩])
      · have c33 : tvH h = 0 := c33
        exact fin _ (by unfold nameB; rw [if_neg (fun z => z.2 c33)])
/-- the number of a name of the reader's own pattern -/
def numN (h : HP) (i w : Int) : Int := fstI (fun q => rdA h 6 32 (i * 8 + q) == w) (rdA h 7 4 i).toNat 0
theorem readKnownName_ok (hi : 0 ≤ i ∧ i ≤ 3) (hn : rdA h 7 4 i ≤ 1000) (h7 : -1 ≤ h 4 7 ∧ h 4 7 ≤ 2000) : Ok 78 [vR 4, vI i] (LC N) h (rt (some (vI (numN h i (tvH h)))) (LC N) (passH (failH (failH h (nameB h) 1) (if numN h i (tvH h) = -1 then 1 else 0) 4))) := by
  refine ok_body B_X4_readKnownName rfl (fun X hX => ?_)
  obtain ⟨h1, e1⟩ : ∃ h1 : HP, h1 = failH h (nameB h) 1 := ⟨_, rfl⟩
  have e7 : h1 4 7 = h 4 7 := by rw [e1]; exact failH_7 (by decide) (by decide) (by decide)
  have eN : numN h1 i (tvH h) = numN h i (tvH h) := by unfold numN rdA; rw [e1, failH_cell (by decide), failH_cell (by decide)]
  have en : rdA h1 7 4 i = rdA h 7 4 i := by unfold rdA; rw [e1, failH_cell (by decide)]
  have fin : ∀ y, y = (if numN h i (tvH h) = -1 then (1 : Int) else 0) → X 24 [vR 4, vI i, vI (numN h i (tvH h))] [vI y, vR 4] (LC N) h1 0 0 := by
    intro y hy
    subst hy
    refine hX 30 [] 24 _ _ _ _ _ _ ?_
    refine Ok_rt failIf_ok ?_
    refine Ok_rt (pass_ok (by rw [failH_7 (by decide) (by decide) (by decide), e7]; exact h7)) ?_
    exact rt_mk rfl (by rw [e1])
  refine hX 30 [13] 0 _ _ _ _ _ _ ?_
  refine Ok_rt nameHere_ok ?_
  rw [← e1]
  refine Ok_rt (numberOf_ok (p := 5) (n := rdA h1 7 4 i) (Or.inl rfl) (by omega) rfl (by rw [en]; exact hn)) ?_
  show X 13 [_, _, vI (numN h1 i (tvH h))] _ _ _ _ _
  rw [eN]
  refine hX 30 [24] 13 _ _ _ _ _ _ ?_
  refine And.intro (fun c16 => ?_) (fun c16 => ?_)
  · have c16 : numN h i (tvH h) ≠ -1 := c16
    exact fin _ (by rw [if_neg c16])
  · have c16 : numN h i (tvH h) = -1 := c16
    exact fin _ (by rw [if_pos c16])
end READER
