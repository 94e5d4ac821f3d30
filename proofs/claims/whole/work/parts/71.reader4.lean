/-! ===== Reader: gauge, sizes, color, lot ===== -/
def tkV (x : Int) : Int := if x = 107 ∨ x = 112 then 1 else if x = 115 then 3 else if x = 116 then 2 else if x = 121 then 0 else -1
def ptH (h : HP) (k : Int) : HP := passH (failH h (if h 4 9 = k then 0 else 1) 1)
theorem pass_bd {h : HP} : h 4 7 ≤ passH h 4 7 ∧ passH h 4 7 ≤ h 4 7 + 1 := by
  rw [passH_7]
  split
  · omega
  · omega
theorem fail_7 {h : HP} {x c : Int} : failH h x c 4 7 = h 4 7 := failH_7 (by decide) (by decide) (by decide)
theorem pt_bd {h : HP} {k : Int} : h 4 7 ≤ ptH h k 4 7 ∧ ptH h k 4 7 ≤ h 4 7 + 1 := by
  have := pass_bd (h := failH h (if h 4 9 = k then 0 else 1) 1)
  rw [fail_7] at this
  exact this
theorem num_bd {h : HP} {a b : Int} : h 4 7 ≤ numH h a b 4 7 ∧ numH h a b 4 7 ≤ h 4 7 + 1 := by
  have := pass_bd (h := failH (failH h (if h 4 9 = 2 then 0 else 1) 1) (if l2iI (tvH h) < a ∨ b < l2iI (tvH h) then 1 else 0) 2)
  rw [fail_7, fail_7] at this
  exact this
theorem pt_cell {h : HP} {k : Int} {q : Nat} (n : q ≠ 4) : ptH h k q = h q := by unfold ptH; rw [passH_cell n, failH_cell n]
theorem num_cell {h : HP} {a b : Int} {q : Nat} (n : q ≠ 4) : numH h a b q = h q := by unfold numH; rw [passH_cell n, failH_cell n, failH_cell n]
def tlH (h : HP) (i j k x : Int) : HP := if h 4 10 = 0 then wrA h 12 540 ((i * 10 + j) * 9 + k) x else h
theorem tl_4 {h : HP} {i j k x : Int} : tlH h i j k x 4 = h 4 := by
  unfold tlH
  split
  · rw [wrA_cell (by decide)]
  · rfl
def spH (h : HP) (i x : Int) : HP := if h 4 10 = 0 then addPartH h 5 i x (rdA h 11 6 i) else h
def spV (h : HP) (i : Int) : Int := if h 4 10 = 0 then rdA h 11 6 i else -1
def rgA (h : HP) : HP := ptH h 5
def rgB (h : HP) : HP := wrA (numH (rgA h) 5 99) 14 132 0 (l2iI (tvH (rgA h)))
def rgC (h : HP) : HP := wrA (numH (rgB h) 5 99) 14 132 1 (l2iI (tvH (rgB h)))
def rgD (h : HP) : HP := ptH (rgC h) 6
def rgE (h : HP) : HP := wrA (numH (rgD h) 1 99) 14 132 2 (l2iI (tvH (rgD h)))
def rgH (h : HP) : HP := ptH (rgE h) 3
def rcH (h : HP) (i j : Int) : HP := tlH (numH (ptH h 19) 0 3) i j 1 (l2iI (tvH (ptH h 19)))
def rlA (h : HP) : HP := ptH (failH h (if 10 ≤ rdA h 14 132 3 then 1 else 0) 5) 14
def rlB (h : HP) : HP := numH (numH (rlA h) 0 3) 1 9999
def rlC (h : HP) : HP := if rlB h 4 10 = 0 then wrA (wrA (wrA (rlB h) 14 132 (4 + rdA h 14 132 3) (l2iI (tvH (rlA h)))) 14 132 (14 + rdA h 14 132 3) (l2iI (tvH (numH (rlA h) 0 3)))) 14 132 3 (rdA h 14 132 3 + 1) else rlB h
def rlH (h : HP) : HP := ptH (rlC h) 3
def nnP (h : HP) (i : Int) : HP := passH (nnB h i)
theorem nnA_7 {h : HP} {i : Int} : nnA h i 4 7 = h 4 7 := by unfold nnA; rw [fail_7, fail_7, fail_7]
theorem nnA_cell {h : HP} {i : Int} {q : Nat} (n : q ≠ 4) : nnA h i q = h q := by unfold nnA; rw [failH_cell n, failH_cell n, failH_cell n]
theorem nnB_7 {h : HP} {i : Int} : nnB h i 4 7 = h 4 7 := by
  unfold nnB
  split
  · rw [addNameH_4, nnA_7]
  · exact nnA_7
theorem nn_bd {h : HP} {i : Int} : h 4 7 ≤ nnP h i 4 7 ∧ nnP h i 4 7 ≤ h 4 7 + 1 := by
  have := pass_bd (h := nnB h i)
  rw [nnB_7] at this
  exact this
theorem addName_7 {h : HP} {i w : Int} (hi : 0 ≤ i ∧ i ≤ 3) : addNameH h 5 i w 7 = upf (h 7) i.toNat (rdA h 7 4 i + 1) := by
  have e : addNameN h 5 i w (rdA h (5 + 2) 4 i) 7 = upf (h 7) i.toNat (rdA h 7 4 i + 1) := by
    unfold addNameN
    rw [wrA_in (by omega) (by omega), show 5 + 2 = 7 from rfl, up_upf, wrA_cell (by decide)]
  unfold addNameH
  split
  · split
    · rw [wrA_cell (by decide), wrA_cell (by decide)]; exact e
    · rw [wrA_cell (by decide)]; exact e
  · split
    · rw [wrA_cell (by decide)]; exact e
    · exact e
/-- a new name raises a count by one at most -/
theorem nn_cnt {h : HP} {i j : Int} (hi : 0 ≤ i ∧ i ≤ 3) : rdA h 7 4 j ≤ rdA (nnP h i) 7 4 j ∧ rdA (nnP h i) 7 4 j ≤ rdA h 7 4 j + 1 := by
  have e1 : rdA (nnP h i) 7 4 j = rdA (nnB h i) 7 4 j := by unfold rdA nnP; rw [passH_cell (by decide)]
  rw [e1]
  unfold nnB
  split
  · unfold rdA
    rw [addName_7 hi]
    by_cases z : 0 ≤ j ∧ j < ((4 : Nat) : Int)
    · have e : upf (nnA h i 7) i.toNat (rdA (nnA h i) 7 4 i + 1) j.toNat = if j.toNat = i.toNat then h 7 i.toNat + 1 else h 7 j.toNat := by
        have r : rdA (nnA h i) 7 4 i = h 7 i.toNat := by rw [rdA_in hi.1 (by omega), nnA_cell (by decide)]
        rw [r, nnA_cell (by decide)]
        rfl
      rw [if_pos z, if_pos z]
      rw [show (upf (nnA h i 7) i.toNat (rdA (nnA h i) 7 4 i + 1) j.toNat) = _ from e]
      by_cases y : j = i
      · rw [if_pos (by rw [y]), y]; omega
      · rw [if_neg (by omega)]; omega
    · rw [if_neg z, if_neg z]; omega
  · unfold rdA
    rw [nnA_cell (by decide)]
    omega
def szL : Nat → HP → HP
  | 0, h => h
  | m + 1, h => if 4 ≤ h 4 9 then szL m (nnP h 0) else h
def rsH (h : HP) : HP := ptH (szL 6 (nnP (ptH h 7) 0)) 3
section READER4
variable {N : List CT} {h : HP} {i j k t a b w x : Int}
theorem pt_ok (h7 : -1 ≤ h 4 7 ∧ h 4 7 ≤ 2000) : Ok 74 [vR 4, vI k] (LC N) h (rt none (LC N) (ptH h k)) := passToken_ok h7
theorem nn_ok (hi : 0 ≤ i ∧ i ≤ 3) (hn : 0 ≤ rdA h 7 4 i ∧ rdA h 7 4 i ≤ 1000) (h7 : -1 ≤ h 4 7 ∧ h 4 7 ≤ 2000) : Ok 77 [vR 4, vI i] (LC N) h (rt (some (vI (if nnA h i 4 10 = 0 then rdA h 7 4 i else -1))) (LC N) (nnP h i)) := readNewName_ok hi hn h7
theorem takenBy_ok : Ok 86 [vI i] (LC N) h (rt (some (vI (tkV i))) (LC N) h) := by
  refine ok_body B_X4_takenBy rfl (fun X hX => ?_)
  refine hX 10 [] 0 _ _ _ _ _ _ ?_
  refine And.intro (fun d => ?_) (And.intro (fun d => ?_) (And.intro (fun d => ?_) (And.intro (fun d => ?_) (And.intro (fun d => ?_) (And.intro (fun d => ?_) (And.intro (fun d => ?_) (And.intro (fun d => ?_) (And.intro (fun d => ?_) (And.intro (fun d => ?_) (And.intro (fun d => ?_) (And.intro (fun d => ?_) (And.intro (fun d => ?_) (And.intro (fun d => ?_) (And.intro (fun d => ?_) (And.intro (fun d => ?_) True.intro)))))))))))))))
  · have d : i < 107 ∨ (122 : Int) ≤ i := by simpa using d
    exact rt_mk (by unfold tkV; rw [if_neg (by omega), if_neg (by omega), if_neg (by omega), if_neg (by omega)]) rfl
  · have d : i = 107 := d
    subst d
    exact rt_mk rfl rfl
  · have d : i = 108 := d
    subst d
    exact rt_mk rfl rfl
  · have d : i = 109 := d
    subst d
    exact rt_mk rfl rfl
  · have d : i = 110 := d
    subst d
    exact rt_mk rfl rfl
  · have d : i = 111 := d
    subst d
    exact rt_mk rfl rfl
  · have d : i = 112 := d
    subst d
    exact rt_mk rfl rfl
  · have d : i = 113 := d
    subst d
    exact rt_mk rfl rfl
  · have d : i = 114 := d
    subst d
    exact rt_mk rfl rfl
  · have d : i = 115 := d
    subst d
    exact rt_mk rfl rfl
  · have d : i = 116 := d
    subst d
    exact rt_mk rfl rfl
  · have d : i = 117 := d
    subst d
    exact rt_mk rfl rfl
  · have d : i = 118 := d
    subst d
    exact rt_mk rfl rfl
  · have d : i = 119 := d
    subst d
    exact rt_mk rfl rfl
  · have d : i = 120 := d
    subst d
    exact rt_mk rfl rfl
  · have d : i = 121 := d
    subst d
    exact rt_mk rfl rfl
theorem tell_ok (hi : -1000 ≤ i ∧ i ≤ 1000) (hj : -1000 ≤ j ∧ j ≤ 1000) (hk : -1000 ≤ k ∧ k ≤ 1000) : Ok 94 [vR 4, vI i, vI j, vI k, vI x] (LC N) h (rt none (LC N) (tlH h i j k x)) := by
  refine ok_body B_X4_tell rfl (fun X hX => ?_)
  refine hX 30 [] 0 _ _ _ _ _ _ ?_
  refine And.intro (fun c => ?_) (fun c => ?_)
  · have c : h 4 10 ≠ 0 := c
    exact rt_mk rfl (by unfold tlH; rw [if_neg c])
  · have c : h 4 10 = 0 := c
    refine Ok_rt (setFact_ok (p := 5) (Or.inl rfl) hi hj hk) ?_
    exact rt_mk rfl (by unfold tlH; rw [if_pos c])
theorem startPart_ok (hi : 0 ≤ i ∧ i ≤ 10) (hn : 0 ≤ rdA h 11 6 i ∧ rdA h 11 6 i ≤ 100) : Ok 93 [vR 4, vI i, vI x] (LC N) h (rt (some (vI (spV h i))) (LC N) (spH h i x)) := by
  refine ok_body B_X4_startPart rfl (fun X hX => ?_)
  refine hX 30 [] 0 _ _ _ _ _ _ ?_
  refine And.intro (fun c => ?_) (fun c => ?_)
  · have c : h 4 10 ≠ 0 := c
    exact rt_mk (by unfold spV; rw [if_neg c]) (by unfold spH; rw [if_neg c])
  · have c : h 4 10 = 0 := c
    refine Ok_rt (addPart_ok (p := 5) (n := rdA h 11 6 i) (Or.inl rfl) hi rfl hn) ?_
    exact rt_mk (by unfold spV; rw [if_pos c]) (by unfold spH; rw [if_pos c])
theorem readGauge_ok (h7 : -1 ≤ h 4 7 ∧ h 4 7 ≤ 1900) : Ok 79 [vR 4] (LC N) h (rt none (LC N) (rgH h)) := by
  have bA := pt_bd (h := h) (k := 5)
  have bB : rgA h 4 7 ≤ rgB h 4 7 ∧ rgB h 4 7 ≤ rgA h 4 7 + 1 := by unfold rgB; rw [wrA_cell (by decide)]; exact num_bd
  have bC : rgB h 4 7 ≤ rgC h 4 7 ∧ rgC h 4 7 ≤ rgB h 4 7 + 1 := by unfold rgC; rw [wrA_cell (by decide)]; exact num_bd
  have bD := pt_bd (h := rgC h) (k := 6)
  have bE : rgD h 4 7 ≤ rgE h 4 7 ∧ rgE h 4 7 ≤ rgD h 4 7 + 1 := by unfold rgE; rw [wrA_cell (by decide)]; exact num_bd
  have bA' : h 4 7 ≤ rgA h 4 7 ∧ rgA h 4 7 ≤ h 4 7 + 1 := bA
  have bD' : rgC h 4 7 ≤ rgD h 4 7 ∧ rgD h 4 7 ≤ rgC h 4 7 + 1 := bD
  refine ok_body B_X4_readGauge rfl (fun X hX => ?_)
  refine hX 80 [] 0 _ _ _ _ _ _ ?_
  refine Ok_rt (pt_ok ⟨by omega, by omega⟩) ?_
  refine Ok_rt (readNumber_ok (h := rgA h) ⟨by omega, by omega⟩) ?_
  refine Ok_rt (setCell_ok (o := 13) (Or.inl rfl)) ?_
  refine Ok_rt (readNumber_ok (h := rgB h) ⟨by omega, by omega⟩) ?_
  refine Ok_rt (setCell_ok (o := 13) (Or.inl rfl)) ?_
  refine Ok_rt (pt_ok (h := rgC h) ⟨by omega, by omega⟩) ?_
  refine Ok_rt (readNumber_ok (h := rgD h) ⟨by omega, by omega⟩) ?_
  refine Ok_rt (setCell_ok (o := 13) (Or.inl rfl)) ?_
  refine Ok_rt (pt_ok (h := rgE h) ⟨by omega, by omega⟩) ?_
  exact rt_mk rfl rfl
theorem readColor_ok (h7 : -1 ≤ h 4 7 ∧ h 4 7 ≤ 1900) (hi : -1000 ≤ i ∧ i ≤ 1000) (hj : -1000 ≤ j ∧ j ≤ 1000) : Ok 92 [vR 4, vI i, vI j] (LC N) h (rt none (LC N) (rcH h i j)) := by
  have bA := pt_bd (h := h) (k := 19)
  refine ok_body B_X4_readColor rfl (fun X hX => ?_)
  refine hX 40 [] 0 _ _ _ _ _ _ ?_
  refine Ok_rt (pt_ok ⟨by omega, by omega⟩) ?_
  refine Ok_rt (readNumber_ok ⟨by omega, by omega⟩) ?_
  refine Ok_rt (tell_ok hi hj ⟨by decide, by decide⟩) ?_
  exact rt_mk rfl rfl
theorem readLot_ok (h7 : -1 ≤ h 4 7 ∧ h 4 7 ≤ 1900) (hl : -1000 ≤ rdA h 14 132 3 ∧ rdA h 14 132 3 ≤ 1000) : Ok 95 [vR 4] (LC N) h (rt none (LC N) (rlH h)) := by
  refine ok_body B_X4_readLot rfl (fun X hX => ?_)
  have bA : h 4 7 ≤ rlA h 4 7 ∧ rlA h 4 7 ≤ h 4 7 + 1 := by
    have := pt_bd (h := failH h (if 10 ≤ rdA h 14 132 3 then 1 else 0) 5) (k := 14)
    rw [fail_7] at this
    exact this
  have bB := num_bd (h := rlA h) (a := 0) (b := 3)
  have bC := num_bd (h := numH (rlA h) 0 3) (a := 1) (b := 9999)
  have bC' : numH (rlA h) 0 3 4 7 ≤ rlB h 4 7 ∧ rlB h 4 7 ≤ numH (rlA h) 0 3 4 7 + 1 := bC
  have c14 : rdA (rlB h) 14 132 3 = rdA h 14 132 3 := by
    unfold rdA rlB
    rw [num_cell (by decide), num_cell (by decide)]
    unfold rlA
    rw [pt_cell (by decide), failH_cell (by decide)]
  have e4 : rlC h 4 = rlB h 4 := by
    unfold rlC
    split
    · rw [wrA_cell (by decide), wrA_cell (by decide), wrA_cell (by decide)]
    · rfl
  have fin : ∀ h5, h5 = rlC h → X 60 [vR 4, vI (l2iI (tvH (rlA h))), vI (l2iI (tvH (numH (rlA h) 0 3)))] [] (LC N) h5 0 0 := by
    intro h5 e5
    subst e5
    refine hX 30 [] 60 _ _ _ _ _ _ ?_
    refine Ok_rt (pt_ok (by rw [e4]; exact ⟨by omega, by omega⟩)) ?_
    exact rt_mk rfl rfl
  have mid : ∀ y, y = (if 10 ≤ rdA h 14 132 3 then (1 : Int) else 0) → X 18 [vR 4, vU, vU] [vI y, vR 4] (LC N) h 0 0 := by
    intro y hy
    refine hX 30 [34] 18 _ _ _ _ _ _ ?_
    refine Ok_rt failIf_ok ?_
    rw [hy]
    refine Ok_rt (pt_ok (by rw [fail_7]; exact ⟨by omega, by omega⟩)) ?_
    refine Ok_rt (readNumber_ok (h := rlA h) ⟨by omega, by omega⟩) ?_
    show X 34 [_, vU, _] [vI (l2iI (tvH (rlA h)))] _ (numH (rlA h) 0 3) _ _
    refine hX 30 [35] 34 _ _ _ _ _ _ ?_
    show X 35 [_, vI (l2iI (tvH (rlA h))), _] _ _ _ _ _
    refine hX 30 [43] 35 _ _ _ _ _ _ ?_
    refine Ok_rt (readNumber_ok ⟨by omega, by omega⟩) ?_
    show X 43 [_, _, vU] [vI (l2iI (tvH (numH (rlA h) 0 3)))] _ (rlB h) _ _
    refine hX 30 [44] 43 _ _ _ _ _ _ ?_
    show X 44 [_, _, vI (l2iI (tvH (numH (rlA h) 0 3)))] _ _ _ _ _
    refine hX 30 [60] 44 _ _ _ _ _ _ ?_
    refine And.intro (fun c => ?_) (fun c => ?_)
    · have c : rlB h 4 10 ≠ 0 := c
      exact fin _ (by unfold rlC; rw [if_neg c])
    · have c : rlB h 4 10 = 0 := c
      refine Ok_rt (appendLot_ok (o := 13) (Or.inl rfl) (show -1000 ≤ rdA (rlB h) 14 132 3 ∧ rdA (rlB h) 14 132 3 ≤ 1000 by rw [c14]; exact hl)) ?_
      exact fin _ (by unfold rlC; rw [if_pos c, ← c14])
  refine hX 30 [18] 0 _ _ _ _ _ _ ?_
  refine Ok_rt (lots_ok (o := 13) (Or.inl rfl)) ?_
  refine And.intro (fun c => ?_) (fun c => ?_)
  · have c : rdA h 14 132 3 < 10 := c
    exact mid _ (by rw [if_neg (by omega)])
  · have c : 10 ≤ rdA h 14 132 3 := c
    exact mid _ (by rw [if_pos c])
theorem readSizes_ok (h7 : -1 ≤ h 4 7 ∧ h 4 7 ≤ 1900) (hn : 0 ≤ rdA h 7 4 0 ∧ rdA h 7 4 0 ≤ 900) : Ok 80 [vR 4] (LC N) h (rt none (LC N) (rsH h)) := by
  refine ok_body B_X4_readSizes rfl (fun X hX => ?_)
  have bA := pt_bd (h := h) (k := 7)
  have nA : rdA (ptH h 7) 7 4 0 = rdA h 7 4 0 := by unfold rdA; rw [pt_cell (by decide)]
  have bB := nn_bd (h := ptH h 7) (i := 0)
  have nB := nn_cnt (h := ptH h 7) (i := 0) (j := 0) ⟨by decide, by decide⟩
  have fin : ∀ (h1 : HP) (r : Int), (-1 ≤ h1 4 7 ∧ h1 4 7 ≤ 2000) → rsH h = ptH h1 3 → X 40 [vR 4, vI r] [] (LC N) h1 0 0 := by
    intro h1 r b1 hv
    refine hX 30 [] 40 _ _ _ _ _ _ ?_
    refine Ok_rt (pt_ok b1) ?_
    exact rt_mk rfl hv.symm
  have loop : ∀ (m : Nat) (r : Int) (h1 : HP), r + (m : Int) = 7 → 1 ≤ r → -1 ≤ h1 4 7 → h1 4 7 ≤ 1910 + r → 0 ≤ rdA h1 7 4 0 → rdA h1 7 4 0 ≤ 910 + r → rsH h = ptH (szL m h1) 3 → X 14 [vR 4, vI r] [] (LC N) h1 0 0 := by
    intro m
    induction m with
    | zero =>
      intro r h1 hr r1 b0 b1 n0 n1 hv
      refine hX 30 [40] 14 _ _ _ _ _ _ ?_
      refine And.intro (fun _ => ?_) (fun c => absurd c (by omega))
      exact fin h1 r ⟨b0, by omega⟩ hv
    | succ m ih =>
      intro r h1 hr r1 b0 b1 n0 n1 hv
      have st : szL (m + 1) h1 = if 4 ≤ h1 4 9 then szL m (nnP h1 0) else h1 := rfl
      rw [st] at hv
      refine hX 30 [14, 40] 14 _ _ _ _ _ _ ?_
      refine And.intro (fun c => absurd c (by omega)) (fun _ => ?_)
      refine And.intro (fun c => ?_) (fun c => ?_)
      · have c : h1 4 9 < 4 := c
        rw [if_neg (by omega)] at hv
        exact fin h1 r ⟨b0, by omega⟩ hv
      · have c : 4 ≤ h1 4 9 := c
        rw [if_pos c] at hv
        have bb := nn_bd (h := h1) (i := 0)
        have nb := nn_cnt (h := h1) (i := 0) (j := 0) ⟨by decide, by decide⟩
        refine Ok_rt (nn_ok ⟨by decide, by decide⟩ ⟨n0, by omega⟩ ⟨b0, by omega⟩) ?_
        refine And.intro ⟨by omega, by omega⟩ ?_
        exact ih (r + 1) (nnP h1 0) (by omega) (by omega) (by omega) (by omega) (by omega) (by omega) hv
  refine hX 30 [14] 0 _ _ _ _ _ _ ?_
  refine Ok_rt (pt_ok ⟨by omega, by omega⟩) ?_
  refine Ok_rt (nn_ok ⟨by decide, by decide⟩ (by rw [nA]; exact ⟨hn.1, by omega⟩) ⟨by omega, by omega⟩) ?_
  exact loop 6 1 (nnP (ptH h 7) 0) (by omega) (by omega) (by omega) (by omega) (by omega) (by omega) rfl
end READER4
