/-! ===== Reader: the width of a part ===== -/
def knH (h : HP) (i : Int) : HP := passH (failH (failH h (nameB h) 1) (if numN h i (tvH h) = -1 then 1 else 0) 4)
theorem kn_bd {h : HP} {i : Int} : h 4 7 ≤ knH h i 4 7 ∧ knH h i 4 7 ≤ h 4 7 + 1 := by
  have := pass_bd (h := failH (failH h (nameB h) 1) (if numN h i (tvH h) = -1 then 1 else 0) 4)
  rw [fail_7, fail_7] at this
  exact this
theorem kn_cell {h : HP} {i : Int} {q : Nat} (n : q ≠ 4) : knH h i q = h q := by unfold knH; rw [passH_cell n, failH_cell n, failH_cell n]
theorem tl_cell {h : HP} {i j k x : Int} {q : Nat} (n : q ≠ 12) : tlH h i j k x q = h q := by
  unfold tlH
  split
  · rw [wrA_cell n]
  · rfl
def wdA (h : HP) (i j : Int) : HP := tlH (knH h 1) i j 2 (numN h 1 (tvH h))
def wdE (g : HP) : Int := if g 4 9 = 16 then l2iI (tvH (passH g)) else if g 4 9 = 17 then -(l2iI (tvH (passH g))) else 0
def wdEH (g : HP) : HP := if g 4 9 = 16 then numH (passH g) 0 999 else if g 4 9 = 17 then numH (passH g) 0 999 else g
def wdPA (g : HP) : HP := numH (passH g) 1 30
def wdP (g : HP) : Int := if g 4 9 = 18 then l2iI (tvH (passH g)) else 1
def wdQ (g : HP) : Int := if g 4 9 = 18 then (if wdPA g 4 9 = 15 then l2iI (tvH (passH (wdPA g))) else 0) else 0
def wdFH (g : HP) : HP := if g 4 9 = 18 then (if wdPA g 4 9 = 15 then numH (passH (wdPA g)) 0 (wdP g - 1) else wdPA g) else g
def wdS (g : HP) (i j e : Int) : HP := if g 4 10 = 0 then wrA g 14 132 (72 + i * 10 + j) e else g
def wdG (g : HP) (i j e : Int) : HP := tlH (tlH (wdS (wdFH g) i j e) i j 4 (wdP g)) i j 5 (wdQ g)
def wdH (h : HP) (i j : Int) : HP := wdG (wdEH (wdA h i j)) i j (wdE (wdA h i j))
/-- the low words of the tokens' values -/
def tvOK (h : HP) : Prop := ∀ t, -2147483647 ≤ l2iI (rd (h 18) 1501 t)
theorem tv_bd {h g : HP} (H : tvOK h) (e : g 18 = h 18) : -2147483647 ≤ l2iI (tvH g) ∧ l2iI (tvH g) ≤ 2147483647 := by
  have a : tvH g = rd (g 18) 1501 (g 4 7) := rfl
  rw [a, e]
  have b : inR (l2iI (rd (h 18) 1501 (g 4 7))) := i_rng _
  have c := H (g 4 7)
  exact ⟨c, by omega⟩
section READER6
variable {N : List CT} {h : HP} {i j k t a b w x : Int}
theorem kn_ok (hi : 0 ≤ i ∧ i ≤ 3) (hn : rdA h 7 4 i ≤ 1000) (h7 : -1 ≤ h 4 7 ∧ h 4 7 ≤ 2000) : Ok 78 [vR 4, vI i] (LC N) h (rt (some (vI (numN h i (tvH h)))) (LC N) (knH h i)) := readKnownName_ok hi hn h7
theorem readWidth_ok (h7 : -1 ≤ h 4 7 ∧ h 4 7 ≤ 1900) (hn : rdA h 7 4 1 ≤ 1000) (hv : tvOK h) (hi : -1000 ≤ i ∧ i ≤ 1000) (hj : -1000 ≤ j ∧ j ≤ 1000) : Ok 91 [vR 4, vI i, vI j] (LC N) h (rt none (LC N) (wdH h i j)) := by
  refine ok_body B_X4_readWidth rfl (fun X hX => ?_)
  have at131 : ∀ (e p f : Int) (g : HP), wdH h i j = tlH (tlH g i j 4 p) i j 5 f → X 131 [vR 4, vI i, vI j, vI e, vI p, vI f] [] (LC N) g 0 0 := by
    intro e p f g hg
    refine hX 30 [] 131 _ _ _ _ _ _ ?_
    refine Ok_rt (tell_ok hi hj ⟨by decide, by decide⟩) ?_
    refine Ok_rt (tell_ok hi hj ⟨by decide, by decide⟩) ?_
    exact rt_mk rfl hg.symm
  have at114 : ∀ (e p f : Int) (g : HP), wdH h i j = tlH (tlH (wdS g i j e) i j 4 p) i j 5 f → X 114 [vR 4, vI i, vI j, vI e, vI p, vI f] [] (LC N) g 0 0 := by
    intro e p f g hg
    refine hX 30 [131] 114 _ _ _ _ _ _ ?_
    refine And.intro (fun c => ?_) (fun c => ?_)
    · have c : g 4 10 ≠ 0 := c
      refine at131 e p f g ?_
      rw [hg]
      unfold wdS
      rw [if_neg c]
    · have c : g 4 10 = 0 := c
      refine Ok_rt (setEaseOf_ok (o := 13) (Or.inl rfl) hi hj) ?_
      refine at131 e p f _ ?_
      rw [hg]
      unfold wdS
      rw [if_pos c]
  have at68 : ∀ (e : Int) (g : HP), -1 ≤ g 4 7 → g 4 7 ≤ 1950 → g 18 = h 18 → wdH h i j = wdG g i j e → X 68 [vR 4, vI i, vI j, vI e, vI 1, vI 0] [] (LC N) g 0 0 := by
    intro e g b0 b1 e18 hg
    unfold wdG at hg
    refine hX 30 [90, 114] 68 _ _ _ _ _ _ ?_
    refine And.intro (fun c => ?_) (fun c => ?_)
    · have c : g 4 9 ≠ 18 := c
      refine at114 e 1 0 g ?_
      rw [hg]
      unfold wdFH wdP wdQ
      rw [if_neg c, if_neg c, if_neg c]
    · have c : g 4 9 = 18 := c
      have pb := pass_bd (h := g)
      have nb := num_bd (h := passH g) (a := 1) (b := 30)
      have nb' : passH g 4 7 ≤ wdPA g 4 7 ∧ wdPA g 4 7 ≤ passH g 4 7 + 1 := nb
      have v1 := tv_bd (g := passH g) hv (by rw [passH_cell (by decide), e18])
      have eP : wdP g = l2iI (tvH (passH g)) := by unfold wdP; rw [if_pos c]
      refine Ok_rt (pass_ok ⟨b0, by omega⟩) ?_
      refine Ok_rt (readNumber_ok ⟨by omega, by omega⟩) ?_
      show X 90 [_, _, _, _, vI (l2iI (tvH (passH g))), _] _ _ (wdPA g) _ _
      refine hX 30 [112, 114] 90 _ _ _ _ _ _ ?_
      refine And.intro (fun d => ?_) (fun d => ?_)
      · have d : wdPA g 4 9 ≠ 15 := d
        refine at114 e _ 0 _ ?_
        rw [hg, ← eP]
        unfold wdFH wdQ
        rw [if_pos c, if_pos c, if_neg d, if_neg d]
      · have d : wdPA g 4 9 = 15 := d
        have pb2 := pass_bd (h := wdPA g)
        refine Ok_rt (pass_ok ⟨by omega, by omega⟩) ?_
        refine And.intro ⟨by omega, by omega⟩ ?_
        refine Ok_rt (readNumber_ok ⟨by omega, by omega⟩) ?_
        show X 112 _ [vI (l2iI (tvH (passH (wdPA g))))] _ _ _ _
        refine hX 30 [114] 112 _ _ _ _ _ _ ?_
        show X 114 [_, _, _, _, _, vI (l2iI (tvH (passH (wdPA g))))] _ _ _ _ _
        refine at114 e _ _ _ ?_
        rw [hg, ← eP]
        unfold wdFH wdQ
        rw [if_pos c, if_pos c, if_pos d, if_pos d]
  have at62 : ∀ (e : Int) (g : HP) (j4 j5 : PV), -1 ≤ g 4 7 → g 4 7 ≤ 1950 → g 18 = h 18 → wdH h i j = wdG g i j e → X 62 [vR 4, vI i, vI j, vI e, j4, j5] [] (LC N) g 0 0 := by
    intro e g j4 j5 b0 b1 e18 hg
    refine hX 30 [65, 68] 62 _ _ _ _ _ _ ?_
    show X 65 [_, _, _, _, vI 1, _] _ _ _ _ _
    refine hX 30 [68] 65 _ _ _ _ _ _ ?_
    show X 68 [_, _, _, _, _, vI 0] _ _ _ _ _
    exact at68 e g b0 b1 e18 hg
  have kb := kn_bd (h := h) (i := 1)
  have bA : wdA h i j 4 7 = knH h 1 4 7 := by unfold wdA; rw [tl_4]
  have cA : wdA h i j 18 = h 18 := by unfold wdA; rw [tl_cell (by decide), kn_cell (by decide)]
  have pb := pass_bd (h := wdA h i j)
  have nb := num_bd (h := passH (wdA h i j)) (a := 0) (b := 999)
  have v1 := tv_bd (g := passH (wdA h i j)) hv (by rw [passH_cell (by decide), cA])
  have c18 : numH (passH (wdA h i j)) 0 999 18 = h 18 := by rw [num_cell (by decide), passH_cell (by decide), cA]
  have hg : wdH h i j = wdG (wdEH (wdA h i j)) i j (wdE (wdA h i j)) := rfl
  unfold wdEH wdE at hg
  refine hX 60 [13] 0 _ _ _ _ _ _ ?_
  refine Ok_rt (kn_ok ⟨by decide, by decide⟩ hn ⟨by omega, by omega⟩) ?_
  refine Ok_rt (tell_ok hi hj ⟨by decide, by decide⟩) ?_
  show X 13 _ [vI 0] _ (wdA h i j) _ _
  refine hX 30 [14] 13 _ _ _ _ _ _ ?_
  show X 14 [_, _, _, vI 0, _, _] _ _ _ _ _
  refine hX 60 [35, 61, 62] 14 _ _ _ _ _ _ ?_
  refine And.intro (fun c => ?_) (fun c => ?_)
  · have c : wdA h i j 4 9 ≠ 16 := c
    rw [if_neg c, if_neg c] at hg
    refine And.intro (fun d => ?_) (fun d => ?_)
    · have d : wdA h i j 4 9 ≠ 17 := d
      rw [if_neg d, if_neg d] at hg
      exact at62 0 _ _ _ (by omega) (by omega) cA hg
    · have d : wdA h i j 4 9 = 17 := d
      rw [if_pos d, if_pos d] at hg
      refine Ok_rt (pass_ok ⟨by omega, by omega⟩) ?_
      refine Ok_rt (readNumber_ok ⟨by omega, by omega⟩) ?_
      refine And.intro ⟨by omega, by omega⟩ ?_
      show X 61 _ [vI (-(l2iI (tvH (passH (wdA h i j)))))] _ _ _ _
      refine hX 30 [62] 61 _ _ _ _ _ _ ?_
      show X 62 [_, _, _, vI (-(l2iI (tvH (passH (wdA h i j))))), _, _] _ _ _ _ _
      exact at62 _ _ _ _ (by omega) (by omega) c18 hg
  · have c : wdA h i j 4 9 = 16 := c
    rw [if_pos c, if_pos c] at hg
    refine Ok_rt (pass_ok ⟨by omega, by omega⟩) ?_
    refine Ok_rt (readNumber_ok ⟨by omega, by omega⟩) ?_
    show X 35 _ [vI (l2iI (tvH (passH (wdA h i j))))] _ _ _ _
    refine hX 30 [36, 62] 35 _ _ _ _ _ _ ?_
    show X 36 [_, _, _, vI (l2iI (tvH (passH (wdA h i j)))), _, _] _ _ _ _ _
    refine hX 30 [62] 36 _ _ _ _ _ _ ?_
    exact at62 _ _ _ _ (by omega) (by omega) c18 hg
end READER6
