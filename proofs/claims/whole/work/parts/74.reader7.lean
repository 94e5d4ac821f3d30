/-! ===== Reader: cast, work, shape ===== -/
theorem sp_cell {h : HP} {i x : Int} {q : Nat} (n : q ≠ 11) (m : q ≠ 12) : spH h i x q = h q := by
  unfold spH
  split
  · unfold addPartH addPartN
    rw [wrA_cell n, wrA_cell m, wrA_cell m, wrA_cell m, wrA_cell m, flF_cell m]
  · rfl
theorem rc_bd {h : HP} {i j : Int} : h 4 7 ≤ rcH h i j 4 7 ∧ rcH h i j 4 7 ≤ h 4 7 + 2 := by
  unfold rcH
  rw [tl_4]
  have a := pt_bd (h := h) (k := 19)
  have b := num_bd (h := ptH h 19) (a := 0) (b := 3)
  omega
theorem rc_cell {h : HP} {i j : Int} {q : Nat} (n : q ≠ 4) (m : q ≠ 12) : rcH h i j q = h q := by
  unfold rcH
  rw [tl_cell m, num_cell n, pt_cell n]
theorem wd_bd {h : HP} {i j : Int} : h 4 7 ≤ wdH h i j 4 7 ∧ wdH h i j 4 7 ≤ h 4 7 + 7 := by
  have k := kn_bd (h := h) (i := 1)
  have eA : wdA h i j 4 7 = knH h 1 4 7 := by unfold wdA; rw [tl_4]
  have eE : wdA h i j 4 7 ≤ wdEH (wdA h i j) 4 7 ∧ wdEH (wdA h i j) 4 7 ≤ wdA h i j 4 7 + 2 := by
    have a := pass_bd (h := wdA h i j)
    have b := num_bd (h := passH (wdA h i j)) (a := 0) (b := 999)
    unfold wdEH
    split
    · omega
    · split <;> omega
  have eF : wdEH (wdA h i j) 4 7 ≤ wdFH (wdEH (wdA h i j)) 4 7 ∧ wdFH (wdEH (wdA h i j)) 4 7 ≤ wdEH (wdA h i j) 4 7 + 4 := by
    have a := pass_bd (h := wdEH (wdA h i j))
    have b := num_bd (h := passH (wdEH (wdA h i j))) (a := 1) (b := 30)
    have b' : passH (wdEH (wdA h i j)) 4 7 ≤ wdPA (wdEH (wdA h i j)) 4 7 ∧ wdPA (wdEH (wdA h i j)) 4 7 ≤ passH (wdEH (wdA h i j)) 4 7 + 1 := b
    have c := pass_bd (h := wdPA (wdEH (wdA h i j)))
    have d := num_bd (h := passH (wdPA (wdEH (wdA h i j)))) (a := 0) (b := wdP (wdEH (wdA h i j)) - 1)
    unfold wdFH
    split
    · split <;> omega
    · omega
  have eS : ∀ (g : HP) (e : Int), wdS g i j e 4 = g 4 := fun g e => by
    unfold wdS
    split
    · rw [wrA_cell (by decide)]
    · rfl
  unfold wdH wdG
  rw [tl_4, tl_4, eS]
  omega
theorem wd_cell {h : HP} {i j : Int} {q : Nat} (n : q ≠ 4) (m : q ≠ 12) (l : q ≠ 14) : wdH h i j q = h q := by
  have eA : wdA h i j q = h q := by unfold wdA; rw [tl_cell m, kn_cell n]
  have eE : wdEH (wdA h i j) q = h q := by
    unfold wdEH
    split
    · rw [num_cell n, passH_cell n, eA]
    · split
      · rw [num_cell n, passH_cell n, eA]
      · exact eA
  have eP : wdPA (wdEH (wdA h i j)) q = h q := by unfold wdPA; rw [num_cell n, passH_cell n, eE]
  have eF : wdFH (wdEH (wdA h i j)) q = h q := by
    unfold wdFH
    split
    · split
      · rw [num_cell n, passH_cell n, eP]
      · exact eP
    · exact eE
  have eS : ∀ (g : HP) (e : Int), wdS g i j e q = g q := fun g e => by
    unfold wdS
    split
    · rw [wrA_cell l]
    · rfl
  unfold wdH wdG
  rw [tl_cell m, tl_cell m, eS, eF]
def caB (h : HP) (i : Int) : HP := spH (ptH h 10) i 0
def caJ (h : HP) (i : Int) : Int := spV (ptH h 10) i
def caH (h : HP) (i : Int) : HP := ptH (rcH (wdH (caB h i) i (caJ h i)) i (caJ h i)) 3
def woB (h : HP) (i : Int) : HP := spH (ptH h 11) i 1
def woJ (h : HP) (i : Int) : Int := spV (ptH h 11) i
def woC (h : HP) (i : Int) : HP := rcH (tlH (knH (woB h i) 1) i (woJ h i) 6 (numN (woB h i) 1 (tvH (woB h i)))) i (woJ h i)
def woD (h : HP) (i : Int) : HP := if woC h i 4 9 = 20 then tlH (knH (passH (woC h i)) 2) i (woJ h i) 8 (numN (passH (woC h i)) 2 (tvH (passH (woC h i)))) else woC h i
def woH (h : HP) (i : Int) : HP := ptH (woD h i) 3
def shB (h : HP) (i : Int) : HP := spH (ptH h 12) i 2
def shJ (h : HP) (i : Int) : Int := spV (ptH h 12) i
def shC (h : HP) (i : Int) : HP := ptH (wdH (shB h i) i (shJ h i)) 21
def shD (h : HP) (i : Int) : HP := ptH (tlH (knH (shC h i) 1) i (shJ h i) 6 (numN (shC h i) 1 (tvH (shC h i)))) 22
def shE (h : HP) (i : Int) : HP := rcH (tlH (numH (shD h i) 1 4) i (shJ h i) 7 (l2iI (tvH (shD h i)))) i (shJ h i)
def shH (h : HP) (i : Int) : HP := ptH (shE h i) 3
/-- a piece that takes one part more, if nothing is wrong yet -/
def ptRm (h : HP) (i : Int) : Prop := (-1000 ≤ i ∧ i ≤ 1000) ∧ (h 4 10 = 0 → (0 ≤ i ∧ i ≤ 10) ∧ 0 ≤ rdA h 11 6 i ∧ rdA h 11 6 i ≤ 100)
theorem fail_10 {h : HP} {x c : Int} (hc : c ≠ 0) (e : failH h x c 4 10 = 0) : h 4 10 = 0 ∧ x = 0 := by
  unfold failH at e
  split at e
  · rw [up_ne (by decide), up_ne (by decide), up_same] at e
    exact absurd e hc
  · next z =>
    refine ⟨e, ?_⟩
    by_cases y : x = 0
    · exact y
    · exact absurd ⟨y, e⟩ z
theorem pt_10 {h : HP} {k : Int} (e : ptH h k 4 10 = 0) : h 4 10 = 0 ∧ h 4 9 = k := by
  unfold ptH at e
  rw [passH_10 (by decide) (by decide) (by decide)] at e
  have a := fail_10 (by decide) e
  refine ⟨a.1, ?_⟩
  by_cases y : h 4 9 = k
  · exact y
  · have b := a.2
    rw [if_neg y] at b
    exact absurd b (by decide)
theorem spV_bd {h : HP} {i k : Int} (r : ptRm h i) : -1000 ≤ spV (ptH h k) i ∧ spV (ptH h k) i ≤ 1000 := by
  unfold spV
  split
  · next z =>
    have a := (r.2 (pt_10 z).1).2
    have e : rdA (ptH h k) 11 6 i = rdA h 11 6 i := by unfold rdA; rw [pt_cell (by decide)]
    rw [e]
    omega
  · omega
section READER7
variable {N : List CT} {h : HP} {i j k t a b w x : Int}
theorem startP_ok (hi : ptRm h i) : Ok 93 [vR 4, vI i, vI x] (LC N) (ptH h k) (rt (some (vI (spV (ptH h k) i))) (LC N) (spH (ptH h k) i x)) := by
  refine ok_body B_X4_startPart rfl (fun X hX => ?_)
  refine hX 30 [] 0 _ _ _ _ _ _ ?_
  refine And.intro (fun c => ?_) (fun c => ?_)
  · have c : ptH h k 4 10 ≠ 0 := c
    exact rt_mk (by unfold spV; rw [if_neg c]) (by unfold spH; rw [if_neg c])
  · have c : ptH h k 4 10 = 0 := c
    have a := hi.2 (pt_10 c).1
    have e : rdA (ptH h k) 11 6 i = rdA h 11 6 i := by unfold rdA; rw [pt_cell (by decide)]
    refine Ok_rt (addPart_ok (p := 5) (n := rdA (ptH h k) 11 6 i) (Or.inl rfl) a.1 rfl (by rw [e]; exact a.2)) ?_
    exact rt_mk (by unfold spV; rw [if_pos c]) (by unfold spH; rw [if_pos c])
theorem readCast_ok (h7 : -1 ≤ h 4 7 ∧ h 4 7 ≤ 1880) (hn : rdA h 7 4 1 ≤ 1000) (hv : tvOK h) (hi : ptRm h i) : Ok 88 [vR 4, vI i] (LC N) h (rt none (LC N) (caH h i)) := by
  have jb := spV_bd (k := 10) hi
  have jb' : -1000 ≤ caJ h i ∧ caJ h i ≤ 1000 := jb
  have b1 := pt_bd (h := h) (k := 10)
  have e4 : caB h i 4 = ptH h 10 4 := by unfold caB; exact sp_cell (by decide) (by decide)
  have eq : ∀ q, q ≠ 4 → q ≠ 11 → q ≠ 12 → caB h i q = h q := fun q q1 q2 q3 => by unfold caB; rw [sp_cell q2 q3, pt_cell q1]
  have b2 := wd_bd (h := caB h i) (i := i) (j := caJ h i)
  have b3 := rc_bd (h := wdH (caB h i) i (caJ h i)) (i := i) (j := caJ h i)
  rw [e4] at b2
  refine ok_body B_X4_readCast rfl (fun X hX => ?_)
  refine hX 40 [12] 0 _ _ _ _ _ _ ?_
  refine Ok_rt (pt_ok ⟨by omega, by omega⟩) ?_
  refine Ok_rt (startP_ok hi) ?_
  show X 12 _ [vI (caJ h i)] _ (caB h i) _ _
  refine hX 40 [13] 12 _ _ _ _ _ _ ?_
  show X 13 [_, _, vI (caJ h i)] _ _ _ _ _
  refine hX 40 [] 13 _ _ _ _ _ _ ?_
  refine Ok_rt (readWidth_ok (by rw [e4]; exact ⟨by omega, by omega⟩) (by unfold rdA; rw [eq 7 (by decide) (by decide) (by decide)]; exact hn) (by unfold tvOK; rw [eq 18 (by decide) (by decide) (by decide)]; exact hv) hi.1 jb') ?_
  refine Ok_rt (readColor_ok ⟨by omega, by omega⟩ hi.1 jb') ?_
  refine Ok_rt (pt_ok ⟨by omega, by omega⟩) ?_
  exact rt_mk rfl rfl
theorem readWork_ok (h7 : -1 ≤ h 4 7 ∧ h 4 7 ≤ 1880) (hn : rdA h 7 4 1 ≤ 1000) (hn2 : rdA h 7 4 2 ≤ 1000) (hi : ptRm h i) : Ok 89 [vR 4, vI i] (LC N) h (rt none (LC N) (woH h i)) := by
  have jb := spV_bd (k := 11) hi
  have jb' : -1000 ≤ woJ h i ∧ woJ h i ≤ 1000 := jb
  have b1 := pt_bd (h := h) (k := 11)
  have e4 : woB h i 4 = ptH h 11 4 := by unfold woB; exact sp_cell (by decide) (by decide)
  have eq : ∀ q, q ≠ 4 → q ≠ 11 → q ≠ 12 → woB h i q = h q := fun q q1 q2 q3 => by unfold woB; rw [sp_cell q2 q3, pt_cell q1]
  have b2 := kn_bd (h := woB h i) (i := 1)
  rw [e4] at b2
  have bT : tlH (knH (woB h i) 1) i (woJ h i) 6 (numN (woB h i) 1 (tvH (woB h i))) 4 7 = knH (woB h i) 1 4 7 := by rw [tl_4]
  have b3 := rc_bd (h := tlH (knH (woB h i) 1) i (woJ h i) 6 (numN (woB h i) 1 (tvH (woB h i)))) (i := i) (j := woJ h i)
  rw [bT] at b3
  have b3' : knH (woB h i) 1 4 7 ≤ woC h i 4 7 ∧ woC h i 4 7 ≤ knH (woB h i) 1 4 7 + 2 := b3
  have b4 := pass_bd (h := woC h i)
  have b5 := kn_bd (h := passH (woC h i)) (i := 2)
  have c7 : rdA (passH (woC h i)) 7 4 2 = rdA h 7 4 2 := by
    unfold rdA
    rw [passH_cell (by decide)]
    unfold woC
    rw [rc_cell (by decide) (by decide), tl_cell (by decide), kn_cell (by decide), eq 7 (by decide) (by decide) (by decide)]
  refine ok_body B_X4_readWork rfl (fun X hX => ?_)
  have fin : ∀ g, g = woD h i → -1 ≤ g 4 7 → g 4 7 ≤ 1990 → X 58 [vR 4, vI i, vI (woJ h i)] [] (LC N) g 0 0 := by
    intro g eg g0 g1
    refine hX 40 [] 58 _ _ _ _ _ _ ?_
    refine Ok_rt (pt_ok ⟨by omega, by omega⟩) ?_
    exact rt_mk rfl (by rw [eg]; rfl)
  refine hX 40 [12] 0 _ _ _ _ _ _ ?_
  refine Ok_rt (pt_ok ⟨by omega, by omega⟩) ?_
  refine Ok_rt (startP_ok hi) ?_
  show X 12 _ [vI (woJ h i)] _ (woB h i) _ _
  refine hX 40 [13] 12 _ _ _ _ _ _ ?_
  show X 13 [_, _, vI (woJ h i)] _ _ _ _ _
  refine hX 60 [58] 13 _ _ _ _ _ _ ?_
  refine Ok_rt (kn_ok ⟨by decide, by decide⟩ (by unfold rdA; rw [eq 7 (by decide) (by decide) (by decide)]; exact hn) (by rw [e4]; exact ⟨by omega, by omega⟩)) ?_
  refine Ok_rt (tell_ok hi.1 jb' ⟨by decide, by decide⟩) ?_
  refine Ok_rt (readColor_ok (by rw [bT]; exact ⟨by omega, by omega⟩) hi.1 jb') ?_
  refine And.intro (fun c => ?_) (fun c => ?_)
  · have c : woC h i 4 9 ≠ 20 := c
    exact fin (woC h i) (by unfold woD; rw [if_neg c]) (by omega) (by omega)
  · have c : woC h i 4 9 = 20 := c
    refine Ok_rt (pass_ok (h := woC h i) ⟨by omega, by omega⟩) ?_
    refine Ok_rt (kn_ok ⟨by decide, by decide⟩ (by rw [c7]; exact hn2) ⟨by omega, by omega⟩) ?_
    refine Ok_rt (tell_ok hi.1 jb' ⟨by decide, by decide⟩) ?_
    exact fin _ (by unfold woD; rw [if_pos c]) (by rw [tl_4]; omega) (by rw [tl_4]; omega)
theorem readShape_ok (h7 : -1 ≤ h 4 7 ∧ h 4 7 ≤ 1880) (hn : rdA h 7 4 1 ≤ 1000) (hv : tvOK h) (hi : ptRm h i) : Ok 90 [vR 4, vI i] (LC N) h (rt none (LC N) (shH h i)) := by
  have jb := spV_bd (k := 12) hi
  have jb' : -1000 ≤ shJ h i ∧ shJ h i ≤ 1000 := jb
  have b1 := pt_bd (h := h) (k := 12)
  have e4 : shB h i 4 = ptH h 12 4 := by unfold shB; exact sp_cell (by decide) (by decide)
  have eq : ∀ q, q ≠ 4 → q ≠ 11 → q ≠ 12 → shB h i q = h q := fun q q1 q2 q3 => by unfold shB; rw [sp_cell q2 q3, pt_cell q1]
  have b2 := wd_bd (h := shB h i) (i := i) (j := shJ h i)
  rw [e4] at b2
  have b3 := pt_bd (h := wdH (shB h i) i (shJ h i)) (k := 21)
  have b3' : wdH (shB h i) i (shJ h i) 4 7 ≤ shC h i 4 7 ∧ shC h i 4 7 ≤ wdH (shB h i) i (shJ h i) 4 7 + 1 := b3
  have c7 : rdA (shC h i) 7 4 1 = rdA h 7 4 1 := by
    unfold rdA shC
    rw [pt_cell (by decide), wd_cell (by decide) (by decide) (by decide), eq 7 (by decide) (by decide) (by decide)]
  have b4 := kn_bd (h := shC h i) (i := 1)
  have bT : tlH (knH (shC h i) 1) i (shJ h i) 6 (numN (shC h i) 1 (tvH (shC h i))) 4 7 = knH (shC h i) 1 4 7 := by rw [tl_4]
  have b5 := pt_bd (h := tlH (knH (shC h i) 1) i (shJ h i) 6 (numN (shC h i) 1 (tvH (shC h i)))) (k := 22)
  rw [bT] at b5
  have b5' : knH (shC h i) 1 4 7 ≤ shD h i 4 7 ∧ shD h i 4 7 ≤ knH (shC h i) 1 4 7 + 1 := b5
  have b6 := num_bd (h := shD h i) (a := 1) (b := 4)
  have bU : tlH (numH (shD h i) 1 4) i (shJ h i) 7 (l2iI (tvH (shD h i))) 4 7 = numH (shD h i) 1 4 4 7 := by rw [tl_4]
  have b7 := rc_bd (h := tlH (numH (shD h i) 1 4) i (shJ h i) 7 (l2iI (tvH (shD h i)))) (i := i) (j := shJ h i)
  rw [bU] at b7
  have b7' : numH (shD h i) 1 4 4 7 ≤ shE h i 4 7 ∧ shE h i 4 7 ≤ numH (shD h i) 1 4 4 7 + 2 := b7
  refine ok_body B_X4_readShape rfl (fun X hX => ?_)
  refine hX 40 [12] 0 _ _ _ _ _ _ ?_
  refine Ok_rt (pt_ok ⟨by omega, by omega⟩) ?_
  refine Ok_rt (startP_ok hi) ?_
  show X 12 _ [vI (shJ h i)] _ (shB h i) _ _
  refine hX 40 [13] 12 _ _ _ _ _ _ ?_
  show X 13 [_, _, vI (shJ h i)] _ _ _ _ _
  refine hX 80 [] 13 _ _ _ _ _ _ ?_
  refine Ok_rt (readWidth_ok (by rw [e4]; exact ⟨by omega, by omega⟩) (by unfold rdA; rw [eq 7 (by decide) (by decide) (by decide)]; exact hn) (by unfold tvOK; rw [eq 18 (by decide) (by decide) (by decide)]; exact hv) hi.1 jb') ?_
  refine Ok_rt (pt_ok ⟨by omega, by omega⟩) ?_
  refine Ok_rt (kn_ok (h := shC h i) ⟨by decide, by decide⟩ (by rw [c7]; exact hn) ⟨by omega, by omega⟩) ?_
  refine Ok_rt (tell_ok hi.1 jb' ⟨by decide, by decide⟩) ?_
  refine Ok_rt (pt_ok (by rw [bT]; exact ⟨by omega, by omega⟩)) ?_
  refine Ok_rt (readNumber_ok (h := shD h i) ⟨by omega, by omega⟩) ?_
  refine Ok_rt (tell_ok hi.1 jb' ⟨by decide, by decide⟩) ?_
  refine Ok_rt (readColor_ok (by rw [bU]; exact ⟨by omega, by omega⟩) hi.1 jb') ?_
  refine Ok_rt (pt_ok (h := shE h i) ⟨by omega, by omega⟩) ?_
  exact rt_mk rfl rfl
end READER7
