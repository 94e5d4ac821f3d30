/-! ===== Reader: a piece ===== -/
/-- each piece has so many parts at most -/
def ptB (b : Int) (h : HP) : Prop := ∀ q, 0 ≤ rdA h 11 6 q ∧ rdA h 11 6 q ≤ b
theorem ptB_cg {b : Int} {h g : HP} (H : ptB b h) (e : g 11 = h 11) : ptB b g := fun q => by rw [rdA_cg e]; exact H q
theorem ptB_sp {b : Int} {h : HP} {i x : Int} (H : ptB b h) : ptB (b + 1) (spH h i x) := by
  unfold spH
  split
  · intro q
    have bi := H i
    have bq := H q
    have e : rdA (addPartH h 5 i x (rdA h 11 6 i)) 11 6 q = rdA h 11 6 i + 1 ∨ rdA (addPartH h 5 i x (rdA h 11 6 i)) 11 6 q = rdA h 11 6 q := by
      unfold addPartH
      rcases rdA_wr (h := addPartN h 5 x ((i * 10 + rdA h 11 6 i) * 9)) (a := 11) (len := 6) (i := i) (v := rdA h 11 6 i + 1) (q := q) with y | y
      · exact Or.inl y
      · refine Or.inr (y.trans (rdA_cg ?_))
        unfold addPartN
        rw [wrA_cell (by decide), wrA_cell (by decide), wrA_cell (by decide), wrA_cell (by decide), flF_cell (by decide)]
    rcases e with y | y <;> rw [y] <;> omega
  · intro q
    have bq := H q
    omega
theorem wo_11 {h : HP} {i : Int} : woH h i 11 = spH (ptH h 11) i 1 11 := by
  have C : woC h i 11 = woB h i 11 := by unfold woC; rw [rc_cell (by decide) (by decide), tl_cell (by decide), kn_cell (by decide)]
  have D : woD h i 11 = woB h i 11 := by
    unfold woD
    split
    · rw [tl_cell (by decide), kn_cell (by decide), passH_cell (by decide), C]
    · exact C
  unfold woH
  rw [pt_cell (by decide), D]
  rfl
theorem sh_11 {h : HP} {i : Int} : shH h i 11 = spH (ptH h 12) i 2 11 := by
  unfold shH
  rw [pt_cell (by decide)]
  unfold shE
  rw [rc_cell (by decide) (by decide), tl_cell (by decide), num_cell (by decide)]
  unfold shD
  rw [pt_cell (by decide), tl_cell (by decide), kn_cell (by decide)]
  unfold shC
  rw [pt_cell (by decide), wd_cell (by decide) (by decide) (by decide)]
  rfl
theorem ca_11 {h : HP} {i : Int} : caH h i 11 = spH (ptH h 10) i 0 11 := by
  unfold caH
  rw [pt_cell (by decide), rc_cell (by decide) (by decide), wd_cell (by decide) (by decide) (by decide)]
  rfl
theorem ptB_pt {b : Int} {h : HP} {k : Int} (H : ptB b h) : ptB b (ptH h k) := ptB_cg H (pt_cell (by decide))
theorem ptB_wo {b : Int} {h : HP} {i : Int} (H : ptB b h) : ptB (b + 1) (woH h i) := ptB_cg (ptB_sp (ptB_pt H)) wo_11
theorem ptB_sh {b : Int} {h : HP} {i : Int} (H : ptB b h) : ptB (b + 1) (shH h i) := ptB_cg (ptB_sp (ptB_pt H)) sh_11
theorem ptB_ca {b : Int} {h : HP} {i : Int} (H : ptB b h) : ptB (b + 1) (caH h i) := ptB_cg (ptB_sp (ptB_pt H)) ca_11
theorem ca_cell {h : HP} {i : Int} {q : Nat} (h4 : q ≠ 4) (h11 : q ≠ 11) (h12 : q ≠ 12) (h14 : q ≠ 14) : caH h i q = h q := by
  unfold caH
  rw [pt_cell h4, rc_cell h4 h12, wd_cell h4 h12 h14]
  unfold caB
  rw [sp_cell h11 h12, pt_cell h4]
theorem wo_cell {h : HP} {i : Int} {q : Nat} (h4 : q ≠ 4) (h11 : q ≠ 11) (h12 : q ≠ 12) : woH h i q = h q := by
  have B : woB h i q = h q := by unfold woB; rw [sp_cell h11 h12, pt_cell h4]
  have C : woC h i q = h q := by unfold woC; rw [rc_cell h4 h12, tl_cell h12, kn_cell h4, B]
  unfold woH
  rw [pt_cell h4]
  unfold woD
  split
  · rw [tl_cell h12, kn_cell h4, passH_cell h4, C]
  · exact C
theorem sh_cell {h : HP} {i : Int} {q : Nat} (h4 : q ≠ 4) (h11 : q ≠ 11) (h12 : q ≠ 12) (h14 : q ≠ 14) : shH h i q = h q := by
  unfold shH
  rw [pt_cell h4]
  unfold shE
  rw [rc_cell h4 h12, tl_cell h12, num_cell h4]
  unfold shD
  rw [pt_cell h4, tl_cell h12, kn_cell h4]
  unfold shC
  rw [pt_cell h4, wd_cell h4 h12 h14]
  unfold shB
  rw [sp_cell h11 h12, pt_cell h4]
/-! an error stays -/
theorem pass_10 {h : HP} : passH h 4 10 = h 4 10 := passH_10 (by decide) (by decide) (by decide)
theorem num_10 {h : HP} {a b : Int} (e : numH h a b 4 10 = 0) : h 4 10 = 0 := by
  unfold numH at e
  rw [pass_10] at e
  exact (fail_10 (by decide) (fail_10 (by decide) e).1).1
theorem kn_10 {h : HP} {i : Int} (e : knH h i 4 10 = 0) : h 4 10 = 0 := by
  unfold knH at e
  rw [pass_10] at e
  exact (fail_10 (by decide) (fail_10 (by decide) e).1).1
theorem rc_10 {h : HP} {i j : Int} (e : rcH h i j 4 10 = 0) : h 4 10 = 0 := by
  unfold rcH at e
  rw [tl_4] at e
  exact (pt_10 (num_10 e)).1
theorem wd_10 {h : HP} {i j : Int} (e : wdH h i j 4 10 = 0) : h 4 10 = 0 := by
  have eS : ∀ (g : HP) (e : Int), wdS g i j e 4 = g 4 := fun g e => by
    unfold wdS
    split
    · rw [wrA_cell (by decide)]
    · rfl
  unfold wdH wdG at e
  rw [tl_4, tl_4, eS] at e
  have f : wdEH (wdA h i j) 4 10 = 0 := by
    unfold wdFH at e
    split at e
    · split at e
      · have a := num_10 e
        rw [pass_10] at a
        unfold wdPA at a
        have b := num_10 a
        rw [pass_10] at b
        exact b
      · unfold wdPA at e
        have b := num_10 e
        rw [pass_10] at b
        exact b
    · exact e
  have g : wdA h i j 4 10 = 0 := by
    unfold wdEH at f
    split at f
    · have b := num_10 f
      rw [pass_10] at b
      exact b
    · split at f
      · have b := num_10 f
        rw [pass_10] at b
        exact b
      · exact f
  unfold wdA at g
  rw [tl_4] at g
  exact kn_10 g
theorem sp_4 {h : HP} {i x : Int} : spH h i x 4 = h 4 := sp_cell (by decide) (by decide)
theorem ca_10 {h : HP} {i : Int} (e : caH h i 4 10 = 0) : h 4 10 = 0 := by
  have a := wd_10 (rc_10 (pt_10 e).1)
  unfold caB at a
  rw [sp_4] at a
  exact (pt_10 a).1
theorem wo_10 {h : HP} {i : Int} (e : woH h i 4 10 = 0) : h 4 10 = 0 := by
  have a := (pt_10 e).1
  have c : woC h i 4 10 = 0 := by
    unfold woD at a
    split at a
    · rw [tl_4] at a
      have b := kn_10 a
      rw [pass_10] at b
      exact b
    · exact a
  have d := rc_10 c
  rw [tl_4] at d
  have f := kn_10 d
  unfold woB at f
  rw [sp_4] at f
  exact (pt_10 f).1
theorem sh_10 {h : HP} {i : Int} (e : shH h i 4 10 = 0) : h 4 10 = 0 := by
  have a := rc_10 (pt_10 e).1
  rw [tl_4] at a
  have b := (pt_10 (num_10 a)).1
  rw [tl_4] at b
  have c := wd_10 (pt_10 (kn_10 b)).1
  unfold shB at c
  rw [sp_4] at c
  exact (pt_10 c).1
