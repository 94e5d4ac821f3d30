/-! ===== load, of both ===== -/
def ldA (h : HP) : HP := up (up (up (rtE h) 2 1 0) 1 13 (rtE h 4 10)) 1 14 (rtE h 4 11)
def ldH (h : HP) : HP := up (up (cpA (copyPH (ldA h)) 14 132 0 28 132 0 132) 1 10 0) 1 12 0
theorem rd_cpA {h : HP} {a b len : Nat} (n : (len : Int) = ((len : Nat) : Int)) (q : Int) : rd (cpA h a len 0 b len 0 (len : Int) b) len q = rd (h a) len q := by
  have e := rdA_cpA (h := h) (a := a) (la := len) (b := b) (lb := len) (i := 0) (j := 0) (n := (len : Int)) (q := q)
  have e2 : rd (cpA h a len 0 b len 0 (len : Int) b) len q = rdA (cpA h a len 0 b len 0 (len : Int)) b len q := rfl
  rw [e2, e]
  by_cases z : 0 ≤ q ∧ q < (len : Int)
  · rw [if_pos ⟨z.1, by omega, z.1, z.2⟩, show 0 + (q - 0) = q by omega]
    rfl
  · rw [if_neg (fun u => z ⟨u.1, u.2.2.2⟩), rdA_out (by omega)]
    unfold rd
    rw [if_neg z]
/-- the class's pattern behind copyFrom -/
theorem copy_cells {h : HP} : (∀ c, (c < 20 ∨ 26 < c) → copyPH h c = h c) ∧ (∀ q, rd (copyPH h 20) 32 q = rd (h 6) 32 q) ∧ (∀ q, rd (copyPH h 21) 4 q = rd (h 7) 4 q) ∧ (∀ q, rd (copyPH h 22) 4 q = rd (h 8) 4 q) ∧ (∀ q, rd (copyPH h 23) 32 q = rd (h 9) 32 q) ∧
    (∀ q, rd (copyPH h 24) 32 q = rd (h 10) 32 q) ∧ (∀ q, rd (copyPH h 25) 6 q = rd (h 11) 6 q) ∧ ∀ q, rd (copyPH h 26) 540 q = rd (h 12) 540 q := by
  unfold copyPH
  refine ⟨fun c hc => ?_, fun q => ?_, fun q => ?_, fun q => ?_, fun q => ?_, fun q => ?_, fun q => ?_, fun q => ?_⟩
  · rw [cpA_cell (by omega), cpA_cell (by omega), cpA_cell (by omega), cpA_cell (by omega), cpA_cell (by omega), cpA_cell (by omega), cpF_cell (by omega)]
  · rw [cpA_cell (by decide), cpA_cell (by decide), cpA_cell (by decide), cpA_cell (by decide), cpA_cell (by decide), cpA_cell (by decide)]
    have e : rd (cpF 6 32 20 32 32 0 h 20) 32 q = rdA (cpF 6 32 20 32 32 0 h) 20 32 q := rfl
    rw [e, rdA_cpF (by decide) 32 0 q h (by decide)]
    by_cases z : 0 ≤ q ∧ q < ((32 : Nat) : Int)
    · rw [if_pos ⟨z.1, by omega, z.2⟩]
      rfl
    · rw [if_neg (fun u => z ⟨u.1, u.2.2⟩), rdA_out (by omega)]
      unfold rd
      rw [if_neg z]
  · rw [cpA_cell (by decide), cpA_cell (by decide), cpA_cell (by decide), cpA_cell (by decide), cpA_cell (by decide)]
    refine (rd_cpA (h := cpF 6 32 20 32 32 0 h) (a := 7) (b := 21) (len := 4) rfl q).trans ?_
    rw [cpF_cell (by decide)]
  · rw [cpA_cell (by decide), cpA_cell (by decide), cpA_cell (by decide), cpA_cell (by decide)]
    refine (rd_cpA (h := cpA (cpF 6 32 20 32 32 0 h) 7 4 0 21 4 0 4) (a := 8) (b := 22) (len := 4) rfl q).trans ?_
    rw [cpA_cell (by decide), cpF_cell (by decide)]
  · rw [cpA_cell (by decide), cpA_cell (by decide), cpA_cell (by decide)]
    refine (rd_cpA (h := cpA (cpA (cpF 6 32 20 32 32 0 h) 7 4 0 21 4 0 4) 8 4 0 22 4 0 4) (a := 9) (b := 23) (len := 32) rfl q).trans ?_
    rw [cpA_cell (by decide), cpA_cell (by decide), cpF_cell (by decide)]
  · rw [cpA_cell (by decide), cpA_cell (by decide)]
    refine (rd_cpA (h := cpA (cpA (cpA (cpF 6 32 20 32 32 0 h) 7 4 0 21 4 0 4) 8 4 0 22 4 0 4) 9 32 0 23 32 0 32) (a := 10) (b := 24) (len := 32) rfl q).trans ?_
    rw [cpA_cell (by decide), cpA_cell (by decide), cpA_cell (by decide), cpF_cell (by decide)]
  · rw [cpA_cell (by decide)]
    refine (rd_cpA (h := cpA (cpA (cpA (cpA (cpF 6 32 20 32 32 0 h) 7 4 0 21 4 0 4) 8 4 0 22 4 0 4) 9 32 0 23 32 0 32) 10 32 0 24 32 0 32) (a := 11) (b := 25) (len := 6) rfl q).trans ?_
    rw [cpA_cell (by decide), cpA_cell (by decide), cpA_cell (by decide), cpA_cell (by decide), cpF_cell (by decide)]
  · refine (rd_cpA (h := cpA (cpA (cpA (cpA (cpA (cpF 6 32 20 32 32 0 h) 7 4 0 21 4 0 4) 8 4 0 22 4 0 4) 9 32 0 23 32 0 32) 10 32 0 24 32 0 32) 11 6 0 25 6 0 6) (a := 12) (b := 26) (len := 540) rfl q).trans ?_
    rw [cpA_cell (by decide), cpA_cell (by decide), cpA_cell (by decide), cpA_cell (by decide), cpA_cell (by decide), cpF_cell (by decide)]
theorem ldA_cell {h : HP} {c : Nat} (h1 : c ≠ 1) (h2 : c ≠ 2) : ldA h c = rtE h c := by unfold ldA; rw [up_cell h1, up_cell h1, up_cell h2]
theorem ldH_cell {h : HP} {c : Nat} (h1 : c ≠ 1) (h2 : c ≠ 2) (hc : c < 20 ∨ 26 < c) (h28 : c ≠ 28) : ldH h c = rtE h c := by
  unfold ldH
  rw [up_cell h1, up_cell h1, cpA_cell h28, copy_cells.1 c hc, ldA_cell h1 h2]
/-- the cells that are copied -/
theorem ldH_cells {h : HP} : (∀ q, rd (ldH h 20) 32 q = rd (rtE h 6) 32 q) ∧ (∀ q, rd (ldH h 21) 4 q = rd (rtE h 7) 4 q) ∧ (∀ q, rd (ldH h 22) 4 q = rd (rtE h 8) 4 q) ∧ (∀ q, rd (ldH h 23) 32 q = rd (rtE h 9) 32 q) ∧
    (∀ q, rd (ldH h 24) 32 q = rd (rtE h 10) 32 q) ∧ (∀ q, rd (ldH h 25) 6 q = rd (rtE h 11) 6 q) ∧ (∀ q, rd (ldH h 26) 540 q = rd (rtE h 12) 540 q) ∧ ∀ q, rd (ldH h 28) 132 q = rd (rtE h 14) 132 q := by
  obtain ⟨c0, c20, c21, c22, c23, c24, c25, c26⟩ := copy_cells (h := ldA h)
  have a : ∀ c, c ≠ 1 → c ≠ 28 → ldH h c = copyPH (ldA h) c := fun c h1 h28 => by unfold ldH; rw [up_cell h1, up_cell h1, cpA_cell h28]
  refine ⟨fun q => ?_, fun q => ?_, fun q => ?_, fun q => ?_, fun q => ?_, fun q => ?_, fun q => ?_, fun q => ?_⟩
  · rw [a 20 (by decide) (by decide), c20, ldA_cell (by decide) (by decide)]
  · rw [a 21 (by decide) (by decide), c21, ldA_cell (by decide) (by decide)]
  · rw [a 22 (by decide) (by decide), c22, ldA_cell (by decide) (by decide)]
  · rw [a 23 (by decide) (by decide), c23, ldA_cell (by decide) (by decide)]
  · rw [a 24 (by decide) (by decide), c24, ldA_cell (by decide) (by decide)]
  · rw [a 25 (by decide) (by decide), c25, ldA_cell (by decide) (by decide)]
  · rw [a 26 (by decide) (by decide), c26, ldA_cell (by decide) (by decide)]
  · have e := rd_cpA (h := copyPH (ldA h)) (a := 14) (b := 28) (len := 132) rfl q
    have e2 : ldH h 28 = cpA (copyPH (ldA h)) 14 132 0 28 132 0 132 28 := by unfold ldH; rw [up_cell (by decide), up_cell (by decide)]
    rw [e2]
    rw [c0 14 (by decide), ldA_cell (by decide) (by decide)] at e
    exact e
section KLOAD
variable {N : List CT} {h : HP}
theorem K_load (h2 : 0 ≤ h 2 1 ∧ h 2 1 ≤ 1500) (H : TKI h) (hr : rwB 80 h) (hp : ptB 50 h) (z : rtE h 4 10 = 0) : Ok 128 [vR 1] (LC N) h (rt (some (vI (rd (rtE h 7) 4 3))) (LC N) (ldH h)) := by
  refine ok_body B_X8_load rfl (fun X hX => ?_)
  have go : X 50 [vR 1, vI 1] [] (LC N) (ldA h) 0 0 := by
    refine hX 60 [] 50 _ _ _ _ _ _ ?_
    refine Ok_rt copyFrom_ok ?_
    refine Ok_rt stCopy_ok ?_
    refine Ok_rt (total_ok (p := 19) (Or.inr rfl)) ?_
    have e : rdA (ldH h) (19 + 2) 4 3 = rd (rtE h 7) 4 3 := ldH_cells.2.1 3
    exact rt_mk (by rw [← e]; rfl) rfl
  refine hX 60 [8] 0 _ _ _ _ _ _ ?_
  refine Ok_rt (readText_ok h2 H hr hp) ?_
  rw [if_pos z]
  show X 8 [_, vI 1] _ _ _ _ _
  refine hX 60 [38] 8 _ _ _ _ _ _ ?_
  refine Ok_rt shorten_ok ?_
  have go2 : X 38 [vR 1, vI 1] [] (LC N) (ldA h) 0 0 := by
    refine hX 60 [50] 38 _ _ _ _ _ _ ?_
    exact And.intro (fun _ => go) (fun y => absurd y (by decide))
  have a : up (rtE h) 2 1 0 4 = rtE h 4 := up_cell (by decide)
  have b : up (up (rtE h) 2 1 0) 1 13 (rtE h 4 10) 4 = rtE h 4 := by rw [up_cell (by decide), up_cell (by decide)]
  have eL : up (up (up (rtE h) 2 1 0) 1 13 (up (rtE h) 2 1 0 4 10)) 1 14 (up (up (rtE h) 2 1 0) 1 13 (up (rtE h) 2 1 0 4 10) 4 11) = ldA h := by
    unfold ldA
    rw [a, b]
  rw [← eL] at go2
  exact go2
theorem K_load_x (h2 : 0 ≤ h 2 1 ∧ h 2 1 ≤ 1500) (H : TKI h) (hr : rwB 80 h) (hp : ptB 50 h) (z : rtE h 4 10 ≠ 0) : Ok 128 [vR 1] (LC N) h (ex 3 (LC N) (ldA h)) := by
  refine ok_body B_X8_load rfl (fun X hX => ?_)
  refine hX 60 [8] 0 _ _ _ _ _ _ ?_
  refine Ok_rt (readText_ok h2 H hr hp) ?_
  rw [if_neg z]
  show X 8 [_, vI 0] _ _ _ _ _
  refine hX 60 [38] 8 _ _ _ _ _ _ ?_
  refine Ok_rt shorten_ok ?_
  have go2 : X 38 [vR 1, vI 0] [] (LC N) (ldA h) 0 0 := by
    refine hX 60 [] 38 _ _ _ _ _ _ ?_
    refine And.intro (fun y => absurd rfl y) (fun _ => ?_)
    exact ⟨rfl, rfl, rfl⟩
  have a : up (rtE h) 2 1 0 4 = rtE h 4 := up_cell (by decide)
  have b : up (up (rtE h) 2 1 0) 1 13 (rtE h 4 10) 4 = rtE h 4 := by rw [up_cell (by decide), up_cell (by decide)]
  have eL : up (up (up (rtE h) 2 1 0) 1 13 (up (rtE h) 2 1 0 4 10)) 1 14 (up (up (rtE h) 2 1 0) 1 13 (up (rtE h) 2 1 0 4 10) 4 11) = ldA h := by
    unfold ldA
    rw [a, b]
  rw [← eL] at go2
  exact go2
end KLOAD
