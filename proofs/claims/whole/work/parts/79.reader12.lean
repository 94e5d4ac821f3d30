/-! ===== Reader: readPiece ===== -/
theorem ptB_nn {b : Int} {h : HP} (H : ptB b h) : ptB b (nnP h 3) := by
  have A : ptB b (nnA h 3) := ptB_cg H (nnA_cell (by decide))
  have b0 := H 0
  have C : ptB b (nnB h 3) := by
    unfold nnB
    split
    · intro q
      have bq := A q
      have e : rdA (addNameH (nnA h 3) 5 3 (tvH h)) 11 6 q = 0 ∨ rdA (addNameH (nnA h 3) 5 3 (tvH h)) 11 6 q = rdA (nnA h 3) 11 6 q := by
        unfold addNameH
        rw [if_pos rfl, if_neg (by decide)]
        rcases rdA_wr (h := addNameN (nnA h 3) 5 3 (tvH h) (rdA (nnA h 3) (5 + 2) 4 3)) (a := 11) (len := 6) (i := rdA (nnA h 3) (5 + 2) 4 3) (v := 0) (q := q) with y | y
        · exact Or.inl y
        · refine Or.inr (y.trans (rdA_cg ?_))
          unfold addNameN
          rw [wrA_cell (by decide), wrA_cell (by decide)]
      rcases e with y | y <;> rw [y] <;> omega
    · exact A
  exact ptB_cg C (by unfold nnP; rw [passH_cell (by decide)])
def piA (h : HP) : HP := ptH (failH h (if 6 ≤ rdA h 7 4 3 then 1 else 0) 5) 9
def piI (h : HP) : Int := if nnA (piA h) 3 4 10 = 0 then rdA (piA h) 7 4 3 else -1
def piB (h : HP) : HP := ptH (nnP (piA h) 3) 3
def piF (k : Int) (g : HP) : HP := failH g (if 10 ≤ k then 1 else 0) 5
def piS (i k : Int) (g : HP) : HP := if piF k g 4 9 = 11 then woH (piF k g) i else shH (piF k g) i
def piL (i : Int) : Nat → Int → HP → HP
  | 0, _, g => g
  | m + 1, k, g => if g 4 9 = 11 ∨ g 4 9 = 12 then piL i m (k + 1) (piS i k g) else g
def piH (h : HP) : HP := ptH (ptH (piL (piI h) 10 1 (caH (piB h) (piI h))) 13) 3
theorem piS_cell {i k : Int} {g : HP} {q : Nat} (h4 : q ≠ 4) (h11 : q ≠ 11) (h12 : q ≠ 12) (h14 : q ≠ 14) : piS i k g q = g q := by
  have e : piF k g q = g q := by unfold piF; rw [failH_cell h4]
  unfold piS
  split
  · rw [wo_cell h4 h11 h12, e]
  · rw [sh_cell h4 h11 h12 h14, e]
theorem piF_10 {k : Int} {g : HP} (e : piF k g 4 10 = 0) : g 4 10 = 0 := (fail_10 (by decide) e).1
theorem piS_10 {i k : Int} {g : HP} (e : piS i k g 4 10 = 0) : g 4 10 = 0 := by
  unfold piS at e
  split at e
  · exact piF_10 (wo_10 e)
  · exact piF_10 (sh_10 e)
theorem RT_piS {T : Nat} {i k : Int} {g : HP} (H : RT T g) : RT T (piS i k g) := by
  have F : RT T (piF k g) := RT_fail H (by decide)
  unfold piS
  split
  · exact RT_wo F
  · exact RT_sh F
theorem ptB_piS {b i k : Int} {g : HP} (H : ptB b g) : ptB (b + 1) (piS i k g) := by
  have F : ptB b (piF k g) := ptB_cg H (by unfold piF; rw [failH_cell (by decide)])
  unfold piS
  split
  · exact ptB_wo F
  · exact ptB_sh F
theorem RT_piL {T : Nat} {i : Int} : ∀ (m : Nat) (k : Int) (g : HP), RT T g → RT T (piL i m k g)
  | 0, _, _, H => H
  | m + 1, k, g, H => by
    unfold piL
    split
    · exact RT_piL m (k + 1) _ (RT_piS H)
    · exact H
theorem RT_piB {T : Nat} {h : HP} (H : RT T h) : RT T (piB h) := RT_pt (RT_nn (RT_pt (RT_fail H (by decide)) (by decide))) (by decide)
theorem RT_pi {T : Nat} {h : HP} (H : RT T h) : RT T (piH h) := RT_pt (RT_pt (RT_piL _ _ _ (RT_ca (RT_piB H))) (by decide)) (by decide)
theorem piI_bd {h : HP} (hn : 0 ≤ rdA h 7 4 3 ∧ rdA h 7 4 3 ≤ 900) : (-1 ≤ piI h ∧ piI h ≤ 900) ∧ (piB h 4 10 = 0 → 0 ≤ piI h ∧ piI h ≤ 5) := by
  have cA : rdA (piA h) 7 4 3 = rdA h 7 4 3 := rdA_cg (by unfold piA; rw [pt_cell (by decide), failH_cell (by decide)])
  refine ⟨by unfold piI; rw [cA]; split <;> omega, fun e => ?_⟩
  have e := (pt_10 e).1
  unfold nnP at e
  rw [pass_10] at e
  have e4 : nnB (piA h) 3 4 = nnA (piA h) 3 4 := by
    unfold nnB
    split
    · exact addNameH_4
    · rfl
  rw [e4] at e
  unfold piI
  rw [if_pos e, cA]
  unfold nnA at e
  have f := (fail_10 (by decide) e).2
  have c2 : capI 3 = 6 := rfl
  rw [cA, c2] at f
  by_cases y : 6 ≤ rdA h 7 4 3
  · rw [if_pos y] at f
    exact absurd f (by decide)
  · omega
section READER12
variable {N : List CT} {h : HP} {T : Nat}
theorem readPiece_ok (H : RT T h) (hT : T ≤ 1500) (hn : ∀ q, 0 ≤ rdA h 7 4 q ∧ rdA h 7 4 q ≤ 900) (hp : ptB 50 h) : Ok 87 [vR 4] (LC N) h (rt none (LC N) (piH h)) := by
  have A : RT T (piA h) := RT_pt (RT_fail H (by decide)) (by decide)
  have B1 : RT T (nnP (piA h) 3) := RT_nn A
  have B : RT T (piB h) := RT_piB H
  have cA : ∀ q, rdA (piA h) 7 4 q = rdA h 7 4 q := fun q => rdA_cg (by unfold piA; rw [pt_cell (by decide), failH_cell (by decide)])
  have cB : ∀ q, 0 ≤ rdA (piB h) 7 4 q ∧ rdA (piB h) 7 4 q ≤ 901 := fun q => by
    have e : rdA (piB h) 7 4 q = rdA (nnP (piA h) 3) 7 4 q := rdA_cg (by unfold piB; rw [pt_cell (by decide)])
    have n := nn_cnt (h := piA h) (i := 3) (j := q) ⟨by decide, by decide⟩
    rw [cA q] at n
    have := hn q
    rw [e]
    omega
  have pB : ptB 50 (piB h) := ptB_pt (ptB_nn (ptB_cg hp (by unfold piA; rw [pt_cell (by decide), failH_cell (by decide)])))
  have ib := piI_bd (hn 3)
  refine ok_body B_X4_readPiece rfl (fun X hX => ?_)
  have at105 : ∀ (g : HP) (k : Int), piH h = ptH (ptH g 13) 3 → RT T g → X 105 [vR 4, vI (piI h), vI k] [] (LC N) g 0 0 := by
    intro g k hv G
    have G2 : RT T (ptH g 13) := RT_pt G (by decide)
    refine hX 40 [] 105 _ _ _ _ _ _ ?_
    refine Ok_rt (pt_ok ⟨G.1.1.1, by have := G.1.1.2; omega⟩) ?_
    refine Ok_rt (pt_ok ⟨G2.1.1.1, by have := G2.1.1.2; omega⟩) ?_
    exact rt_mk rfl hv.symm
  have loop : ∀ (m : Nat) (k : Int) (g : HP), k + (m : Int) = 11 → 1 ≤ k → piH h = ptH (ptH (piL (piI h) m k g) 13) 3 → RT T g → (g 4 10 = 0 → 0 ≤ piI h ∧ piI h ≤ 5) → ptB (50 + k) g → g 7 = piB h 7 → X 37 [vR 4, vI (piI h), vI k] [] (LC N) g 0 0 := by
    intro m
    induction m with
    | zero =>
      intro k g hk k1 hv G gi gp g7
      refine hX 40 [105] 37 _ _ _ _ _ _ ?_
      refine And.intro (fun _ => ?_) (fun c => absurd c (by omega))
      exact at105 g k hv G
    | succ m ih =>
      intro k g hk k1 hv G gi gp g7
      have st : piL (piI h) (m + 1) k g = if g 4 9 = 11 ∨ g 4 9 = 12 then piL (piI h) m (k + 1) (piS (piI h) k g) else g := rfl
      rw [st] at hv
      have F : RT T (piF k g) := RT_fail G (by decide)
      have f7 : ∀ q, rdA (piF k g) 7 4 q ≤ 1000 := fun q => by
        have e : rdA (piF k g) 7 4 q = rdA (piB h) 7 4 q := rdA_cg (by unfold piF; rw [failH_cell (by decide), g7])
        have := cB q
        omega
      have fP : ptB (50 + k) (piF k g) := ptB_cg gp (by unfold piF; rw [failH_cell (by decide)])
      have fR : ptRm (piF k g) (piI h) := ⟨⟨by omega, by omega⟩, fun z => ⟨by have := gi (piF_10 z); omega, by have := fP (piI h); omega⟩⟩
      refine hX 40 [61, 105] 37 _ _ _ _ _ _ ?_
      refine And.intro (fun c => absurd c (by omega)) (fun _ => ?_)
      have go : (g 4 9 = 11 ∨ g 4 9 = 12) → X 61 [vR 4, vI (piI h), vI k] [] (LC N) g 0 0 := by
        intro z
        rw [if_pos z] at hv
        have at99 : ∀ g', g' = piS (piI h) k g → X 99 [vR 4, vI (piI h), vI k] [] (LC N) g' 0 0 := by
          intro g' eg
          refine hX 40 [37] 99 _ _ _ _ _ _ ?_
          refine And.intro ⟨by omega, by omega⟩ ?_
          rw [← eg] at hv
          refine ih (k + 1) g' (by omega) (by omega) hv (by rw [eg]; exact RT_piS G) (fun z => gi (by rw [eg] at z; exact piS_10 z)) ?_ (by rw [eg, piS_cell (by decide) (by decide) (by decide) (by decide)]; exact g7)
          rw [eg, show 50 + (k + 1) = 50 + k + 1 by omega]
          exact ptB_piS gp
        have at73 : ∀ y, y = (if 10 ≤ k then (1 : Int) else 0) → X 73 [vR 4, vI (piI h), vI k] [vI y, vR 4] (LC N) g 0 0 := by
          intro y hy
          refine hX 40 [99] 73 _ _ _ _ _ _ ?_
          refine Ok_rt failIf_ok ?_
          rw [hy]
          refine And.intro (fun c => ?_) (fun c => ?_)
          · have c : piF k g 4 9 ≠ 11 := c
            refine Ok_rt (readShape_ok (h := piF k g) ⟨F.1.1.1, by have := F.1.1.2; omega⟩ (f7 1) F.2.2.2.2.1 fR) ?_
            exact at99 _ (by unfold piS; rw [if_neg c])
          · have c : piF k g 4 9 = 11 := c
            refine Ok_rt (readWork_ok (h := piF k g) ⟨F.1.1.1, by have := F.1.1.2; omega⟩ (f7 1) (f7 2) fR) ?_
            exact at99 _ (by unfold piS; rw [if_pos c])
        refine hX 40 [73] 61 _ _ _ _ _ _ ?_
        refine And.intro (fun c => ?_) (fun c => ?_)
        · have c : k < 10 := c
          exact at73 _ (by rw [if_neg (by omega)])
        · have c : 10 ≤ k := c
          exact at73 _ (by rw [if_pos c])
      refine And.intro (fun c => ?_) (fun c => ?_)
      · have c : g 4 9 = 11 := c
        exact go (Or.inl c)
      · have c : g 4 9 ≠ 11 := c
        refine And.intro (fun d => ?_) (fun d => ?_)
        · have d : g 4 9 ≠ 12 := d
          rw [if_neg (fun z => by omega)] at hv
          exact at105 g k hv G
        · have d : g 4 9 = 12 := d
          exact go (Or.inr d)
  have ca7 : caH (piB h) (piI h) 7 = piB h 7 := ca_cell (by decide) (by decide) (by decide) (by decide)
  refine hX 40 [24] 0 _ _ _ _ _ _ ?_
  refine Ok_rt (isFull_ok (p := 5) (b := 6) (Or.inl rfl) (Or.inr (Or.inr (Or.inr ⟨rfl, rfl⟩)))) ?_
  refine Ok_rt failIf_ok ?_
  refine Ok_rt (pt_ok (h := failH h (if 6 ≤ rdA h 7 4 3 then 1 else 0) 5) (by rw [fail_7]; exact ⟨H.1.1.1, by have := H.1.1.2; omega⟩)) ?_
  refine Ok_rt (nn_ok (h := piA h) ⟨by decide, by decide⟩ (by rw [cA]; have := hn 3; exact ⟨this.1, by omega⟩) ⟨A.1.1.1, by have := A.1.1.2; omega⟩) ?_
  show X 24 _ [vI (piI h)] _ (nnP (piA h) 3) _ _
  refine hX 40 [25] 24 _ _ _ _ _ _ ?_
  show X 25 [_, vI (piI h), _] _ _ _ _ _
  refine hX 40 [36, 37] 25 _ _ _ _ _ _ ?_
  refine Ok_rt (pt_ok ⟨B1.1.1.1, by have := B1.1.1.2; omega⟩) ?_
  refine Ok_rt (readCast_ok (h := piB h) ⟨B.1.1.1, by have := B.1.1.2; omega⟩ (by have := cB 1; omega) B.2.2.2.2.1 ⟨⟨by omega, by omega⟩, fun z => ⟨by have := ib.2 z; omega, by have := pB (piI h); omega⟩⟩) ?_
  show X 36 _ [vI 1] _ _ _ _
  refine hX 40 [37] 36 _ _ _ _ _ _ ?_
  show X 37 [_, _, vI 1] _ _ _ _ _
  exact loop 10 1 _ (by omega) (by omega) rfl (RT_ca B) (fun z => ib.2 (ca_10 z)) (ptB_ca pB) ca7
end READER12
