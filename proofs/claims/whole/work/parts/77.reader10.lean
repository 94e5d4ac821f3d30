/-! ===== Reader: a chart ===== -/
theorem rdA_wr {h : HP} {a len : Nat} {i v q : Int} : rdA (wrA h a len i v) a len q = v ∨ rdA (wrA h a len i v) a len q = rdA h a len q := by
  unfold wrA
  by_cases z : 0 ≤ i ∧ i < (len : Int)
  · rw [if_pos z]
    unfold rdA
    by_cases y : 0 ≤ q ∧ q < (len : Int)
    · rw [if_pos y, if_pos y]
      by_cases w : q.toNat = i.toNat
      · left; rw [w, up_same]
      · right; rw [up_ne w]
    · right; rw [if_neg y, if_neg y]
  · rw [if_neg z]
    right
    rfl
theorem rdA_cg {h g : HP} {a len : Nat} {q : Int} (e : g a = h a) : rdA g a len q = rdA h a len q := by unfold rdA; rw [e]
/-- each chart has so many rows at most -/
def rwB (b : Int) (h : HP) : Prop := ∀ q, 0 ≤ rdA h 8 4 q ∧ rdA h 8 4 q ≤ b
theorem rwB_cg {b : Int} {h g : HP} (H : rwB b h) (e : g 8 = h 8) : rwB b g := fun q => by rw [rdA_cg e]; exact H q
theorem rwB_cr {b : Int} {h : HP} {i k : Int} (H : rwB b h) : rwB (b + 1) (crH h i k) := by
  have B : rwB b (crB h i k) := rwB_cg H (by unfold crB crA; rw [failH_cell (by decide), failH_cell (by decide), failH_cell (by decide)])
  have C : rwB (b + 1) (crC h i k) := by
    unfold crC
    split
    · intro q
      have bi := B i
      have bq := B q
      have e : rdA (addRowH (crB h i k) 5 i (crT h k) (crM h k)) 8 4 q = rdA (crB h i k) 8 4 i + 1 ∨ rdA (addRowH (crB h i k) 5 i (crT h k) (crM h k)) 8 4 q = rdA (crB h i k) 8 4 q := by
        unfold addRowH
        rcases rdA_wr (h := wrA (wrA (crB h i k) (5 + 4) 32 (i * 8 + rdA (crB h i k) (5 + 3) 4 i) (crT h k)) (5 + 5) 32 (i * 8 + rdA (crB h i k) (5 + 3) 4 i) (crM h k)) (a := 8) (len := 4) (i := i) (v := rdA (crB h i k) (5 + 3) 4 i + 1) (q := q) with y | y
        · exact Or.inl y
        · refine Or.inr (y.trans (rdA_cg ?_))
          rw [wrA_cell (by decide), wrA_cell (by decide)]
      rcases e with y | y <;> rw [y] <;> omega
    · intro q
      have bq := B q
      omega
  exact rwB_cg C (by unfold crH; rw [passH_cell (by decide)])
theorem rwB_nn {b : Int} {h : HP} (H : rwB b h) : rwB b (nnP h 2) := by
  have A : rwB b (nnA h 2) := rwB_cg H (nnA_cell (by decide))
  have b0 := H 0
  have C : rwB b (nnB h 2) := by
    unfold nnB
    split
    · intro q
      have bq := A q
      have e : rdA (addNameH (nnA h 2) 5 2 (tvH h)) 8 4 q = 0 ∨ rdA (addNameH (nnA h 2) 5 2 (tvH h)) 8 4 q = rdA (nnA h 2) 8 4 q := by
        unfold addNameH
        rw [if_neg (by decide), if_pos rfl]
        rcases rdA_wr (h := addNameN (nnA h 2) 5 2 (tvH h) (rdA (nnA h 2) (5 + 2) 4 2)) (a := 8) (len := 4) (i := rdA (nnA h 2) (5 + 2) 4 2) (v := 0) (q := q) with y | y
        · exact Or.inl y
        · refine Or.inr (y.trans (rdA_cg ?_))
          unfold addNameN
          rw [wrA_cell (by decide), wrA_cell (by decide)]
      rcases e with y | y <;> rw [y] <;> omega
    · exact A
  exact rwB_cg C (by unfold nnP; rw [passH_cell (by decide)])
theorem cr_10 {h : HP} {i k : Int} (e : crH h i k 4 10 = 0) : h 4 10 = 0 := by
  unfold crH at e
  rw [passH_10 (by decide) (by decide) (by decide)] at e
  have e4 : crC h i k 4 = crB h i k 4 := by
    unfold crC
    split
    · exact addRow_cell (by decide) (by decide) (by decide)
    · rfl
  rw [e4] at e
  have f1 := fail_10 (h := crA h k) (c := 6) (by decide) e
  have f2 := fail_10 (h := failH h (if icV h = 0 then 1 else 0) 1) (c := 5) (by decide) f1.1
  exact (fail_10 (h := h) (c := 1) (by decide) f2.1).1
def chA (h : HP) : HP := ptH (failH h (if 4 ≤ rdA h 7 4 2 then 1 else 0) 5) 20
def chI (h : HP) : Int := if nnA (chA h) 2 4 10 = 0 then rdA (chA h) 7 4 2 else -1
def chB (h : HP) : HP := nnP (chA h) 2
def chL (i : Int) : Nat → Int → HP → HP
  | 0, _, g => g
  | m + 1, k, g => if 4 ≤ g 4 9 then chL i m (k + 1) (crH g i k) else g
def chC (h : HP) : HP := chL (chI h) 8 1 (crH (chB h) (chI h) 0)
def clB (g : HP) (i : Int) : Int := if g 4 9 = 3 ∧ rdA g 10 32 (i * 8 + (rdA g 8 4 i - 1)) ≠ rdA g 9 32 (i * 8 + 0) then 1 else 0
def chH (h : HP) : HP := ptH (failH (chC h) (clB (chC h) (chI h)) 6) 3
theorem RT_chL {T : Nat} {i : Int} : ∀ (m : Nat) (k : Int) (g : HP), RT T g → RT T (chL i m k g)
  | 0, _, _, H => H
  | m + 1, k, g, H => by
    unfold chL
    split
    · exact RT_chL m (k + 1) _ (RT_cr H)
    · exact H
theorem RT_ch {T : Nat} {h : HP} (H : RT T h) : RT T (chH h) := by
  have A : RT T (chA h) := RT_pt (RT_fail H (by decide)) (by decide)
  have B : RT T (chB h) := RT_nn A
  exact RT_pt (RT_fail (RT_chL _ _ _ (RT_cr B)) (by decide)) (by decide)
/-- a chart that is named without error is one of four -/
theorem chI_bd {h : HP} (hn : 0 ≤ rdA h 7 4 2 ∧ rdA h 7 4 2 ≤ 900) : (-1 ≤ chI h ∧ chI h ≤ 900) ∧ (chB h 4 10 = 0 → 0 ≤ chI h ∧ chI h ≤ 3) := by
  have cA : rdA (chA h) 7 4 2 = rdA h 7 4 2 := rdA_cg (by unfold chA; rw [pt_cell (by decide), failH_cell (by decide)])
  refine ⟨by unfold chI; rw [cA]; split <;> omega, fun e => ?_⟩
  unfold chB nnP at e
  rw [passH_10 (by decide) (by decide) (by decide)] at e
  have e4 : nnB (chA h) 2 4 = nnA (chA h) 2 4 := by
    unfold nnB
    split
    · exact addNameH_4
    · rfl
  rw [e4] at e
  unfold chI
  rw [if_pos e, cA]
  unfold nnA at e
  have f := (fail_10 (by decide) e).2
  have c2 : capI 2 = 4 := rfl
  rw [cA, c2] at f
  by_cases y : 4 ≤ rdA h 7 4 2
  · rw [if_pos y] at f
    exact absurd f (by decide)
  · omega
section READER10
variable {N : List CT} {h : HP} {T : Nat}
theorem readChart_ok (H : RT T h) (hT : T ≤ 1500) (hn : 0 ≤ rdA h 7 4 2 ∧ rdA h 7 4 2 ≤ 900) (hr : rwB 80 h) : Ok 82 [vR 4] (LC N) h (rt none (LC N) (chH h)) := by
  have A : RT T (chA h) := RT_pt (RT_fail H (by decide)) (by decide)
  have B : RT T (chB h) := RT_nn A
  have cA : rdA (chA h) 7 4 2 = rdA h 7 4 2 := rdA_cg (by unfold chA; rw [pt_cell (by decide), failH_cell (by decide)])
  have rB : rwB 80 (chB h) := rwB_nn (rwB_cg hr (by unfold chA; rw [pt_cell (by decide), failH_cell (by decide)]))
  have ib := chI_bd hn
  refine ok_body B_X4_readChart rfl (fun X hX => ?_)
  have at84 : ∀ (g : HP) (k y : Int), g = chC h → RT T g → y = clB g (chI h) → X 84 [vR 4, vI (chI h), vI k] [vI y, vR 4] (LC N) g 0 0 := by
    intro g k y eg G hy
    have F := RT_fail (x := y) (c := 6) G (by decide)
    refine hX 40 [] 84 _ _ _ _ _ _ ?_
    refine Ok_rt failIf_ok ?_
    refine Ok_rt (pt_ok ⟨F.1.1.1, by have := F.1.1.2; omega⟩) ?_
    exact rt_mk rfl (by rw [hy, eg]; rfl)
  have at59 : ∀ (g : HP) (k : Int), g = chC h → RT T g → (g 4 10 = 0 → 0 ≤ chI h ∧ chI h ≤ 3) → rwB 100 g → X 59 [vR 4, vI (chI h), vI k] [] (LC N) g 0 0 := by
    intro g k eg G gi gr
    refine hX 40 [84] 59 _ _ _ _ _ _ ?_
    refine And.intro (fun c => ?_) (fun c => ?_)
    · have c : g 4 9 ≠ 3 := c
      exact at84 g k _ eg G (by unfold clB; rw [if_neg (fun z => c z.1)])
    · have c : g 4 9 = 3 := c
      have e0 : g 4 10 = 0 := by
        by_cases z : g 4 10 = 0
        · exact z
        · have := G.2.2.2.2.2 z
          omega
      refine Ok_rt (isClosed_ok (p := 5) (Or.inl rfl) (gi e0) (gr (chI h))) ?_
      by_cases z : rdA g (5 + 5) 32 (chI h * 8 + (rdA g (5 + 3) 4 (chI h) - 1)) = rdA g (5 + 4) 32 (chI h * 8 + 0)
      · rw [if_pos z]
        refine And.intro (fun _ => ?_) (fun d => absurd d (by decide))
        exact at84 g k _ eg G (by unfold clB; rw [if_neg (fun y => y.2 z)])
      · rw [if_neg z]
        refine And.intro (fun d => absurd rfl d) (fun _ => ?_)
        exact at84 g k _ eg G (by unfold clB; rw [if_pos ⟨c, z⟩])
  have loop : ∀ (m : Nat) (k : Int) (g : HP), k + (m : Int) = 9 → 1 ≤ k → chC h = chL (chI h) m k g → RT T g → (g 4 10 = 0 → 0 ≤ chI h ∧ chI h ≤ 3) → rwB (80 + k) g → X 33 [vR 4, vI (chI h), vI k] [] (LC N) g 0 0 := by
    intro m
    induction m with
    | zero =>
      intro k g hk k1 hv G gi gr
      refine hX 40 [59] 33 _ _ _ _ _ _ ?_
      refine And.intro (fun _ => ?_) (fun c => absurd c (by omega))
      exact at59 g k hv.symm G gi (fun q => by have := gr q; omega)
    | succ m ih =>
      intro k g hk k1 hv G gi gr
      have st : chL (chI h) (m + 1) k g = if 4 ≤ g 4 9 then chL (chI h) m (k + 1) (crH g (chI h) k) else g := rfl
      rw [st] at hv
      refine hX 40 [33, 59] 33 _ _ _ _ _ _ ?_
      refine And.intro (fun c => absurd c (by omega)) (fun _ => ?_)
      refine And.intro (fun c => ?_) (fun c => ?_)
      · have c : g 4 9 < 4 := c
        rw [if_neg (by omega)] at hv
        exact at59 g k hv.symm G gi (fun q => by have := gr q; omega)
      · have c : 4 ≤ g 4 9 := c
        rw [if_pos c] at hv
        refine Ok_rt (readChartRow_ok ⟨G.1.1.1, by have := G.1.1.2; omega⟩ (RT_pos G) ⟨⟨by omega, by omega⟩, fun z => ⟨gi z, by have := gr (chI h); omega⟩⟩ ⟨by omega, by omega⟩) ?_
        refine And.intro ⟨by omega, by omega⟩ ?_
        exact ih (k + 1) _ (by omega) (by omega) hv (RT_cr G) (fun z => gi (cr_10 z)) (by have := rwB_cr (i := chI h) (k := k) gr; rw [show 80 + (k + 1) = 80 + k + 1 by omega]; exact this)
  refine hX 40 [24] 0 _ _ _ _ _ _ ?_
  refine Ok_rt (isFull_ok (p := 5) (b := 4) (Or.inl rfl) (Or.inr (Or.inr (Or.inl ⟨rfl, rfl⟩)))) ?_
  refine Ok_rt failIf_ok ?_
  refine Ok_rt (pt_ok (h := failH h (if 4 ≤ rdA h 7 4 2 then 1 else 0) 5) (by rw [fail_7]; exact ⟨H.1.1.1, by have := H.1.1.2; omega⟩)) ?_
  refine Ok_rt (nn_ok (h := chA h) ⟨by decide, by decide⟩ (by rw [cA]; exact ⟨hn.1, by omega⟩) ⟨A.1.1.1, by have := A.1.1.2; omega⟩) ?_
  show X 24 _ [vI (chI h)] _ (chB h) _ _
  refine hX 40 [25] 24 _ _ _ _ _ _ ?_
  show X 25 [_, vI (chI h), _] _ _ _ _ _
  refine hX 40 [32, 33] 25 _ _ _ _ _ _ ?_
  refine Ok_rt (readChartRow_ok ⟨B.1.1.1, by have := B.1.1.2; omega⟩ (RT_pos B) ⟨⟨by omega, by omega⟩, fun z => ⟨ib.2 z, by have := rB (chI h); omega⟩⟩ ⟨by decide, by decide⟩) ?_
  show X 32 _ [vI 1] _ _ _ _
  refine hX 40 [33] 32 _ _ _ _ _ _ ?_
  show X 33 [_, _, vI 1] _ _ _ _ _
  exact loop 8 1 _ (by omega) (by omega) rfl (RT_cr B) (fun z => ib.2 (cr_10 z)) (rwB_cr rB)
end READER10
