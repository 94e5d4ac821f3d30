/-! ===== a load leaves at most 80 rows to a chart ===== -/
def rwP (c i : Int) (h : HP) : Prop := rwB 80 h ∧ (h 4 10 = 0 → rdA h 8 4 i ≤ c)
theorem rdA_wz {h : HP} {a len : Nat} {i : Int} : rdA (wrA h a len i 0) a len i = 0 := by
  unfold wrA rdA
  by_cases z : 0 ≤ i ∧ i < (len : Int)
  · rw [if_pos z, if_pos z, up_same]
  · rw [if_neg z]
theorem crB_8 {h : HP} {i k : Int} : crB h i k 8 = h 8 := by
  unfold crB crA
  rw [failH_cell (by decide), failH_cell (by decide), failH_cell (by decide)]
theorem crB_10 {h : HP} {i k : Int} (e : crB h i k 4 10 = 0) : h 4 10 = 0 := by
  have f1 := fail_10 (h := crA h k) (c := 6) (by decide) e
  have f2 := fail_10 (h := failH h (if icV h = 0 then 1 else 0) 1) (c := 5) (by decide) f1.1
  exact (fail_10 (h := h) (c := 1) (by decide) f2.1).1
theorem rwP_cr {c i k : Int} {h : HP} (H : rwP c i h) (hc : 0 ≤ c ∧ c < 80) : rwP (c + 1) i (crH h i k) := by
  obtain ⟨a, b⟩ := H
  have e8 : crH h i k 8 = crC h i k 8 := by unfold crH; rw [passH_cell (by decide)]
  by_cases z : crB h i k 4 10 = 0
  · have bi := b (crB_10 z)
    have eC : crC h i k = addRowH (crB h i k) 5 i (crT h k) (crM h k) := by unfold crC; rw [if_pos z]
    have r : ∀ q, rdA (crH h i k) 8 4 q = rdA h 8 4 i + 1 ∨ rdA (crH h i k) 8 4 q = rdA h 8 4 q := fun q => by
      rw [rdA_cg e8, eC]
      unfold addRowH
      rcases rdA_wr (h := wrA (wrA (crB h i k) (5 + 4) 32 (i * 8 + rdA (crB h i k) (5 + 3) 4 i) (crT h k)) (5 + 5) 32 (i * 8 + rdA (crB h i k) (5 + 3) 4 i) (crM h k)) (a := 8) (len := 4) (i := i) (v := rdA (crB h i k) (5 + 3) 4 i + 1) (q := q) with y | y
      · refine Or.inl (y.trans ?_)
        rw [show rdA (crB h i k) (5 + 3) 4 i = rdA h 8 4 i from rdA_cg crB_8]
      · refine Or.inr (y.trans (rdA_cg ?_))
        rw [wrA_cell (by decide), wrA_cell (by decide), crB_8]
    have ai := a i
    refine ⟨fun q => ?_, fun _ => ?_⟩
    · have aq := a q
      rcases r q with y | y <;> rw [y] <;> omega
    · rcases r i with y | y <;> rw [y] <;> omega
  · have eC : crC h i k = crB h i k := by unfold crC; rw [if_neg z]
    refine ⟨rwB_cg a (by rw [e8, eC, crB_8]), fun e => ?_⟩
    unfold crH at e
    rw [pass_10, eC] at e
    exact absurd e z
theorem rwP_chL {i : Int} : ∀ (m : Nat) (c k : Int) (g : HP), 0 ≤ c → c + (m : Int) ≤ 80 → rwP c i g → rwB 80 (chL i m k g)
  | 0, _, _, _, _, _, H => H.1
  | m + 1, c, k, g, h0, h1, H => by
    unfold chL
    split
    · exact rwP_chL m (c + 1) (k + 1) _ (by omega) (by omega) (rwP_cr H ⟨h0, by omega⟩)
    · exact H.1
theorem rwP_chB {h : HP} (H : rwB 80 h) : rwP 0 (chI h) (chB h) := by
  refine ⟨rwB_nn (rwB_cg H (by unfold chA; rw [pt_cell (by decide), failH_cell (by decide)])), fun e => ?_⟩
  have e4 : nnB (chA h) 2 4 = nnA (chA h) 2 4 := by
    unfold nnB
    split
    · exact addNameH_4
    · rfl
  unfold chB nnP at e
  rw [pass_10, e4] at e
  have eB : nnB (chA h) 2 = addNameH (nnA (chA h) 2) 5 2 (tvH (chA h)) := by unfold nnB; rw [if_pos e]
  have eI : chI h = rdA (nnA (chA h) 2) (5 + 2) 4 2 := by
    unfold chI
    rw [if_pos e]
    exact (rdA_cg (nnA_cell (by decide))).symm
  have e8 : chB h 8 = addNameH (nnA (chA h) 2) 5 2 (tvH (chA h)) 8 := by
    unfold chB nnP
    rw [passH_cell (by decide), eB]
  rw [rdA_cg e8, eI]
  unfold addNameH
  rw [if_neg (by decide), if_pos rfl]
  exact Int.le_of_eq rdA_wz
/-- readChart keeps it -/
theorem rwB_ch {h : HP} (H : rwB 80 h) : rwB 80 (chH h) := by
  have C : rwB 80 (chC h) := rwP_chL 8 1 1 _ (by decide) (by decide) (rwP_cr (rwP_chB H) ⟨by decide, by decide⟩)
  exact rwB_cg C (by unfold chH; rw [pt_cell (by decide), failH_cell (by decide)])
