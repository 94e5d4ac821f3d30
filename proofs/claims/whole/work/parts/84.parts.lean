/-! ===== a load leaves at most 50 parts to a piece ===== -/
def ptP (c i : Int) (h : HP) : Prop := ptB 50 h ∧ (h 4 10 = 0 → rdA h 11 6 i ≤ c)
theorem ptP_sp {c i x : Int} {h : HP} (H : ptP c i h) (hc : 0 ≤ c ∧ c < 50) : ptP (c + 1) i (spH h i x) := by
  obtain ⟨a, b⟩ := H
  have e4 : spH h i x 4 = h 4 := sp_4
  by_cases z : h 4 10 = 0
  · have bi := b z
    have r : ∀ q, rdA (spH h i x) 11 6 q = rdA h 11 6 i + 1 ∨ rdA (spH h i x) 11 6 q = rdA h 11 6 q := fun q => by
      unfold spH
      rw [if_pos z]
      unfold addPartH
      rcases rdA_wr (h := addPartN h 5 x ((i * 10 + rdA h 11 6 i) * 9)) (a := 11) (len := 6) (i := i) (v := rdA h 11 6 i + 1) (q := q) with y | y
      · exact Or.inl y
      · refine Or.inr (y.trans (rdA_cg ?_))
        unfold addPartN
        rw [wrA_cell (by decide), wrA_cell (by decide), wrA_cell (by decide), wrA_cell (by decide), flF_cell (by decide)]
    have ai := a i
    refine ⟨fun q => ?_, fun _ => ?_⟩
    · have aq := a q
      rcases r q with y | y <;> rw [y] <;> omega
    · rcases r i with y | y <;> rw [y] <;> omega
  · have e : spH h i x = h := by unfold spH; rw [if_neg z]
    rw [e]
    exact ⟨a, fun y => absurd y z⟩
/-- the parts of g are those of h, and no error in g is none in h -/
theorem ptP_cg {c i : Int} {h g : HP} (H : ptP c i h) (e : g 11 = h 11) (e10 : g 4 10 = 0 → h 4 10 = 0) : ptP c i g := ⟨ptB_cg H.1 e, fun z => by rw [rdA_cg e]; exact H.2 (e10 z)⟩
theorem ptP_pt {c i k : Int} {h : HP} (H : ptP c i h) : ptP c i (ptH h k) := ptP_cg H (pt_cell (by decide)) (fun e => (pt_10 e).1)
theorem ca_sp {h : HP} {i : Int} (e : caH h i 4 10 = 0) : spH (ptH h 10) i 0 4 10 = 0 := wd_10 (rc_10 (pt_10 e).1)
theorem wo_sp {h : HP} {i : Int} (e : woH h i 4 10 = 0) : spH (ptH h 11) i 1 4 10 = 0 := by
  have a := (pt_10 e).1
  have c : woC h i 4 10 = 0 := by
    unfold woD at a
    split at a
    · rw [tl_4] at a
      have b := kn_10 a
      rw [pass_10] at b
      exact b
    · exact a
  have d := rc_10 c
  rw [tl_4] at d
  exact kn_10 d
theorem sh_sp {h : HP} {i : Int} (e : shH h i 4 10 = 0) : spH (ptH h 12) i 2 4 10 = 0 := by
  have a := rc_10 (pt_10 e).1
  rw [tl_4] at a
  have b := (pt_10 (num_10 a)).1
  rw [tl_4] at b
  exact wd_10 (pt_10 (kn_10 b)).1
theorem ptP_ca {c i : Int} {h : HP} (H : ptP c i h) (hc : 0 ≤ c ∧ c < 50) : ptP (c + 1) i (caH h i) := ptP_cg (ptP_sp (ptP_pt H) hc) ca_11 ca_sp
theorem ptP_wo {c i : Int} {h : HP} (H : ptP c i h) (hc : 0 ≤ c ∧ c < 50) : ptP (c + 1) i (woH h i) := ptP_cg (ptP_sp (ptP_pt H) hc) wo_11 wo_sp
theorem ptP_sh {c i : Int} {h : HP} (H : ptP c i h) (hc : 0 ≤ c ∧ c < 50) : ptP (c + 1) i (shH h i) := ptP_cg (ptP_sp (ptP_pt H) hc) sh_11 sh_sp
theorem ptP_piS {c i k : Int} {g : HP} (H : ptP c i g) (hc : 0 ≤ c ∧ c < 50) : ptP (c + 1) i (piS i k g) := by
  have F : ptP c i (piF k g) := ptP_cg H (by unfold piF; rw [failH_cell (by decide)]) piF_10
  unfold piS
  split
  · exact ptP_wo F hc
  · exact ptP_sh F hc
theorem ptP_piL {i : Int} : ∀ (m : Nat) (c k : Int) (g : HP), 0 ≤ c → c + (m : Int) ≤ 50 → ptP c i g → ptB 50 (piL i m k g)
  | 0, _, _, _, _, _, H => H.1
  | m + 1, c, k, g, h0, h1, H => by
    unfold piL
    split
    · exact ptP_piL m (c + 1) (k + 1) _ (by omega) (by omega) (ptP_piS H ⟨h0, by omega⟩)
    · exact H.1
theorem ptP_piB {h : HP} (H : ptB 50 h) : ptP 0 (piI h) (piB h) := by
  refine ⟨ptB_pt (ptB_nn (ptB_cg H (by unfold piA; rw [pt_cell (by decide), failH_cell (by decide)]))), fun e => ?_⟩
  have e := (pt_10 e).1
  have e4 : nnB (piA h) 3 4 = nnA (piA h) 3 4 := by
    unfold nnB
    split
    · exact addNameH_4
    · rfl
  unfold nnP at e
  rw [pass_10, e4] at e
  have eB : nnB (piA h) 3 = addNameH (nnA (piA h) 3) 5 3 (tvH (piA h)) := by unfold nnB; rw [if_pos e]
  have eI : piI h = rdA (nnA (piA h) 3) (5 + 2) 4 3 := by
    unfold piI
    rw [if_pos e]
    exact (rdA_cg (nnA_cell (by decide))).symm
  have e8 : piB h 11 = addNameH (nnA (piA h) 3) 5 3 (tvH (piA h)) 11 := by
    unfold piB
    rw [pt_cell (by decide)]
    unfold nnP
    rw [passH_cell (by decide), eB]
  rw [rdA_cg e8, eI]
  unfold addNameH
  rw [if_pos rfl, if_neg (by decide)]
  exact Int.le_of_eq rdA_wz
/-- readPiece keeps it -/
theorem ptB_pi {h : HP} (H : ptB 50 h) : ptB 50 (piH h) := ptB_pt (ptB_pt (ptP_piL 10 1 1 _ (by decide) (by decide) (ptP_ca (ptP_piB H) ⟨by decide, by decide⟩)))
