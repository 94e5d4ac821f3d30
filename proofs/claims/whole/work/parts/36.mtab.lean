/-! ===== the model: tables, by the class's words ===== -/
theorem CI_0 {h : HP} {j : Nat} {v : Int} (H : CI h) : CI (up h 50 j v) := CI_of H (up_cell (by decide)) (up_cell (by decide)) (up_cell (by decide)) (up_cell (by decide)) (up_cell (by decide)) (up_cell (by decide)) (by rw [up_cell (by decide)]; exact H.2)
theorem Cpl_0 {h : HP} {v : Int} (H : Cpl h) : Cpl (up h 50 0 v) := by
  unfold Cpl at *
  simp only [up_cell (show (21 : Nat) ≠ 50 by decide), up_cell (show (22 : Nat) ≠ 50 by decide), up_cell (show (23 : Nat) ≠ 50 by decide), up_cell (show (24 : Nat) ≠ 50 by decide), up_cell (show (25 : Nat) ≠ 50 by decide), up_cell (show (26 : Nat) ≠ 50 by decide), up_cell (show (28 : Nat) ≠ 50 by decide), up_cell (show (51 : Nat) ≠ 50 by decide), up_cell (show (52 : Nat) ≠ 50 by decide), up_cell (show (53 : Nat) ≠ 50 by decide), up_cell (show (54 : Nat) ≠ 50 by decide), up_cell (show (55 : Nat) ≠ 50 by decide), up_cell (show (57 : Nat) ≠ 50 by decide), up_ne (show (1 : Nat) ≠ 0 by decide), up_ne (show (2 : Nat) ≠ 0 by decide), up_ne (show (3 : Nat) ≠ 0 by decide), up_ne (show (4 : Nat) ≠ 0 by decide)]
  exact H
theorem isMs_0 {h : HP} {j : Nat} {v m : Int} : isMs (up h 50 j v) m ↔ isMs h m := by unfold isMs; rw [up_cell (by decide)]
theorem isSz_0 {h : HP} {j : Nat} {v m : Int} : isSz (up h 50 j v) m ↔ isSz h m := by unfold isSz; rw [up_cell (by decide)]
theorem isPc_0 {h : HP} {j : Nat} {v m : Int} : isPc (up h 50 j v) m ↔ isPc h m := by unfold isPc; rw [up_cell (by decide)]
theorem isPa_0 {h : HP} {j : Nat} {v m k : Int} : isPa (up h 50 j v) m k ↔ isPa h m k := by unfold isPa; rw [up_cell (by decide)]
theorem up_up {h : HP} {a j : Nat} {v w : Int} : up (up h a j v) a j w = up h a j w := by
  funext p q
  unfold up
  by_cases hp : p = a
  · subst hp
    by_cases hq : q = j
    · subst hq; simp
    · simp [hq]
  · simp [hp]
section MTAB
variable {M : List CT} {h : HP} {i j k m s p c x : Int}
theorem m_valueOf (hC : CI h) (hM : Cpl h) (hm : isMs h m) (hs : isSz h s) : Ok 217 [vR 50, vI m, vI s] (LL M) h (rt (some (vI (cVal (h 28) m s))) (LL M) h) := by
  obtain ⟨b0, b1, b2, b3, -, -⟩ := hC.1
  have m0 : 0 ≤ m ∧ m < 8 := ⟨hm.1, by have := hm.2; omega⟩
  have s0 : 0 ≤ s ∧ s < 6 := ⟨hs.1, by have := hs.2; omega⟩
  have e := hM.2.2.2.2.1 m s m0.1 m0.2 s0.1 s0.2
  rw [rd_in (by omega) (by omega)] at e
  clear b0 b1 b2 b3
  refine ok_body B_X9_valueOf rfl (fun X hX => ?_)
  refine hX 16 [] 0 _ _ _ _ _ _ ?_
  refine And.intro ⟨by omega, by omega⟩ ?_
  refine And.intro ⟨by omega, by omega⟩ ?_
  refine And.intro ⟨by omega, by omega⟩ ?_
  refine And.intro ⟨by omega, by omega⟩ ?_
  exact rt_mk (congrArg (fun z => some (vI z)) e) rfl
theorem m_value (hC : CI h) (hM : Cpl h) (hm : isMs h m) (hs : isSz h s) : Ok 218 [vR 50, vI m, vI s] (LL M) h (rt (some (vI (cVal (h 28) m s))) (LL M) (up h 50 0 0)) := by
  have e28 : up h 50 0 0 28 = h 28 := up_cell (by decide)
  have vo := m_valueOf (M := M) (CI_0 (j := 0) (v := 0) hC) (Cpl_0 (v := 0) hM) (isMs_0.mpr hm) (isSz_0.mpr hs)
  rw [e28] at vo
  refine ok_body B_X9_value rfl (fun X hX => ?_)
  refine hX 60 [] 0 _ _ _ _ _ _ ?_
  refine Ok_mono (fun o' Λ' h' hp => ?_) (m_isMeasure (M := M) (i := m) (CI_0 (j := 0) (v := 0) hC) (Cpl_0 (v := 0) hM))
  obtain ⟨rfl, rfl, x, rfl, hb⟩ := hp
  rcases hb with ⟨-, rfl⟩ | ⟨hb, -⟩
  · refine And.intro (fun c => absurd c (by decide)) (fun _ => ?_)
    refine Ok_mono (fun o' Λ' h' hp => ?_) (m_isSize (M := M) (i := s) (CI_0 (j := 0) (v := 0) hC) (Cpl_0 (v := 0) hM))
    obtain ⟨rfl, rfl, x, rfl, hb⟩ := hp
    rcases hb with ⟨-, rfl⟩ | ⟨hb, -⟩
    · refine And.intro (fun c => absurd c (by decide)) (fun _ => ?_)
      refine Ok_rt (mayT (by decide) up_same) ?_
      refine And.intro (fun c => absurd c (by decide)) (fun _ => ?_)
      refine Ok_rt vo ?_
      exact rt_mk rfl rfl
    · exact absurd (isSz_0.mpr hs) hb
  · exact absurd (isMs_0.mpr hm) hb
theorem m_value_x (hC : CI h) (hM : Cpl h) (hx : ¬ (isMs h m ∧ isSz h s)) : Ok 218 [vR 50, vI m, vI s] (LL M) h (rt (some (vI 0)) (LL M) (up h 50 0 1)) := by
  refine ok_body B_X9_value rfl (fun X hX => ?_)
  have bad : X 26 [vR 50, vI m, vI s] [vR 50] (LL M) (up h 50 0 0) 0 0 := by
    refine hX 30 [] 26 _ _ _ _ _ _ ?_
    refine Ok_rt (mayF (by decide) up_same) ?_
    refine And.intro (fun _ => ?_) (fun c => absurd rfl c)
    exact rt_mk rfl up_up
  refine hX 60 [26] 0 _ _ _ _ _ _ ?_
  refine Ok_mono (fun o' Λ' h' hp => ?_) (m_isMeasure (M := M) (i := m) (CI_0 (j := 0) (v := 0) hC) (Cpl_0 (v := 0) hM))
  obtain ⟨rfl, rfl, x, rfl, hb⟩ := hp
  rcases hb with ⟨h1, rfl⟩ | ⟨-, rfl⟩
  · refine And.intro (fun c => absurd c (by decide)) (fun _ => ?_)
    refine Ok_mono (fun o' Λ' h' hp => ?_) (m_isSize (M := M) (i := s) (CI_0 (j := 0) (v := 0) hC) (Cpl_0 (v := 0) hM))
    obtain ⟨rfl, rfl, x, rfl, hb⟩ := hp
    rcases hb with ⟨h2, rfl⟩ | ⟨-, rfl⟩
    · exact absurd ⟨isMs_0.mp h1, isSz_0.mp h2⟩ hx
    · exact And.intro (fun _ => bad) (fun c => absurd rfl c)
  · exact And.intro (fun _ => bad) (fun c => absurd rfl c)
end MTAB
