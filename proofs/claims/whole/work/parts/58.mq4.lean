/-! ===== the model: isGraded, fits, chart, chartRow, part, parts, count, lot ===== -/
section MQ4
variable {M : List CT} {h : HP} {i j m s p c x y w r : Int} {ns : Nat}
theorem v_at (hC : CI h) (hM : Cpl h) (hm : isMs h m) (hs : 0 ≤ s ∧ s < 6) : Ok 217 [vR 50, vI m, vI s] (LL M) (up h 50 0 0) (rt (some (vI (cVal (h 28) m s))) (LL M) (up h 50 0 0)) := by
  have b1 := hC.1.2.1
  have m0 : 0 ≤ m ∧ m < 8 := ⟨hm.1, by have := hm.2; omega⟩
  have e := hM.2.2.2.2.1 m s m0.1 m0.2 hs.1 hs.2
  rw [rd_in (by omega) (by omega)] at e
  have z := t_valueOf (M := M) (h := up h 50 0 0) m0 hs
  rw [up_cell (by decide), e] at z
  exact z
theorem cv_bd (hC : CI h) (hm : isMs h m) (hs : 0 ≤ s ∧ s < 6) : 0 ≤ cVal (h 28) m s ∧ cVal (h 28) m s ≤ 3000 := by
  have b1 := hC.1.2.1
  have m0 := hm.1
  have m1 := hm.2
  exact hC.2.2.2.2.2.2.2.1 (24 + m * 6 + s) (by omega) (by omega)
theorem m_isGraded (hC : CI h) (hM : Cpl h) (hm : isMs h m) : Ok 219 [vR 50, vI m] (LL M) h (vaP M h (vI (grF (fun t => cVal (h 28) m t) (rd (h 21) 4 0 - 1).toNat 1))) := by
  have T0 := TbC_0 (v := 0) (TbC_of hC hM)
  have b0 := hC.1.1
  have e1 : up h 50 0 0 50 1 = rd (h 21) 4 0 := by rw [up_ne (by decide)]; exact hM.1.1
  refine ok_body B_X9_isGraded rfl (fun X hX => ?_)
  have loop : ∀ (f : Nat) (t v : Int), rd (h 21) 4 0 - t = (f : Int) → 1 ≤ t → ((v = 1 ∧ grF (fun t => cVal (h 28) m t) (rd (h 21) 4 0 - 1).toNat 1 = grF (fun t => cVal (h 28) m t) f t) ∨ (v = 0 ∧ grF (fun t => cVal (h 28) m t) (rd (h 21) 4 0 - 1).toNat 1 = 0)) → X 24 [vR 50, vI m, vI v, vI t] [] (LL M) (up h 50 0 0) 0 0 := by
    intro f
    induction f with
    | zero =>
      intro t v ht h1 hv1
      refine hX 20 [] 24 _ _ _ _ _ _ ?_
      refine And.intro (fun _ => ?_) (fun c29 => absurd c29 (by omega))
      have ev : grF (fun t => cVal (h 28) m t) (rd (h 21) 4 0 - 1).toNat 1 = v := by
        rcases hv1 with y | y
        · rw [y.1]; exact y.2
        · rw [y.1]; exact y.2
      rw [ev]
      exact And.intro (by rcases hv1 with y | y <;> rw [y.1] <;> exact ⟨by decide, by decide⟩) ⟨rfl, rfl, FrM_0, up_same⟩
    | succ f ih =>
      intro t v ht h1 hv1
      have nxt : ∀ v', ((v' = 1 ∧ grF (fun t => cVal (h 28) m t) (rd (h 21) 4 0 - 1).toNat 1 = grF (fun t => cVal (h 28) m t) f (t + 1)) ∨ (v' = 0 ∧ grF (fun t => cVal (h 28) m t) (rd (h 21) 4 0 - 1).toNat 1 = 0)) → X 58 [vR 50, vI m, vI v, vI t] [vI v'] (LL M) (up h 50 0 0) 0 0 := by
        intro v' hv2
        refine hX 20 [24, 59] 58 _ _ _ _ _ _ ?_
        show X 59 [_, _, _, _] _ _ _ _ _
        refine hX 20 [24] 59 _ _ _ _ _ _ ?_
        refine And.intro ⟨by omega, by omega⟩ ?_
        exact ih (t + 1) v' (by omega) (by omega) hv2
      refine hX 40 [24, 58] 24 _ _ _ _ _ _ ?_
      refine And.intro (fun c29 => absurd c29 (by omega)) (fun c29 => ?_)
      rcases hv1 with ⟨rfl, hv1⟩ | ⟨rfl, hv1⟩
      · refine And.intro (fun c9 => absurd c9 (by decide)) (fun _ => ?_)
        refine And.intro ⟨by omega, by omega⟩ ?_
        refine Ok_rt (v_at hC hM hm (show 0 ≤ t - 1 ∧ t - 1 < 6 by omega)) ?_
        refine Ok_rt (v_at hC hM hm (show 0 ≤ t ∧ t < 6 by omega)) ?_
        have st : grF (fun t => cVal (h 28) m t) (f + 1) t = if cVal (h 28) m t < cVal (h 28) m (t - 1) then 0 else grF (fun t => cVal (h 28) m t) f (t + 1) := rfl
        rw [st] at hv1
        refine And.intro (fun c50 => ?_) (fun c50 => ?_)
        · rw [if_pos (by omega)] at hv1
          exact nxt 0 (Or.inr ⟨rfl, hv1⟩)
        · rw [if_neg (by omega)] at hv1
          exact nxt 1 (Or.inl ⟨rfl, hv1⟩)
      · refine And.intro (fun _ => ?_) (fun c9 => absurd rfl c9)
        exact nxt 0 (Or.inr ⟨rfl, hv1⟩)
  refine hX 60 [22, 24] 0 _ _ _ _ _ _ ?_
  refine Ok_mono (fun o' Λ' h' hpost => ?_) (t_isMeasure (M := M) (i := m) T0)
  obtain ⟨rfl, rfl, x9, rfl, hb⟩ := hpost
  rcases hb with ⟨-, rfl⟩ | ⟨hb, -⟩
  case inr => exact absurd (isMs_0.mpr hm) hb
  refine Ok_rt (mayT (by decide) up_same) ?_
  refine And.intro (fun _ => ?_) (fun c9 => absurd c9 (by decide))
  show X 22 [_, _, _, _] _ _ _ _ _
  refine hX 20 [24] 22 _ _ _ _ _ _ ?_
  exact loop (rd (h 21) 4 0 - 1).toNat 1 1 (by omega) (by omega) (Or.inl ⟨rfl, rfl⟩)
theorem m_isGraded_x (hC : CI h) (hM : Cpl h) (hm : ¬ isMs h m) : Ok 219 [vR 50, vI m] (LL M) h (thP M h 0 1) := by
  have T0 := TbC_0 (v := 0) (TbC_of hC hM)
  have fin : ∀ e h', h' = up (up h 50 0 0) 50 0 e → FrM h h' ∧ h' 50 0 = e := fun e h' q => by rw [q, up_up]; exact ⟨FrM_0, up_same⟩
  refine ok_body B_X9_isGraded rfl (fun X hX => ?_)
  refine hX 60 [22, 24] 0 _ _ _ _ _ _ ?_
  refine Ok_mono (fun o' Λ' h' hpost => ?_) (t_isMeasure (M := M) (i := m) T0)
  obtain ⟨rfl, rfl, x9, rfl, hb⟩ := hpost
  rcases hb with ⟨hb, -⟩ | ⟨-, rfl⟩
  case inl => exact absurd hb (fun q => hm (isMs_0.mp q))
  refine Ok_rt (mayF (by decide) up_same) ?_
  refine And.intro (fun c9 => absurd rfl c9) (fun _ => ?_)
  exact And.intro ⟨by decide, by decide⟩ ⟨rfl, rfl, fin _ _ rfl⟩
theorem m_fits (hC : CI h) (hM : Cpl h) (hm : isMs h m) (hx : 0 ≤ x ∧ x ≤ 3000) : Ok 220 [vR 50, vI m, vI x] (LL M) h (vaP M h (vI (ftF (fun t => ab (cVal (h 28) m t - x)) (rd (h 21) 4 0 - 1).toNat 1 0 (ab (cVal (h 28) m 0 - x))))) := by
  have T0 := TbC_0 (v := 0) (TbC_of hC hM)
  have b0 := hC.1.1
  have e1 : up h 50 0 0 50 1 = rd (h 21) 4 0 := by rw [up_ne (by decide)]; exact hM.1.1
  refine ok_body B_X9_fits rfl (fun X hX => ?_)
  have loop : ∀ (f : Nat) (t v : Int), rd (h 21) 4 0 - t = (f : Int) → 1 ≤ t → 0 ≤ v → v < 6 → ftF (fun t => ab (cVal (h 28) m t - x)) (rd (h 21) 4 0 - 1).toNat 1 0 (ab (cVal (h 28) m 0 - x)) = ftF (fun t => ab (cVal (h 28) m t - x)) f t v (ab (cVal (h 28) m v - x)) → X 42 [vR 50, vI m, vI x, vI v, vI t] [] (LL M) (up h 50 0 0) 0 0 := by
    intro f
    induction f with
    | zero =>
      intro t v ht h1 v0 v1 hv1
      refine hX 20 [] 42 _ _ _ _ _ _ ?_
      refine And.intro (fun _ => ?_) (fun c48 => absurd c48 (by omega))
      rw [hv1]
      exact ⟨rfl, rfl, FrM_0, up_same⟩
    | succ f ih =>
      intro t v ht h1 v0 v1 hv1
      have ct := cv_bd hC hm (show 0 ≤ t ∧ t < 6 by omega)
      have cb := cv_bd hC hm (s := v) ⟨v0, v1⟩
      have st : ftF (fun t => ab (cVal (h 28) m t - x)) (f + 1) t v (ab (cVal (h 28) m v - x)) = if ab (cVal (h 28) m t - x) < ab (cVal (h 28) m v - x) then ftF (fun t => ab (cVal (h 28) m t - x)) f (t + 1) t (ab (cVal (h 28) m t - x)) else ftF (fun t => ab (cVal (h 28) m t - x)) f (t + 1) v (ab (cVal (h 28) m v - x)) := rfl
      rw [st] at hv1
      have nxt : ∀ v', 0 ≤ v' → v' < 6 → ftF (fun t => ab (cVal (h 28) m t - x)) (rd (h 21) 4 0 - 1).toNat 1 0 (ab (cVal (h 28) m 0 - x)) = ftF (fun t => ab (cVal (h 28) m t - x)) f (t + 1) v' (ab (cVal (h 28) m v' - x)) → X 80 [vR 50, vI m, vI x, vI v', vI t] [] (LL M) (up h 50 0 0) 0 0 := by
        intro v' w0 w1 hv2
        refine hX 20 [42] 80 _ _ _ _ _ _ ?_
        refine And.intro ⟨by omega, by omega⟩ ?_
        exact ih (t + 1) v' (by omega) (by omega) w0 w1 hv2
      refine hX 40 [42, 80] 42 _ _ _ _ _ _ ?_
      refine And.intro (fun c48 => absurd c48 (by omega)) (fun c48 => ?_)
      refine Ok_rt (v_at hC hM hm (show 0 ≤ t ∧ t < 6 by omega)) ?_
      refine And.intro ⟨by omega, by omega⟩ ?_
      refine Ok_rt (abs_ok (by omega) (by omega)) ?_
      refine Ok_rt (v_at hC hM hm (s := v) ⟨v0, v1⟩) ?_
      refine And.intro ⟨by omega, by omega⟩ ?_
      refine Ok_rt (abs_ok (by omega) (by omega)) ?_
      refine And.intro (fun c74 => ?_) (fun c74 => ?_)
      · have c74 : ab (cVal (h 28) m v - x) ≤ ab (cVal (h 28) m t - x) := c74
        rw [if_neg (by omega)] at hv1
        exact nxt v v0 v1 hv1
      · have c74 : ab (cVal (h 28) m t - x) < ab (cVal (h 28) m v - x) := c74
        rw [if_pos (by omega)] at hv1
        show X 80 [_, _, _, _, _] _ _ _ _ _
        exact nxt t (by omega) (by omega) hv1
  refine hX 60 [37] 0 _ _ _ _ _ _ ?_
  refine Ok_mono (fun o' Λ' h' hpost => ?_) (t_isMeasure (M := M) (i := m) T0)
  obtain ⟨rfl, rfl, x9, rfl, hb⟩ := hpost
  rcases hb with ⟨-, rfl⟩ | ⟨hb, -⟩
  case inr => exact absurd (isMs_0.mpr hm) hb
  refine Ok_rt (mayT (by decide) up_same) ?_
  refine And.intro (fun c9 => absurd c9 (by decide)) (fun _ => ?_)
  refine Ok_rt (isIn_t hx) ?_
  refine Ok_rt (mayT (by decide) up_same) ?_
  refine And.intro (fun _ => ?_) (fun c9 => absurd c9 (by decide))
  refine hX 20 [39, 42] 37 _ _ _ _ _ _ ?_
  show X 39 [_, _, _, _, _] _ _ _ _ _
  refine hX 20 [42] 39 _ _ _ _ _ _ ?_
  exact loop (rd (h 21) 4 0 - 1).toNat 1 0 (by omega) (by omega) (by omega) (by omega) rfl
theorem m_fits_x (hC : CI h) (hM : Cpl h) (hm : ¬ isMs h m) : Ok 220 [vR 50, vI m, vI x] (LL M) h (thP M h 0 1) := by
  have T0 := TbC_0 (v := 0) (TbC_of hC hM)
  have fin : ∀ e h', h' = up (up h 50 0 0) 50 0 e → FrM h h' ∧ h' 50 0 = e := fun e h' q => by rw [q, up_up]; exact ⟨FrM_0, up_same⟩
  refine ok_body B_X9_fits rfl (fun X hX => ?_)
  refine hX 60 [37] 0 _ _ _ _ _ _ ?_
  refine Ok_mono (fun o' Λ' h' hpost => ?_) (t_isMeasure (M := M) (i := m) T0)
  obtain ⟨rfl, rfl, x9, rfl, hb⟩ := hpost
  rcases hb with ⟨hb, -⟩ | ⟨-, rfl⟩
  case inl => exact absurd hb (fun q => hm (isMs_0.mp q))
  refine Ok_rt (mayF (by decide) up_same) ?_
  refine And.intro (fun _ => ?_) (fun c9 => absurd rfl c9)
  exact ⟨rfl, rfl, fin _ _ rfl⟩
theorem m_fits_y (hC : CI h) (hM : Cpl h) (hm : isMs h m) (hx : ¬ (0 ≤ x ∧ x ≤ 3000)) : Ok 220 [vR 50, vI m, vI x] (LL M) h (thP M h 0 2) := by
  have T0 := TbC_0 (v := 0) (TbC_of hC hM)
  have fin : ∀ e h', h' = up (up h 50 0 0) 50 0 e → FrM h h' ∧ h' 50 0 = e := fun e h' q => by rw [q, up_up]; exact ⟨FrM_0, up_same⟩
  refine ok_body B_X9_fits rfl (fun X hX => ?_)
  refine hX 60 [37] 0 _ _ _ _ _ _ ?_
  refine Ok_mono (fun o' Λ' h' hpost => ?_) (t_isMeasure (M := M) (i := m) T0)
  obtain ⟨rfl, rfl, x9, rfl, hb⟩ := hpost
  rcases hb with ⟨-, rfl⟩ | ⟨hb, -⟩
  case inr => exact absurd (isMs_0.mpr hm) hb
  refine Ok_rt (mayT (by decide) up_same) ?_
  refine And.intro (fun c9 => absurd c9 (by decide)) (fun _ => ?_)
  refine Ok_rt (isIn_f hx) ?_
  refine Ok_rt (mayF (by decide) up_same) ?_
  refine And.intro (fun c9 => absurd rfl c9) (fun _ => ?_)
  exact ⟨rfl, rfl, fin _ _ rfl⟩

theorem m_chart (hC : CI h) (hM : Cpl h) (hc : isCh h c) (hi : 0 ≤ i ∧ i ≤ 2) : Ok 221 [vR 50, vI c, vI i] (LL M) h (vaP M h (vI (if i = 0 then rd (h 22) 4 c else if i = 1 then rd (h 23) 32 (c * 8 + 0) else mxF (fun q => rd (h 24) 32 (c * 8 + q)) (rd (h 22) 4 c - 0).toNat 0 0))) := by
  have b2 := hC.1.2.2.1
  have c0 : 0 ≤ c ∧ c < 4 := ⟨hc.1, by have := hc.2; omega⟩
  have co := hC.1.2.2.2.2.1 c hc.1 hc.2
  have co1 : 1 ≤ rd (h 22) 4 c ∧ rd (h 22) 4 c ≤ 8 := co.1
  have mc := hM.2.1 c hc.1 hc.2
  have m1 := mc.1
  rw [rd_in c0.1 (by omega)] at m1
  have e3 : up h 50 0 0 50 3 = rd (h 21) 4 2 := by rw [up_ne (by decide)]; exact hM.1.2.2.1
  have t51 : up h 50 0 0 51 c.toNat = rd (h 22) 4 c := by rw [up_cell (by decide)]; exact m1
  have t52 : up h 50 0 0 52 (8 * c).toNat = rd (h 23) 32 (c * 8 + 0) := by
    have m2 := (mc.2 0 (by omega) (by omega)).1
    rw [rd_in (by omega) (by omega), Int.add_zero] at m2
    rw [up_cell (by decide)]; exact m2
  have t53 : ∀ q, 0 ≤ q → q < rd (h 22) 4 c → up h 50 0 0 53 (8 * c + q).toNat = rd (h 24) 32 (c * 8 + q) := fun q q0 q1 => by
    have m2 := (mc.2 q q0 q1).2
    rw [rd_in (by omega) (by omega)] at m2
    rw [up_cell (by decide)]; exact m2
  refine ok_body B_X9_chart rfl (fun X hX => ?_)
  have loop : ∀ (f : Nat) (t v : Int), rd (h 22) 4 c - t = (f : Int) → 0 ≤ t → mxF (fun q => rd (h 24) 32 (c * 8 + q)) (rd (h 22) 4 c - 0).toNat 0 0 = mxF (fun q => rd (h 24) 32 (c * 8 + q)) f t v → (¬ i = 0 ∧ ¬ i = 1) → X 76 [vR 50, vI c, vI i, vI v, vI t] [] (LL M) (up h 50 0 0) 0 0 := by
    intro f
    induction f with
    | zero =>
      intro t v ht h1 hv1 hi2
      refine hX 20 [] 76 _ _ _ _ _ _ ?_
      refine And.intro ⟨by omega, by omega⟩ ?_
      rw [t51]
      refine And.intro (fun _ => ?_) (fun c84 => absurd c84 (by omega))
      rw [if_neg hi2.1, if_neg hi2.2, hv1]
      exact ⟨rfl, rfl, FrM_0, up_same⟩
    | succ f ih =>
      intro t v ht h1 hv1 hi2
      have st : mxF (fun q => rd (h 24) 32 (c * 8 + q)) (f + 1) t v = mxF (fun q => rd (h 24) 32 (c * 8 + q)) f (t + 1) (max v (rd (h 24) 32 (c * 8 + t))) := rfl
      rw [st] at hv1
      have tt := t53 t h1 (by omega)
      have nxt : ∀ v', v' = max v (rd (h 24) 32 (c * 8 + t)) → X 119 [vR 50, vI c, vI i, vI v, vI t] [vI v'] (LL M) (up h 50 0 0) 0 0 := by
        intro v' hv2
        subst hv2
        refine hX 20 [76, 120] 119 _ _ _ _ _ _ ?_
        show X 120 [_, _, _, _, _] _ _ _ _ _
        refine hX 20 [76] 120 _ _ _ _ _ _ ?_
        refine And.intro ⟨by omega, by omega⟩ ?_
        exact ih (t + 1) _ (by omega) (by omega) hv1 hi2
      refine hX 40 [76, 119] 76 _ _ _ _ _ _ ?_
      refine And.intro ⟨by omega, by omega⟩ ?_
      rw [t51]
      refine And.intro (fun c84 => absurd c84 (by omega)) (fun c84 => ?_)
      refine And.intro ⟨by omega, by omega⟩ ?_
      refine And.intro ⟨by omega, by omega⟩ ?_
      refine And.intro ⟨by omega, by omega⟩ ?_
      rw [tt]
      refine And.intro (fun c100 => ?_) (fun c100 => ?_)
      · exact nxt _ (by omega)
      · refine And.intro ⟨by omega, by omega⟩ ?_
        refine And.intro ⟨by omega, by omega⟩ ?_
        refine And.intro ⟨by omega, by omega⟩ ?_
        rw [tt]
        exact nxt _ (by omega)
  refine hX 60 [45] 0 _ _ _ _ _ _ ?_
  refine And.intro (show inR (h 50 3 - 1) from by rw [hM.1.2.2.1]; exact ⟨by omega, by omega⟩) ?_
  refine Ok_rt (isIn_t (j := 0) (k := h 50 3 - 1) (by rw [hM.1.2.2.1]; have := hc.2; omega)) ?_
  refine Ok_rt (mayT (by decide) up_same) ?_
  refine And.intro (fun c9 => absurd c9 (by decide)) (fun _ => ?_)
  refine Ok_rt (isIn_t hi) ?_
  refine Ok_rt (mayT (by decide) up_same) ?_
  refine And.intro (fun _ => ?_) (fun c9 => absurd c9 (by decide))
  refine hX 60 [73, 76] 45 _ _ _ _ _ _ ?_
  refine And.intro (fun c46 => ?_) (fun c46 => ?_)
  · refine And.intro (fun c58 => ?_) (fun c58 => ?_)
    · show X 73 [_, _, _, _, _] _ _ _ _ _
      refine hX 20 [76] 73 _ _ _ _ _ _ ?_
      exact loop (rd (h 22) 4 c - 0).toNat 0 0 (by omega) (by omega) rfl ⟨c46, c58⟩
    · have c58 : i = 1 := c58
      refine And.intro ⟨by omega, by omega⟩ ?_
      refine And.intro ⟨by omega, by omega⟩ ?_
      rw [t52]
      rw [if_neg (by omega), if_pos c58]
      exact ⟨rfl, rfl, FrM_0, up_same⟩
  · have c46 : i = 0 := c46
    refine And.intro ⟨by omega, by omega⟩ ?_
    rw [t51, if_pos c46]
    exact ⟨rfl, rfl, FrM_0, up_same⟩
theorem m_chart_x (hC : CI h) (hM : Cpl h) (hc : ¬ isCh h c) : Ok 221 [vR 50, vI c, vI i] (LL M) h (thP M h 0 1) := by
  have b2 := hC.1.2.2.1
  have fin : ∀ e h', h' = up (up h 50 0 0) 50 0 e → FrM h h' ∧ h' 50 0 = e := fun e h' q => by rw [q, up_up]; exact ⟨FrM_0, up_same⟩
  refine ok_body B_X9_chart rfl (fun X hX => ?_)
  refine hX 60 [45] 0 _ _ _ _ _ _ ?_
  refine And.intro (show inR (h 50 3 - 1) from by rw [hM.1.2.2.1]; exact ⟨by omega, by omega⟩) ?_
  refine Ok_rt (isIn_f (j := 0) (k := h 50 3 - 1) (by rw [hM.1.2.2.1]; exact fun q => hc ⟨q.1, by omega⟩)) ?_
  refine Ok_rt (mayF (by decide) up_same) ?_
  refine And.intro (fun _ => ?_) (fun c9 => absurd rfl c9)
  exact ⟨rfl, rfl, fin _ _ rfl⟩
theorem m_chart_y (hC : CI h) (hM : Cpl h) (hc : isCh h c) (hi : ¬ (0 ≤ i ∧ i ≤ 2)) : Ok 221 [vR 50, vI c, vI i] (LL M) h (thP M h 0 2) := by
  have b2 := hC.1.2.2.1
  have fin : ∀ e h', h' = up (up h 50 0 0) 50 0 e → FrM h h' ∧ h' 50 0 = e := fun e h' q => by rw [q, up_up]; exact ⟨FrM_0, up_same⟩
  refine ok_body B_X9_chart rfl (fun X hX => ?_)
  refine hX 60 [45] 0 _ _ _ _ _ _ ?_
  refine And.intro (show inR (h 50 3 - 1) from by rw [hM.1.2.2.1]; exact ⟨by omega, by omega⟩) ?_
  refine Ok_rt (isIn_t (j := 0) (k := h 50 3 - 1) (by rw [hM.1.2.2.1]; exact ⟨hc.1, by have := hc.2; omega⟩)) ?_
  refine Ok_rt (mayT (by decide) up_same) ?_
  refine And.intro (fun c9 => absurd c9 (by decide)) (fun _ => ?_)
  refine Ok_rt (isIn_f hi) ?_
  refine Ok_rt (mayF (by decide) up_same) ?_
  refine And.intro (fun c9 => absurd rfl c9) (fun _ => ?_)
  exact ⟨rfl, rfl, fin _ _ rfl⟩
theorem m_chartRow (hC : CI h) (hM : Cpl h) (hc : isCh h c) (hr : 0 ≤ r ∧ r < rd (h 22) 4 c) : Ok 222 [vR 50, vI c, vI r, vI i] (LL M) h (vaP M h (vI (if i = 0 then rd (h 23) 32 (c * 8 + r) else rd (h 24) 32 (c * 8 + r)))) := by
  have b2 := hC.1.2.2.1
  have c0 : 0 ≤ c ∧ c < 4 := ⟨hc.1, by have := hc.2; omega⟩
  have co := (hC.1.2.2.2.2.1 c hc.1 hc.2).1
  have mc := hM.2.1 c hc.1 hc.2
  have m1 := mc.1
  rw [rd_in c0.1 (by omega)] at m1
  have t51 : up h 50 0 0 51 c.toNat = rd (h 22) 4 c := by rw [up_cell (by decide)]; exact m1
  have m2 := mc.2 r hr.1 hr.2
  rw [rd_in (by omega) (by omega), rd_in (show 0 ≤ 8 * c + r by omega) (by omega)] at m2
  have t52 : up h 50 0 0 52 (8 * c + r).toNat = rd (h 23) 32 (c * 8 + r) := by rw [up_cell (by decide)]; exact m2.1
  have t53 : up h 50 0 0 53 (8 * c + r).toNat = rd (h 24) 32 (c * 8 + r) := by rw [up_cell (by decide)]; exact m2.2
  refine ok_body B_X9_chartRow_ rfl (fun X hX => ?_)
  refine hX 60 [45] 0 _ _ _ _ _ _ ?_
  refine And.intro (show inR (h 50 3 - 1) from by rw [hM.1.2.2.1]; exact ⟨by omega, by omega⟩) ?_
  refine Ok_rt (isIn_t (j := 0) (k := h 50 3 - 1) (by rw [hM.1.2.2.1]; exact ⟨hc.1, by have := hc.2; omega⟩)) ?_
  refine And.intro (fun c9 => absurd c9 (by decide)) (fun _ => ?_)
  refine And.intro ⟨by omega, by omega⟩ ?_
  rw [t51]
  refine And.intro ⟨by omega, by omega⟩ ?_
  refine Ok_rt (isIn_t ⟨hr.1, by omega⟩) ?_
  refine And.intro (fun c9 => absurd c9 (by decide)) (fun _ => ?_)
  refine hX 60 [54] 45 _ _ _ _ _ _ ?_
  refine Ok_rt (mayT (by decide) up_same) ?_
  refine And.intro (fun _ => ?_) (fun c9 => absurd c9 (by decide))
  refine hX 60 [] 54 _ _ _ _ _ _ ?_
  refine And.intro (fun c55 => ?_) (fun c55 => ?_)
  · have c55 : i = 0 := c55
    refine And.intro ⟨by omega, by omega⟩ ?_
    refine And.intro ⟨by omega, by omega⟩ ?_
    refine And.intro ⟨by omega, by omega⟩ ?_
    rw [t52, if_pos c55]
    exact ⟨rfl, rfl, FrM_0, up_same⟩
  · have c55 : i ≠ 0 := c55
    refine And.intro ⟨by omega, by omega⟩ ?_
    refine And.intro ⟨by omega, by omega⟩ ?_
    refine And.intro ⟨by omega, by omega⟩ ?_
    rw [t53, if_neg c55]
    exact ⟨rfl, rfl, FrM_0, up_same⟩
theorem m_chartRow_x (hC : CI h) (hM : Cpl h) (hx : ¬ (isCh h c ∧ (0 ≤ r ∧ r < rd (h 22) 4 c))) : Ok 222 [vR 50, vI c, vI r, vI i] (LL M) h (thP M h 0 1) := by
  have b2 := hC.1.2.2.1
  have fin : ∀ e h', h' = up (up h 50 0 0) 50 0 e → FrM h h' ∧ h' 50 0 = e := fun e h' q => by rw [q, up_up]; exact ⟨FrM_0, up_same⟩
  refine ok_body B_X9_chartRow_ rfl (fun X hX => ?_)
  have bad : X 45 [vR 50, vI c, vI r, vI i] [vI 0, vR 50] (LL M) (up h 50 0 0) 0 0 := by
    refine hX 60 [54] 45 _ _ _ _ _ _ ?_
    refine Ok_rt (mayF (by decide) up_same) ?_
    refine And.intro (fun c9 => absurd rfl c9) (fun _ => ?_)
    exact ⟨rfl, rfl, fin _ _ rfl⟩
  refine hX 60 [45] 0 _ _ _ _ _ _ ?_
  refine And.intro (show inR (h 50 3 - 1) from by rw [hM.1.2.2.1]; exact ⟨by omega, by omega⟩) ?_
  by_cases z : isCh h c
  · have c0 : 0 ≤ c ∧ c < 4 := ⟨z.1, by have := z.2; omega⟩
    have m1 := (hM.2.1 c z.1 z.2).1
    have co := (hC.1.2.2.2.2.1 c z.1 z.2).1
    rw [rd_in c0.1 (by omega)] at m1
    have t51 : up h 50 0 0 51 c.toNat = rd (h 22) 4 c := by rw [up_cell (by decide)]; exact m1
    refine Ok_rt (isIn_t (j := 0) (k := h 50 3 - 1) (by rw [hM.1.2.2.1]; exact ⟨z.1, by have := z.2; omega⟩)) ?_
    refine And.intro (fun c9 => absurd c9 (by decide)) (fun _ => ?_)
    refine And.intro ⟨by omega, by omega⟩ ?_
    rw [t51]
    refine And.intro ⟨by omega, by omega⟩ ?_
    refine Ok_rt (isIn_f (fun q => hx ⟨z, q.1, by omega⟩)) ?_
    exact And.intro (fun _ => bad) (fun c9 => absurd rfl c9)
  · refine Ok_rt (isIn_f (j := 0) (k := h 50 3 - 1) (by rw [hM.1.2.2.1]; exact fun q => z ⟨q.1, by omega⟩)) ?_
    exact And.intro (fun _ => bad) (fun c9 => absurd rfl c9)

theorem m_part (hC : CI h) (hM : Cpl h) (hp : isPc h p) (hk : isPa h p j) (hi : 0 ≤ i ∧ i ≤ 8) : Ok 224 [vR 50, vI p, vI j, vI i] (LL M) h (vaP M h (vI (if i = 3 then rd (h 28) 132 (72 + p * 10 + j) else cF (h 26) p j i))) := by
  have T0 := TbC_0 (v := 0) (TbC_of hC hM)
  have b3 := hC.1.2.2.2.1
  have bp := (hC.1.2.2.2.2.2 p hp.1 hp.2).1
  have p0 : 0 ≤ p ∧ p < 6 := ⟨hp.1, by have := hp.2; omega⟩
  have k0 : 0 ≤ j ∧ j < 10 := ⟨hk.1, by have := hk.2; omega⟩
  have pm := (hM.2.2.1 p hp.1 hp.2).2 j hk.1 hk.2
  have C0 := CI_0 (j := 0) (v := 0) hC
  have M0 := Cpl_0 (v := 0) hM
  have of0 : ∀ w, 0 ≤ w → w ≤ 7 → Ok 223 [vR 50, vI p, vI j, vI w] (LL M) (up h 50 0 0) (rt (some (vI (rd (h 55) 480 (8 * (10 * p + j) + w)))) (LL M) (up h 50 0 0)) := fun w w0 w1 => by
    have z := m_of (M := M) M0 C0 (isPc_0.mpr hp) (isPa_0.mpr hk) (w := w) ⟨w0, w1⟩
    rw [up_cell (by decide)] at z
    exact z
  have ez := hM.2.2.2.2.2.1 p j p0.1 p0.2 k0.1 k0.2
  rw [rd_in (by omega) (by omega)] at ez
  refine ok_body B_X9_part rfl (fun X hX => ?_)
  have fin : ∀ v, v = (if i = 3 then rd (h 28) 132 (72 + p * 10 + j) else cF (h 26) p j i) → (vaP M h (vI (if i = 3 then rd (h 28) 132 (72 + p * 10 + j) else cF (h 26) p j i))) (.inl (some (vI v))) (LL M) (up h 50 0 0) := fun v e => ⟨by rw [e], rfl, FrM_0, up_same⟩
  refine hX 60 [38] 0 _ _ _ _ _ _ ?_
  refine Ok_mono (fun o' Λ' h' hpost => ?_) (t_isPart (M := M) (p := p) (k := j) T0)
  obtain ⟨rfl, rfl, x9, rfl, hb⟩ := hpost
  rcases hb with ⟨-, rfl⟩ | ⟨hb, -⟩
  case inr => exact absurd ⟨isPc_0.mpr hp, isPa_0.mpr hk⟩ hb
  refine Ok_rt (mayT (by decide) up_same) ?_
  refine And.intro (fun c9 => absurd c9 (by decide)) (fun _ => ?_)
  refine Ok_rt (isIn_t hi) ?_
  refine Ok_rt (mayT (by decide) up_same) ?_
  refine And.intro (fun _ => ?_) (fun c9 => absurd c9 (by decide))
  refine hX 60 [] 38 _ _ _ _ _ _ ?_
  refine And.intro (fun d => ?_) (And.intro (fun d => ?_) (And.intro (fun d => ?_) (And.intro (fun d => ?_) (And.intro (fun d => ?_) (And.intro (fun d => ?_) (And.intro (fun d => ?_) (And.intro (fun d => ?_) (And.intro (fun d => ?_) True.intro))))))))
  · have d : i < 0 ∨ (8 : Int) ≤ i := by simpa using d
    have e : i = 8 := by omega
    refine Ok_rt (of0 7 (by decide) (by decide)) ?_
    exact fin _ (by rw [e, if_neg (by decide)]; exact pm.2.2.2.2)
  · have d : i = 0 := d
    refine Ok_rt (of0 0 (by decide) (by decide)) ?_
    exact fin _ (by rw [d, if_neg (by decide)]; exact pm.1.1)
  · have d : i = 1 := d
    refine Ok_rt (of0 1 (by decide) (by decide)) ?_
    exact fin _ (by rw [d, if_neg (by decide)]; exact pm.1.2.1)
  · have d : i = 2 := d
    refine Ok_rt (of0 2 (by decide) (by decide)) ?_
    exact fin _ (by rw [d, if_neg (by decide)]; exact pm.1.2.2.1)
  · have d : i = 3 := d
    refine And.intro ⟨by omega, by omega⟩ ?_
    refine And.intro ⟨by omega, by omega⟩ ?_
    refine And.intro ⟨by omega, by omega⟩ ?_
    refine And.intro ⟨by omega, by omega⟩ ?_
    exact fin _ (by rw [if_pos d, up_cell (by decide)]; exact ez)
  · have d : i = 4 := d
    refine Ok_rt (of0 3 (by decide) (by decide)) ?_
    exact fin _ (by rw [d, if_neg (by decide)]; exact pm.1.2.2.2)
  · have d : i = 5 := d
    refine Ok_rt (of0 4 (by decide) (by decide)) ?_
    exact fin _ (by rw [d, if_neg (by decide)]; exact pm.2.1)
  · have d : i = 6 := d
    refine Ok_rt (of0 5 (by decide) (by decide)) ?_
    exact fin _ (by rw [d, if_neg (by decide)]; exact pm.2.2.1)
  · have d : i = 7 := d
    refine Ok_rt (of0 6 (by decide) (by decide)) ?_
    exact fin _ (by rw [d, if_neg (by decide)]; exact pm.2.2.2.1)
theorem m_part_x (hC : CI h) (hM : Cpl h) (hx : ¬ (isPc h p ∧ isPa h p j)) : Ok 224 [vR 50, vI p, vI j, vI i] (LL M) h (thP M h 0 1) := by
  have T0 := TbC_0 (v := 0) (TbC_of hC hM)
  have fin : ∀ e h', h' = up (up h 50 0 0) 50 0 e → FrM h h' ∧ h' 50 0 = e := fun e h' q => by rw [q, up_up]; exact ⟨FrM_0, up_same⟩
  refine ok_body B_X9_part rfl (fun X hX => ?_)
  refine hX 60 [38] 0 _ _ _ _ _ _ ?_
  refine Ok_mono (fun o' Λ' h' hpost => ?_) (t_isPart (M := M) (p := p) (k := j) T0)
  obtain ⟨rfl, rfl, x9, rfl, hb⟩ := hpost
  rcases hb with ⟨hb, -⟩ | ⟨-, rfl⟩
  case inl => exact absurd hb (fun q => hx ⟨isPc_0.mp q.1, isPa_0.mp q.2⟩)
  refine Ok_rt (mayF (by decide) up_same) ?_
  refine And.intro (fun _ => ?_) (fun c9 => absurd rfl c9)
  exact ⟨rfl, rfl, fin _ _ rfl⟩
theorem m_part_y (hC : CI h) (hM : Cpl h) (hp : isPc h p) (hk : isPa h p j) (hi : ¬ (0 ≤ i ∧ i ≤ 8)) : Ok 224 [vR 50, vI p, vI j, vI i] (LL M) h (thP M h 0 2) := by
  have T0 := TbC_0 (v := 0) (TbC_of hC hM)
  have fin : ∀ e h', h' = up (up h 50 0 0) 50 0 e → FrM h h' ∧ h' 50 0 = e := fun e h' q => by rw [q, up_up]; exact ⟨FrM_0, up_same⟩
  refine ok_body B_X9_part rfl (fun X hX => ?_)
  refine hX 60 [38] 0 _ _ _ _ _ _ ?_
  refine Ok_mono (fun o' Λ' h' hpost => ?_) (t_isPart (M := M) (p := p) (k := j) T0)
  obtain ⟨rfl, rfl, x9, rfl, hb⟩ := hpost
  rcases hb with ⟨-, rfl⟩ | ⟨hb, -⟩
  case inr => exact absurd ⟨isPc_0.mpr hp, isPa_0.mpr hk⟩ hb
  refine Ok_rt (mayT (by decide) up_same) ?_
  refine And.intro (fun c9 => absurd c9 (by decide)) (fun _ => ?_)
  refine Ok_rt (isIn_f hi) ?_
  refine Ok_rt (mayF (by decide) up_same) ?_
  refine And.intro (fun c9 => absurd rfl c9) (fun _ => ?_)
  exact ⟨rfl, rfl, fin _ _ rfl⟩
theorem m_parts (hC : CI h) (hM : Cpl h) (hp : isPc h p) : Ok 225 [vR 50, vI p] (LL M) h (vaP M h (vI (rd (h 25) 6 p))) := by
  have T0 := TbC_0 (v := 0) (TbC_of hC hM)
  have b3 := hC.1.2.2.2.1
  have p0 : 0 ≤ p ∧ p < 6 := ⟨hp.1, by have := hp.2; omega⟩
  have pq := (hM.2.2.1 p hp.1 hp.2).1
  rw [rd_in p0.1 (by omega)] at pq
  have t54 : up h 50 0 0 54 p.toNat = rd (h 25) 6 p := by rw [up_cell (by decide)]; exact pq
  refine ok_body B_X9_parts rfl (fun X hX => ?_)
  refine hX 60 [] 0 _ _ _ _ _ _ ?_
  refine Ok_mono (fun o' Λ' h' hpost => ?_) (t_isPiece (M := M) (i := p) T0)
  obtain ⟨rfl, rfl, x9, rfl, hb⟩ := hpost
  rcases hb with ⟨-, rfl⟩ | ⟨hb, -⟩
  case inr => exact absurd (isPc_0.mpr hp) hb
  refine Ok_rt (mayT (by decide) up_same) ?_
  refine And.intro (fun c9 => absurd c9 (by decide)) (fun _ => ?_)
  refine And.intro ⟨by omega, by omega⟩ ?_
  rw [t54]
  exact ⟨rfl, rfl, FrM_0, up_same⟩
theorem m_parts_x (hC : CI h) (hM : Cpl h) (hp : ¬ isPc h p) : Ok 225 [vR 50, vI p] (LL M) h (thP M h 0 1) := by
  have T0 := TbC_0 (v := 0) (TbC_of hC hM)
  have fin : ∀ e h', h' = up (up h 50 0 0) 50 0 e → FrM h h' ∧ h' 50 0 = e := fun e h' q => by rw [q, up_up]; exact ⟨FrM_0, up_same⟩
  refine ok_body B_X9_parts rfl (fun X hX => ?_)
  refine hX 60 [] 0 _ _ _ _ _ _ ?_
  refine Ok_mono (fun o' Λ' h' hpost => ?_) (t_isPiece (M := M) (i := p) T0)
  obtain ⟨rfl, rfl, x9, rfl, hb⟩ := hpost
  rcases hb with ⟨hb, -⟩ | ⟨-, rfl⟩
  case inl => exact absurd hb (fun q => hp (isPc_0.mp q))
  refine Ok_rt (mayF (by decide) up_same) ?_
  refine And.intro (fun _ => ?_) (fun c9 => absurd rfl c9)
  exact ⟨rfl, rfl, fin _ _ rfl⟩
theorem m_count (hM : Cpl h) (hu : h 50 15 = h 1 10) (hi : 0 ≤ i ∧ i ≤ 8) : Ok 212 [vR 50, vI i] (LL M) h (vaP M h (vI (cntF h i))) := by
  have S := hM.2.2.2.1
  have s0 : h 57 0 = rd (h 28) 132 0 := by have e := S.1; rw [rd_in (by decide) (by decide)] at e; exact e
  have s1 : h 57 1 = rd (h 28) 132 1 := by have e := S.2.1; rw [rd_in (by decide) (by decide)] at e; exact e
  have s2 : h 57 2 = rd (h 28) 132 2 := by have e := S.2.2.1; rw [rd_in (by decide) (by decide)] at e; exact e
  have s3 : h 57 3 = rd (h 28) 132 3 := by have e := S.2.2.2; rw [rd_in (by decide) (by decide)] at e; exact e
  refine ok_body B_X9_count rfl (fun X hX => ?_)
  have fin : ∀ v, v = cntF h i → (vaP M h (vI (cntF h i))) (.inl (some (vI v))) (LL M) (up h 50 0 0) := fun v e => ⟨by rw [e], rfl, FrM_0, up_same⟩
  have row : ∀ q, up h 50 0 0 57 q = h 57 q := fun q => by rw [up_cell (by decide)]
  have fld : ∀ q, q ≠ 0 → up h 50 0 0 50 q = h 50 q := fun q hq => up_ne hq
  refine hX 60 [24] 0 _ _ _ _ _ _ ?_
  refine Ok_rt (isIn_t hi) ?_
  refine Ok_rt (mayT (by decide) up_same) ?_
  refine And.intro (fun _ => ?_) (fun c9 => absurd c9 (by decide))
  refine hX 60 [] 24 _ _ _ _ _ _ ?_
  refine And.intro (fun d => ?_) (And.intro (fun d => ?_) (And.intro (fun d => ?_) (And.intro (fun d => ?_) (And.intro (fun d => ?_) (And.intro (fun d => ?_) (And.intro (fun d => ?_) (And.intro (fun d => ?_) (And.intro (fun d => ?_) True.intro))))))))
  · have d : i < 0 ∨ (8 : Int) ≤ i := by simpa using d
    have e : i = 8 := by omega
    exact fin _ ((fld 15 (by decide)).trans (by rw [hu, e]; rfl))
  · have d : i = 0 := d
    exact fin _ ((fld 1 (by decide)).trans (by rw [hM.1.1, d]; rfl))
  · have d : i = 1 := d
    exact fin _ ((fld 2 (by decide)).trans (by rw [hM.1.2.1, d]; rfl))
  · have d : i = 2 := d
    exact fin _ ((fld 3 (by decide)).trans (by rw [hM.1.2.2.1, d]; rfl))
  · have d : i = 3 := d
    exact fin _ ((fld 4 (by decide)).trans (by rw [hM.1.2.2.2, d]; rfl))
  · have d : i = 4 := d
    refine And.intro ⟨by omega, by omega⟩ ?_
    exact fin _ ((row 3).trans (by rw [s3, d]; rfl))
  · have d : i = 5 := d
    refine And.intro ⟨by omega, by omega⟩ ?_
    exact fin _ ((row 0).trans (by rw [s0, d]; rfl))
  · have d : i = 6 := d
    refine And.intro ⟨by omega, by omega⟩ ?_
    exact fin _ ((row 1).trans (by rw [s1, d]; rfl))
  · have d : i = 7 := d
    refine And.intro ⟨by omega, by omega⟩ ?_
    exact fin _ ((row 2).trans (by rw [s2, d]; rfl))
theorem m_count_x (hi : ¬ (0 ≤ i ∧ i ≤ 8)) : Ok 212 [vR 50, vI i] (LL M) h (thP M h 0 1) := by
  have fin : ∀ e h', h' = up (up h 50 0 0) 50 0 e → FrM h h' ∧ h' 50 0 = e := fun e h' q => by rw [q, up_up]; exact ⟨FrM_0, up_same⟩
  refine ok_body B_X9_count rfl (fun X hX => ?_)
  refine hX 60 [24] 0 _ _ _ _ _ _ ?_
  refine Ok_rt (isIn_f hi) ?_
  refine Ok_rt (mayF (by decide) up_same) ?_
  refine And.intro (fun c9 => absurd rfl c9) (fun _ => ?_)
  exact ⟨rfl, rfl, fin _ _ rfl⟩
theorem m_lot (hC : CI h) (hM : Cpl h) (hl : isLt h j) (hi : 0 ≤ i ∧ i ≤ 1) : Ok 249 [vR 50, vI j, vI i] (LL M) h (vaP M h (vI (if i = 0 then rd (h 28) 132 (4 + j) else rd (h 28) 132 (14 + j)))) := by
  have S := hM.2.2.2
  have s3 : h 57 3 = rd (h 28) 132 3 := by have e := S.1.2.2.2; rw [rd_in (by decide) (by decide)] at e; exact e
  have l3 := hC.2.2.2.2.1
  have j0 := hl.1
  have j1 := hl.2
  have x := S.2.2.2 j hl.1 hl.2
  rw [rd_in (by omega) (by omega), rd_in (show 0 ≤ 112 + 2 * j + 1 by omega) (by omega)] at x
  have t3 : up h 50 0 0 57 (3 : Int).toNat = rd (h 28) 132 3 := by rw [up_cell (by decide)]; exact s3
  refine ok_body B_X9_lot rfl (fun X hX => ?_)
  refine hX 60 [45] 0 _ _ _ _ _ _ ?_
  refine And.intro ⟨by omega, by omega⟩ ?_
  rw [t3]
  refine And.intro ⟨by omega, by omega⟩ ?_
  refine Ok_rt (isIn_t ⟨j0, by omega⟩) ?_
  refine Ok_rt (mayT (by decide) up_same) ?_
  refine And.intro (fun c9 => absurd c9 (by decide)) (fun _ => ?_)
  refine Ok_rt (isIn_t hi) ?_
  refine Ok_rt (mayT (by decide) up_same) ?_
  refine And.intro (fun _ => ?_) (fun c9 => absurd c9 (by decide))
  refine hX 60 [] 45 _ _ _ _ _ _ ?_
  refine And.intro ⟨by omega, by omega⟩ ?_
  refine And.intro ⟨by omega, by omega⟩ ?_
  refine And.intro ⟨by omega, by omega⟩ ?_
  refine And.intro ⟨by omega, by omega⟩ ?_
  refine ⟨congrArg (fun z => Sum.inl (some (vI z))) ?_, rfl, FrM_0, up_same⟩
  show up h 50 0 0 57 (112 + 2 * j + i).toNat = _
  rw [up_cell (by decide)]
  by_cases z : i = 0
  · rw [if_pos z, z, Int.add_zero]; exact x.1
  · rw [if_neg z, show i = 1 by omega]; exact x.2
theorem m_lot_x (hC : CI h) (hM : Cpl h) (hl : ¬ isLt h j) : Ok 249 [vR 50, vI j, vI i] (LL M) h (thP M h 0 1) := by
  have s3 : h 57 3 = rd (h 28) 132 3 := by have e := hM.2.2.2.1.2.2.2; rw [rd_in (by decide) (by decide)] at e; exact e
  have l3 := hC.2.2.2.2.1
  have t3 : up h 50 0 0 57 (3 : Int).toNat = rd (h 28) 132 3 := by rw [up_cell (by decide)]; exact s3
  have fin : ∀ e h', h' = up (up h 50 0 0) 50 0 e → FrM h h' ∧ h' 50 0 = e := fun e h' q => by rw [q, up_up]; exact ⟨FrM_0, up_same⟩
  refine ok_body B_X9_lot rfl (fun X hX => ?_)
  refine hX 60 [45] 0 _ _ _ _ _ _ ?_
  refine And.intro ⟨by omega, by omega⟩ ?_
  rw [t3]
  refine And.intro ⟨by omega, by omega⟩ ?_
  refine Ok_rt (isIn_f (fun q => hl ⟨q.1, by omega⟩)) ?_
  refine Ok_rt (mayF (by decide) up_same) ?_
  refine And.intro (fun _ => ?_) (fun c9 => absurd rfl c9)
  exact ⟨rfl, rfl, fin _ _ rfl⟩
theorem m_lot_y (hC : CI h) (hM : Cpl h) (hl : isLt h j) (hi : ¬ (0 ≤ i ∧ i ≤ 1)) : Ok 249 [vR 50, vI j, vI i] (LL M) h (thP M h 0 2) := by
  have s3 : h 57 3 = rd (h 28) 132 3 := by have e := hM.2.2.2.1.2.2.2; rw [rd_in (by decide) (by decide)] at e; exact e
  have l3 := hC.2.2.2.2.1
  have j0 := hl.1
  have j1 := hl.2
  have t3 : up h 50 0 0 57 (3 : Int).toNat = rd (h 28) 132 3 := by rw [up_cell (by decide)]; exact s3
  have fin : ∀ e h', h' = up (up h 50 0 0) 50 0 e → FrM h h' ∧ h' 50 0 = e := fun e h' q => by rw [q, up_up]; exact ⟨FrM_0, up_same⟩
  refine ok_body B_X9_lot rfl (fun X hX => ?_)
  refine hX 60 [45] 0 _ _ _ _ _ _ ?_
  refine And.intro ⟨by omega, by omega⟩ ?_
  rw [t3]
  refine And.intro ⟨by omega, by omega⟩ ?_
  refine Ok_rt (isIn_t ⟨j0, by omega⟩) ?_
  refine Ok_rt (mayT (by decide) up_same) ?_
  refine And.intro (fun c9 => absurd c9 (by decide)) (fun _ => ?_)
  refine Ok_rt (isIn_f hi) ?_
  refine Ok_rt (mayF (by decide) up_same) ?_
  refine And.intro (fun c9 => absurd rfl c9) (fun _ => ?_)
  exact ⟨rfl, rfl, fin _ _ rfl⟩
end MQ4
