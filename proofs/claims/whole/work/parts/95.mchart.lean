/-! ===== the model: a row of a chart ===== -/
theorem cr_er {v : HP} {i j : Int} (z : v 4 10 ≠ 0) : crH v i j = v := by
  have a : crA v j = v := by unfold crA; rw [fail_er z, fail_er z]
  have b : crB v i j = v := by unfold crB; rw [a, fail_er z]
  unfold crH crC
  rw [b, if_neg z, pass_er z]
theorem crB_eq {v : HP} {i j : Int} (e : crB v i j 4 10 = 0) : v 4 10 = 0 ∧ icV v ≠ 0 ∧ j < 8 ∧ crA v j = v ∧ crB v i j = v ∧ ¬ (0 < j ∧ tkT v ≠ rdA v 10 32 (i * 8 + (j - 1))) := by
  have s1 := fail_same (h := crA v j) (c := 6) (by decide) e
  have f1 := fail_10 (h := crA v j) (c := 6) (by decide) e
  have s2 := fail_same (h := failH v (if icV v = 0 then 1 else 0) 1) (c := 5) (by decide) f1.1
  have f2 := fail_10 (h := failH v (if icV v = 0 then 1 else 0) 1) (c := 5) (by decide) f1.1
  have s3 := fail_same (h := v) (c := 1) (by decide) f2.1
  have f3 := fail_10 (h := v) (c := 1) (by decide) f2.1
  have eA : crA v j = v := s2.trans s3
  have eB : crB v i j = v := s1.trans eA
  have g1 := f1.2
  unfold crT at g1
  rw [eA] at g1
  refine ⟨f3.1, fun y => ?_, ?_, eA, eB, fun y => ?_⟩
  · have := f3.2
    rw [if_pos y] at this
    exact absurd this (by decide)
  · by_cases y : 8 ≤ j
    · have := f2.2
      rw [if_pos y] at this
      exact absurd this (by decide)
    · omega
  · rw [if_pos y] at g1
    exact absurd g1 (by decide)
theorem cr_eq {v : HP} {i j : Int} (e : crH v i j 4 10 = 0) : crB v i j 4 10 = 0 ∧ crH v i j = passH (addRowH v 5 i (tkT v) (enH v - v 4 8)) := by
  have e4 : crC v i j 4 = crB v i j 4 := by
    unfold crC
    split
    · exact addRow_cell (by decide) (by decide) (by decide)
    · rfl
  have z : crB v i j 4 10 = 0 := by
    unfold crH at e
    rw [pass_10, e4] at e
    exact e
  have q := crB_eq z
  refine ⟨z, ?_⟩
  unfold crH crC
  rw [if_pos z]
  unfold crT crM
  rw [q.2.2.2.1, q.2.2.2.2.1]
theorem icA_all {v : HP} : ∀ (m : Nat) (i : Int), icA v m i ≠ 0 → ∀ q, i ≤ q → q < i + (m : Int) → tkV (txB v q) ≠ -1
  | 0, i, _, q, h0, h1 => by omega
  | m + 1, i, H, q, h0, h1 => by
    unfold icA at H
    split at H
    · exact absurd rfl H
    · next z =>
      by_cases y : q = i
      · rw [y]; exact z
      · exact icA_all m (i + 1) H q (by omega) (by omega)
theorem icA_01 {v : HP} : ∀ (m : Nat) (i : Int), icA v m i = 0 ∨ icA v m i = 1
  | 0, _ => Or.inr rfl
  | m + 1, i => by
    unfold icA
    split
    · exact Or.inl rfl
    · exact icA_01 m (i + 1)
theorem tkS_bd {v : HP} : ∀ (m : Nat) (i a : Int), (∀ q, i ≤ q → q < i + (m : Int) → tkV (txB v q) ≠ -1) → a ≤ tkS v m i a ∧ tkS v m i a ≤ a + 3 * (m : Int)
  | 0, i, a, _ => by
    unfold tkS
    omega
  | m + 1, i, a, H => by
    have b := tkV_bd (x := txB v i)
    have n := H i (by omega) (by omega)
    have ih := tkS_bd (v := v) m (i + 1) (a + tkV (txB v i)) (fun q h0 h1 => H q (by omega) (by omega))
    unfold tkS
    omega
theorem ic_sp {v : HP} (e : icV v ≠ 0) : 4 ≤ v 4 9 ∧ enH v - v 4 8 ≤ 12 ∧ ∀ q, v 4 8 ≤ q → q < enH v → tkV (txB v q) ≠ -1 := by
  unfold icV at e
  split at e
  · exact absurd rfl e
  · split at e
    · exact absurd rfl e
    · exact ⟨by omega, by omega, fun q h0 h1 => icA_all _ _ e q h0 (by omega)⟩
/-- a chart of both -/
def ChOne (v g : HP) (c : Int) : Prop := (rd (g 62) 4 c = rd (v 8) 4 c ∧ ∀ r, 0 ≤ r → r < rd (v 8) 4 c → rd (g 63) 32 (8 * c + r) = rd (v 9) 32 (c * 8 + r) ∧ rd (g 64) 32 (8 * c + r) = rd (v 10) 32 (c * 8 + r)) ∧ ChOK (v 8) (v 9) (v 10) c
/-- the rows of a chart that is read -/
def ChP (v g : HP) (i n : Int) : Prop := rd (v 8) 4 i = n ∧ ∀ r, 0 ≤ r → r < n → (rd (g 63) 32 (8 * i + r) = rd (v 9) 32 (i * 8 + r) ∧ rd (g 64) 32 (8 * i + r) = rd (v 10) 32 (i * 8 + r)) ∧ (0 ≤ rd (v 9) 32 (i * 8 + r) ∧ rd (v 9) 32 (i * 8 + r) ≤ 36) ∧ 1 ≤ rd (v 10) 32 (i * 8 + r) ∧ rd (v 10) 32 (i * 8 + r) ≤ 12
/-- the cells of the charts behind a row more -/
theorem row_cells {v : HP} {i x y n : Int} (hn : rd (v 8) 4 i = n) : (∀ q, rd (passH (addRowH v 5 i x y) 8) 4 q = if 0 ≤ i ∧ i < 4 ∧ q = i then n + 1 else rd (v 8) 4 q) ∧ (∀ q, rd (passH (addRowH v 5 i x y) 9) 32 q = if 0 ≤ i * 8 + n ∧ i * 8 + n < 32 ∧ q = i * 8 + n then x else rd (v 9) 32 q) ∧
    ∀ q, rd (passH (addRowH v 5 i x y) 10) 32 q = if 0 ≤ i * 8 + n ∧ i * 8 + n < 32 ∧ q = i * 8 + n then y else rd (v 10) 32 q := by
  have en : rdA v 8 4 i = n := hn
  have ed : addRowH v 5 i x y = wrA (wrA (wrA v 9 32 (i * 8 + n) x) 10 32 (i * 8 + n) y) 8 4 i (n + 1) := by
    unfold addRowH
    rw [show rdA v (5 + 3) 4 i = n from en]
  refine ⟨fun q => ?_, fun q => ?_, fun q => ?_⟩
  · rw [passH_cell (by decide), ed, rd_w, wrA_cell (by decide), wrA_cell (by decide)]
    rfl
  · rw [passH_cell (by decide), ed, wrA_cell (by decide), wrA_cell (by decide), rd_w]
    rfl
  · rw [passH_cell (by decide), ed, wrA_cell (by decide), rd_w, wrA_cell (by decide)]
    rfl
/-- nothing but what the reading is at, and the rows of charts, has changed -/
def FrR (g g' : HP) : Prop := (∀ c, c ≠ 50 → c ≠ 63 → c ≠ 64 → g' c = g c) ∧ ∀ q, (q < 19 ∨ 24 < q) → g' 50 q = g 50 q
theorem FrR_T {g g' : HP} (H : FrT g g') : FrR g g' := ⟨fun c h _ _ => H.1 c h, H.2⟩
theorem FrS_R {g g' : HP} (H : FrR g g') : FrS g g' := ⟨fun c h k => H.1 c h (by omega) (by omega), H.2⟩
section MCHART
variable {M : List CT} {T : Nat} {v g : HP} {i k x : Int}
theorem m_takenBy {Λ : List CT} (h : tkV x ≠ -1) : Ok 199 [vI x] Λ g (rt (some (vI (tkV x))) Λ g) := by
  refine ok_body B_X9_takenBy rfl (fun X hX => ?_)
  have fin : ∀ y, y = tkV x → X 31 [vI x] [vI y] Λ g 0 0 := by
    intro y hy
    refine hX 10 [] 31 _ _ _ _ _ _ ?_
    exact rt_mk (by rw [hy]) rfl
  refine hX 30 [31] 0 _ _ _ _ _ _ ?_
  refine And.intro (fun c => ?_) (fun c => ?_)
  · have c : x ≠ 121 := c
    refine And.intro (fun d => ?_) (fun d => ?_)
    · have d : x ≠ 116 := d
      refine And.intro (fun e => ?_) (fun e => ?_)
      · have e : x ≠ 115 := e
        refine fin _ ?_
        unfold tkV at h ⊢
        rw [if_neg e, if_neg d, if_neg c] at h ⊢
        split
        · rfl
        · next z =>
          rw [if_neg z] at h
          exact absurd rfl h
      · have e : x = 115 := e
        exact fin _ (by rw [e]; rfl)
    · have d : x = 116 := d
      exact fin _ (by rw [d]; rfl)
  · have c : x = 121 := c
    exact fin _ (by rw [c]; rfl)
theorem tkV_no : tkV x ≠ -1 ↔ x = 107 ∨ x = 112 ∨ x = 121 ∨ x = 116 ∨ x = 115 := by
  unfold tkV
  constructor
  · intro h
    split at h
    · omega
    · split at h
      · omega
      · split at h
        · omega
        · split at h
          · omega
          · exact absurd rfl h
  · rintro (rfl | rfl | rfl | rfl | rfl) <;> decide
theorem m_isChartRow (H : SR T v g) : Ok 198 [vR 50] (LL M) g (fun o Λ' g' => Λ' = LL M ∧ g' = g ∧ ∃ x, o = .inl (some (vI x)) ∧ bI x (icV v ≠ 0)) := by
  refine ok_body B_X9_isChartRow rfl (fun X hX => ?_)
  have no : ∀ (j1 j2 : PV), icV v = 0 → X 29 [vR 50, j1, j2] [] (LL M) g 0 0 := by
    intro j1 j2 hn
    refine hX 10 [] 29 _ _ _ _ _ _ ?_
    exact And.intro ⟨by decide, by decide⟩ ⟨rfl, rfl, 0, rfl, Or.inr ⟨fun y => y hn, rfl⟩⟩
  refine hX 30 [7, 29] 0 _ _ _ _ _ _ ?_
  refine Ok_rt (m_isWrong H) ?_
  by_cases z : v 4 10 = 0
  · rw [if_pos z]
    refine And.intro (fun y => absurd rfl y) (fun _ => ?_)
    have O := SR_ok H z
    have at0 := OKR_at O H.1.2
    have kd := OKR_kd O H.1.2
    have e21 := O.2.2.2.1.2.2.1
    have e20 := O.2.2.2.1.1
    have e19 := O.2.2.2.1.2.1
    refine hX 30 [29, 31] 7 _ _ _ _ _ _ ?_
    refine And.intro (fun c => ?_) (fun c => ?_)
    · have c : g 50 21 ≠ 1 := c
      refine no _ _ ?_
      have : ¬ (4 ≤ v 4 9) := fun y => c (by rw [e21]; exact (srt_1 kd).mpr y)
      unfold icV
      rw [if_pos (by omega)]
    · have c : g 50 21 = 1 := c
      rw [e21] at c
      have k4 := (srt_1 kd).mp c
      refine And.intro (show inR (g 50 19 - g 50 20) from ⟨by omega, by omega⟩) ?_
      refine And.intro (fun d => ?_) (fun d => ?_)
      · have d : g 50 19 - g 50 20 ≤ 12 := d
        have eI : icV v = icA v (enH v - v 4 8).toNat (v 4 8) := by
          unfold icV
          rw [if_neg (by omega), if_neg (by omega)]
        have loop : ∀ (m : Nat) (q : Int) (j2 : PV), enH v - q = (m : Int) → v 4 8 ≤ q → icV v = icA v m q → X 36 [vR 50, vI q, j2] [] (LL M) g 0 0 := by
          intro m
          induction m with
          | zero =>
            intro q j2 hq q0 hv
            refine hX 30 [88] 36 _ _ _ _ _ _ ?_
            refine And.intro (fun _ => ?_) (fun y => absurd (show q < g 50 19 from y) (by omega))
            refine hX 10 [] 88 _ _ _ _ _ _ ?_
            have hv : icV v = 1 := hv
            exact And.intro ⟨by decide, by decide⟩ ⟨rfl, rfl, 1, rfl, Or.inl ⟨by rw [hv]; decide, rfl⟩⟩
          | succ m ih =>
            intro q j2 hq q0 hv
            have st : icA v (m + 1) q = if tkV (txB v q) = -1 then 0 else icA v m (q + 1) := rfl
            rw [st] at hv
            have yes : tkV (txB v q) ≠ -1 → X 82 [vR 50, vI q, vI (txB v q)] [] (LL M) g 0 0 := by
              intro y
              rw [if_neg y] at hv
              refine hX 30 [36] 82 _ _ _ _ _ _ ?_
              refine And.intro ⟨by omega, by omega⟩ ?_
              exact ih (q + 1) _ (by omega) (by omega) hv
            refine hX 30 [50, 88] 36 _ _ _ _ _ _ ?_
            refine And.intro (fun y => absurd (show g 50 19 ≤ q from y) (by omega)) (fun _ => ?_)
            refine Ok_rt (m_bt O.2.2.2.2 (show 0 ≤ q by omega)) ?_
            rw [show btV v q = txB v q from if_pos (by omega)]
            show X 50 [_, _, vI (txB v q)] _ _ _ _ _
            refine hX 30 [82] 50 _ _ _ _ _ _ ?_
            refine And.intro (fun c1 => yes (tkV_no.mpr (Or.inl c1))) (fun c1 => ?_)
            refine And.intro (fun c2 => yes (tkV_no.mpr (Or.inr (Or.inl c2)))) (fun c2 => ?_)
            refine And.intro (fun c3 => yes (tkV_no.mpr (Or.inr (Or.inr (Or.inl c3))))) (fun c3 => ?_)
            refine And.intro (fun c4 => yes (tkV_no.mpr (Or.inr (Or.inr (Or.inr (Or.inl c4)))))) (fun c4 => ?_)
            refine And.intro (fun c5 => yes (tkV_no.mpr (Or.inr (Or.inr (Or.inr (Or.inr c5)))))) (fun c5 => ?_)
            have y : tkV (txB v q) = -1 := by
              by_cases w : tkV (txB v q) = -1
              · exact w
              · rcases tkV_no.mp w with u | u | u | u | u
                · exact absurd u c1
                · exact absurd u c2
                · exact absurd u c3
                · exact absurd u c4
                · exact absurd u c5
            rw [if_pos y] at hv
            exact And.intro ⟨by decide, by decide⟩ ⟨rfl, rfl, 0, rfl, Or.inr ⟨fun u => u hv, rfl⟩⟩
        refine hX 30 [36] 31 _ _ _ _ _ _ ?_
        show X 36 [_, vI (g 50 20), _] _ _ _ _ _
        rw [e20]
        exact loop (enH v - v 4 8).toNat (v 4 8) _ (by omega) (by omega) eI
      · have d : 12 < g 50 19 - g 50 20 := d
        refine no _ _ ?_
        unfold icV
        rw [if_neg (by omega), if_pos (by omega)]
  · rw [if_neg z]
    refine And.intro (fun _ => ?_) (fun y => absurd y (by decide))
    refine no _ _ ?_
    unfold icV
    rw [if_pos (by rw [SR_k1 H z]; decide)]
theorem mr_chartRow {i n : Nat} (H : SR T v g) (z : v 4 10 = 0) (hi : i < 4) (b27 : g 50 27 = (i : Int)) (hn : n ≤ 8) (P : ChP v g (i : Int) (n : Int)) : Ok 200 [vR 50, vI (n : Int)] (LL M) g (fun o Λ' g' => o = .inl none ∧ Λ' = LL M ∧ FrR g g' ∧ SR T (crH v (i : Int) (n : Int)) g' ∧ (crH v (i : Int) (n : Int) 4 10 = 0 → n < 8 ∧ ChP (crH v (i : Int) (n : Int)) g' (i : Int) ((n : Int) + 1) ∧ ∀ c, 0 ≤ c → c < (i : Int) → ChOne v g c → ChOne (crH v (i : Int) (n : Int)) g' c)) := by
  have O := SR_ok H z
  have at0 := OKR_at O H.1.2
  have e20 := O.2.2.2.1.1
  have e19 := O.2.2.2.1.2.1
  refine ok_body B_X9_chartRow rfl (fun X hX => ?_)
  /- wrong already -/
  have bad : ∀ (w g1 : HP) (j2 j3 : PV), SR T w g1 → FrT g g1 → w 4 10 ≠ 0 → crH v (i : Int) (n : Int) = w → X 23 [vR 50, vI (n : Int), j2, j3] [] (LL M) g1 0 0 := by
    intro w g1 j2 j3 S1 F1 z1 ew
    refine hX 30 [] 23 _ _ _ _ _ _ ?_
    refine Ok_rt (m_isWrong S1) ?_
    rw [if_neg z1]
    refine And.intro (fun y => absurd y (by decide)) (fun _ => ?_)
    exact ⟨rfl, rfl, FrR_T F1, by rw [ew]; exact S1, fun y => absurd y (by rw [ew]; exact z1)⟩
  have er2 : ∀ (w : HP), w 4 10 ≠ 0 → crA v (n : Int) = w → crH v (i : Int) (n : Int) = w := by
    intro w z1 ew
    have b : crB v (i : Int) (n : Int) = w := by unfold crB; rw [ew, fail_er z1]
    unfold crH crC
    rw [b, if_neg z1, pass_er z1]
  refine hX 30 [7, 12] 0 _ _ _ _ _ _ ?_
  refine Ok_mono (fun o' Λ' h2 hp => ?_) (m_isChartRow H)
  obtain ⟨e1, e2, x, e3, hb⟩ := hp
  subst e1
  rw [e2, e3]
  rcases hb with ⟨ic, rfl⟩ | ⟨ic, rfl⟩
  · refine And.intro (fun _ => ?_) (fun y => absurd y (by decide))
    have sp := ic_sp ic
    have L := OKR_let O H.1.2 sp.1
    refine hX 30 [23] 12 _ _ _ _ _ _ ?_
    refine And.intro (fun c => ?_) (fun c => ?_)
    · have c : (n : Int) ≠ 8 := c
      have eA : crA v (n : Int) = v := by unfold crA; rw [if_neg ic, fail_0, if_neg (by omega), fail_0]
      have tb := tkS_bd (v := v) (enH v - v 4 8).toNat (v 4 8) 0 (fun q h0 h1 => sp.2.2 q h0 (by omega))
      have tb : 0 ≤ tkT v ∧ tkT v ≤ 36 := by unfold tkT; omega
      refine hX 30 [31] 23 _ _ _ _ _ _ ?_
      refine Ok_rt (m_isWrong H) ?_
      rw [if_pos z]
      refine And.intro (fun _ => ?_) (fun y => absurd rfl y)
      /- the row is told -/
      have at95 : ∀ (w g1 : HP), SR T w g1 → FrT g g1 → (w 4 10 = 0 → w = v ∧ crB v (i : Int) (n : Int) = v) → (w 4 10 ≠ 0 → crH v (i : Int) (n : Int) = w) → g1 50 19 = enH v → g1 50 20 = v 4 8 → X 95 [vR 50, vI (n : Int), vI (tkT v), vI (8 * (i : Int) + (n : Int))] [] (LL M) g1 0 0 := by
        intro w g1 S1 F1 hw hw2 f19 f20
        refine hX 30 [] 95 _ _ _ _ _ _ ?_
        refine And.intro (show 0 ≤ 8 * (i : Int) + (n : Int) ∧ 8 * (i : Int) + (n : Int) < 32 from ⟨by omega, by omega⟩) ?_
        refine And.intro (show inR (up g1 63 (8 * (i : Int) + (n : Int)).toNat (tkT v) 50 19 - up g1 63 (8 * (i : Int) + (n : Int)).toNat (tkT v) 50 20) from by rw [up_cell (by decide)]; exact ⟨by omega, by omega⟩) ?_
        refine And.intro (show 0 ≤ 8 * (i : Int) + (n : Int) ∧ 8 * (i : Int) + (n : Int) < 32 from ⟨by omega, by omega⟩) ?_
        obtain ⟨g2, eg⟩ : ∃ g2 : HP, g2 = up (up g1 63 (8 * (i : Int) + (n : Int)).toNat (tkT v)) 64 (8 * (i : Int) + (n : Int)).toNat (up g1 63 (8 * (i : Int) + (n : Int)).toNat (tkT v) 50 19 - up g1 63 (8 * (i : Int) + (n : Int)).toNat (tkT v) 50 20) := ⟨_, rfl⟩
        rw [← eg]
        have S2 : SR T w g2 := by rw [eg]; exact SR_up (SR_up S1 ⟨by decide, by decide⟩) ⟨by decide, by decide⟩
        have F2 : FrR g g2 := by
          rw [eg]
          exact ⟨fun q h0 h1 h2 => by rw [up_cell h2, up_cell h1]; exact F1.1 q h0, fun q hq => by rw [up_cell (by decide), up_cell (by decide)]; exact F1.2 q hq⟩
        refine Ok_rt (m_isWrong S2) ?_
        by_cases z1 : w 4 10 = 0
        · rw [if_pos z1]
          refine And.intro (fun y => absurd rfl y) (fun _ => ?_)
          obtain ⟨rfl, eB⟩ := hw z1
          have O2 := SR_ok S2 z1
          have eH : crH w (i : Int) (n : Int) = passH (addRowH w 5 (i : Int) (tkT w) (enH w - w 4 8)) := by
            unfold crH crC
            rw [eB, if_pos z1]
            unfold crT crM
            rw [eA]
          have S3 : SR T (addRowH w 5 (i : Int) (tkT w) (enH w - w 4 8)) g2 := SR_cls S2 (addRow_cell (by decide) (by decide) (by decide)) (addRow_cell (by decide) (by decide) (by decide)) (addRow_cell (by decide) (by decide) (by decide)) (fun q h0 h1 => addRow_cell (by omega) (by omega) (by omega))
          have z3 : addRowH w 5 (i : Int) (tkT w) (enH w - w 4 8) 4 10 = 0 := by rw [addRow_cell (by decide) (by decide) (by decide)]; exact z1
          have O3 := SR_ok S3 z3
          have at3 := OKR_at O3 S3.1.2
          have k3 : addRowH w 5 (i : Int) (tkT w) (enH w - w 4 8) 4 9 ≠ 1 := by rw [addRow_cell (by decide) (by decide) (by decide)]; omega
          refine Ok_mono (fun o' Λ' g3 hp => ?_) (m_token O3.2.2.2.2 (by rw [O3.2.2.2.1.2.1]; omega) S3.1.1)
          obtain ⟨e1, e2, F3, P3⟩ := hp
          subst e1
          subst e2
          have r63 : ∀ q, rd (g3 63) 32 q = if q = 8 * (i : Int) + (n : Int) then tkT w else rd (g 63) 32 q := fun q => by
            rw [F3.1 63 (by decide), eg, up_cell (by decide), rd_up (by omega), F1.1 63 (by decide), show (((8 * (i : Int) + (n : Int)).toNat : Nat) : Int) = 8 * (i : Int) + (n : Int) by omega]
          have r64 : ∀ q, rd (g3 64) 32 q = if q = 8 * (i : Int) + (n : Int) then enH w - w 4 8 else rd (g 64) 32 q := fun q => by
            rw [F3.1 64 (by decide), eg, up_cell (b := 50) (by decide), f19, f20, rd_up (by omega), up_cell (by decide), F1.1 64 (by decide), show (((8 * (i : Int) + (n : Int)).toNat : Nat) : Int) = 8 * (i : Int) + (n : Int) by omega]
          have r62 : g3 62 = g 62 := (F3.1 62 (by decide)).trans (F2.1 62 (by decide) (by decide) (by decide))
          obtain ⟨c8, c9, c10⟩ := row_cells (v := w) (i := (i : Int)) (x := tkT w) (y := enH w - w 4 8) (n := (n : Int)) P.1
          refine ⟨rfl, rfl, ⟨fun q h0 h1 h2 => (F3.1 q h0).trans (F2.1 q h0 h1 h2), fun q hq => (F3.2 q (by omega)).trans (F2.2 q hq)⟩, ?_, fun _ => ⟨by omega, ?_, fun q q0 q1 hq => ?_⟩⟩
          · rw [eH]
            exact ⟨⟨P3.2.2.2, RT_pass S3.1.2 (fun _ => k3)⟩, Or.inr (OKR_pass O3 S3.1.2 k3 F3 P3)⟩
          · rw [eH]
            refine ⟨by rw [c8, if_pos ⟨by omega, by omega, rfl⟩], fun r r0 r1 => ?_⟩
            rw [c9, c10, r63, r64]
            by_cases y : r = (n : Int)
            · rw [if_pos (show 8 * (i : Int) + r = 8 * (i : Int) + (n : Int) by omega), if_pos ⟨by omega, by omega, by omega⟩, if_pos (show 8 * (i : Int) + r = 8 * (i : Int) + (n : Int) by omega), if_pos ⟨by omega, by omega, by omega⟩]
              exact ⟨⟨rfl, rfl⟩, tb, by omega, by omega⟩
            · rw [if_neg (by omega), if_neg (fun u => by omega), if_neg (by omega), if_neg (fun u => by omega)]
              exact P.2 r r0 (by omega)
          · rw [eH]
            have b8 := hq.2.1
            refine ⟨⟨?_, fun r r0 r1 => ?_⟩, ?_⟩
            · rw [c8, if_neg (fun u => by omega), r62]; exact hq.1.1
            · rw [c8, if_neg (fun u => by omega)] at r1
              rw [c9, c10, r63, r64, if_neg (by omega), if_neg (fun u => by omega), if_neg (by omega), if_neg (fun u => by omega)]
              exact hq.1.2 r r0 r1
            · obtain ⟨-, a, b, c⟩ := hq
              refine ⟨by rw [c8, if_neg (fun u => by omega)]; exact b8, fun r r0 r1 => ?_, ?_⟩
              · rw [c8, if_neg (fun u => by omega)] at r1
                rw [c9, c10, if_neg (fun u => by omega), if_neg (fun u => by omega)]
                exact b r r0 r1
              · rw [c8, if_neg (fun u => by omega), c9, c10, if_neg (fun u => by omega), if_neg (fun u => by omega)]
                exact c
        · rw [if_neg z1]
          refine And.intro (fun _ => ?_) (fun y => absurd y (by decide))
          exact ⟨rfl, rfl, F2, by rw [hw2 z1]; exact S2, fun y => absurd y (by rw [hw2 z1]; exact z1)⟩
      have at63 : ∀ (j3 : PV), X 63 [vR 50, vI (n : Int), vI (tkT v), j3] [] (LL M) g 0 0 := by
        intro j3
        refine hX 30 [73] 63 _ _ _ _ _ _ ?_
        refine And.intro (show inR (8 * g 50 27) from ⟨by omega, by omega⟩) ?_
        refine And.intro (show inR (8 * g 50 27 + (n : Int)) from ⟨by omega, by omega⟩) ?_
        rw [b27]
        show X 73 [_, _, vI (tkT v), vI (8 * (i : Int) + (n : Int))] _ _ _ _ _
        have good : ¬ (0 < (n : Int) ∧ tkT v ≠ rdA v 10 32 ((i : Int) * 8 + ((n : Int) - 1))) → X 95 [vR 50, vI (n : Int), vI (tkT v), vI (8 * (i : Int) + (n : Int))] [] (LL M) g 0 0 := by
          intro y
          have eB : crB v (i : Int) (n : Int) = v := by
            unfold crB crT
            rw [eA, if_neg y, fail_0]
          exact at95 v g H (FrT_rf g) (fun _ => ⟨rfl, eB⟩) (fun w => absurd z w) e19 e20
        refine hX 30 [95] 73 _ _ _ _ _ _ ?_
        refine And.intro (fun c1 => good (fun y => by have c1 : (n : Int) ≤ 0 := c1; omega)) (fun c1 => ?_)
        have c1 : 0 < (n : Int) := c1
        refine And.intro (show inR (8 * (i : Int) + (n : Int) - 1) from ⟨by omega, by omega⟩) ?_
        refine And.intro (show 0 ≤ 8 * (i : Int) + (n : Int) - 1 ∧ 8 * (i : Int) + (n : Int) - 1 < 32 from ⟨by omega, by omega⟩) ?_
        have em : g 64 (8 * (i : Int) + (n : Int) - 1).toNat = rdA v 10 32 ((i : Int) * 8 + ((n : Int) - 1)) := by
          have p := (P.2 ((n : Int) - 1) (by omega) (by omega)).1.2
          rw [rd_in (by omega) (by omega), show (8 * (i : Int) + ((n : Int) - 1)).toNat = (8 * (i : Int) + (n : Int) - 1).toNat by omega] at p
          exact p
        refine And.intro (fun c2 => ?_) (fun c2 => ?_)
        · have c2 : g 64 (8 * (i : Int) + (n : Int) - 1).toNat = tkT v := c2
          exact good (fun y => y.2 (by rw [← em]; exact c2.symm))
        · have c2 : g 64 (8 * (i : Int) + (n : Int) - 1).toNat ≠ tkT v := c2
          have H1 := SR_fails (c := 6) (x := 1) H (by decide) (by decide)
          have z1 : failH v 1 6 4 10 ≠ 0 := fun w => absurd (fail_10 (by decide) w).2 (by decide)
          have eH : crH v (i : Int) (n : Int) = failH v 1 6 := by
            have b : crB v (i : Int) (n : Int) = failH v 1 6 := by
              unfold crB crT
              rw [eA, if_pos ⟨c1, fun y => c2 (by rw [em]; exact y.symm)⟩]
            unfold crH crC
            rw [b, if_neg z1, pass_er z1]
          have f19 : flG g 6 50 19 = enH v := by
            unfold flG
            rw [if_pos O.1.2, up_ne (by decide), up_ne (by decide)]
            exact e19
          have f20 : flG g 6 50 20 = v 4 8 := by
            unfold flG
            rw [if_pos O.1.2, up_ne (by decide), up_ne (by decide)]
            exact e20
          refine Ok_rt (m_fails H) ?_
          exact at95 _ _ H1 flG_fr (fun y => absurd y z1) (fun _ => eH) f19 f20
      have loop : ∀ (m : Nat) (q a : Int), enH v - q = (m : Int) → v 4 8 ≤ q → 0 ≤ a → a ≤ 3 * (q - v 4 8) → tkT v = tkS v m q a → X 38 [vR 50, vI (n : Int), vI a, vI q] [] (LL M) g 0 0 := by
        intro m
        induction m with
        | zero =>
          intro q a hq q0 a0 a1 hv
          have hv : tkT v = a := hv
          refine hX 30 [63] 38 _ _ _ _ _ _ ?_
          refine And.intro (fun _ => ?_) (fun y => absurd (show q < g 50 19 from y) (by omega))
          rw [← hv]
          exact at63 _
        | succ m ih =>
          intro q a hq q0 a0 a1 hv
          have st : tkS v (m + 1) q a = tkS v m (q + 1) (a + tkV (txB v q)) := rfl
          rw [st] at hv
          have tv := tkV_bd (x := txB v q)
          have tn := sp.2.2 q q0 (by omega)
          refine hX 30 [57, 63] 38 _ _ _ _ _ _ ?_
          refine And.intro (fun y => absurd (show g 50 19 ≤ q from y) (by omega)) (fun _ => ?_)
          refine Ok_rt (m_bt O.2.2.2.2 (show 0 ≤ q by omega)) ?_
          rw [show btV v q = txB v q from if_pos (by omega)]
          refine Ok_rt (m_takenBy tn) ?_
          refine And.intro (show inR (a + tkV (txB v q)) from ⟨by omega, by omega⟩) ?_
          show X 57 [_, _, vI (a + tkV (txB v q)), _] _ _ _ _ _
          refine hX 30 [38] 57 _ _ _ _ _ _ ?_
          refine And.intro ⟨by omega, by omega⟩ ?_
          exact ih (q + 1) _ (by omega) (by omega) (by omega) (by omega) hv
      refine hX 30 [33] 31 _ _ _ _ _ _ ?_
      show X 33 [_, _, vI 0, _] _ _ _ _ _
      refine hX 30 [38] 33 _ _ _ _ _ _ ?_
      show X 38 [_, _, _, vI (g 50 20)] _ _ _ _ _
      rw [e20]
      exact loop (enH v - v 4 8).toNat (v 4 8) 0 (by omega) (by omega) (by omega) (by omega) rfl
    · have c : (n : Int) = 8 := c
      have H1 := SR_fails (c := 5) (x := 1) H (by decide) (by decide)
      have z1 : failH v 1 5 4 10 ≠ 0 := fun w => absurd (fail_10 (by decide) w).2 (by decide)
      refine Ok_rt (m_fails H) ?_
      exact bad _ _ _ _ H1 flG_fr z1 (er2 _ z1 (by unfold crA; rw [if_neg ic, fail_0, if_pos (by omega)]))
  · refine And.intro (fun y => absurd rfl y) (fun _ => ?_)
    have i0 : icV v = 0 := by
      by_cases y : icV v = 0
      · exact y
      · exact absurd y ic
    have H1 := SR_fails (c := 1) (x := 1) H (by decide) (by decide)
    have z1 : failH v 1 1 4 10 ≠ 0 := fun w => absurd (fail_10 (by decide) w).2 (by decide)
    have eH := er2 _ z1 (by unfold crA; rw [if_pos i0, fail_er z1])
    refine hX 30 [12] 7 _ _ _ _ _ _ ?_
    refine Ok_rt (m_fails H) ?_
    refine hX 30 [23] 12 _ _ _ _ _ _ ?_
    refine And.intro (fun _ => bad _ _ _ _ H1 flG_fr z1 eH) (fun _ => ?_)
    refine Ok_rt (m_fails H1) ?_
    have H2 := SR_fails (c := 5) (x := 1) H1 (by decide) (by decide)
    rw [fail_er z1] at H2
    exact bad _ _ _ _ H2 (FrT_tr flG_fr flG_fr) z1 eH
end MCHART
