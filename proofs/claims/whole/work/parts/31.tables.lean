/-! ===== KnitGrader: text, tables, charts, parts, lots ===== -/
def isMs (h : HP) (m : Int) : Prop := 0 ≤ m ∧ m < rd (h 21) 4 1
def isCh (h : HP) (c : Int) : Prop := 0 ≤ c ∧ c < rd (h 21) 4 2
def isLt (h : HP) (l : Int) : Prop := 0 ≤ l ∧ l < rd (h 28) 132 3
def grF (f : Int → Int) : Nat → Int → Int
  | 0, _ => 1
  | m + 1, t => if f t < f (t - 1) then 0 else grF f m (t + 1)
/-- the place of the least, of the least so far b at place a -/
def ftF (f : Int → Int) : Nat → Int → Int → Int → Int
  | 0, _, a, _ => a
  | m + 1, t, a, b => if f t < b then ftF f m (t + 1) t (f t) else ftF f m (t + 1) a b
def cntF (h : HP) (i : Int) : Int := if i = 4 then rd (h 28) 132 3 else if i = 5 then rd (h 28) 132 0 else if i = 6 then rd (h 28) 132 1 else if i = 7 then rd (h 28) 132 2 else if i = 8 then h 1 10 else rd (h 21) 4 i
section TABLES
variable {N : List CT} {h : HP} {i j k m s p c r l x a b d e : Int}
theorem ms_ok (hi : -1000 ≤ i ∧ i ≤ 1000) (hj : -1000 ≤ j ∧ j ≤ 1000) : Ok 104 [vR 27, vI i, vI j] (LC N) h (rt (some (vI (cVal (h 28) i j))) (LC N) h) := measured_ok (Or.inr (Or.inl rfl)) hi hj
theorem cl_ok : Ok 102 [vR 27, vI i] (LC N) h (rt (some (vI (rd (h 28) 132 i))) (LC N) h) := cell_ok (Or.inr (Or.inl rfl))
theorem lts_ok : Ok 108 [vR 27] (LC N) h (rt (some (vI (rd (h 28) 132 3))) (LC N) h) := lots_ok (Or.inr (Or.inl rfl))
theorem ltc_ok (hi : -1000 ≤ i ∧ i ≤ 1000) : Ok 109 [vR 27, vI i] (LC N) h (rt (some (vI (rd (h 28) 132 (4 + i)))) (LC N) h) := lotColor_ok (Or.inr (Or.inl rfl)) hi
theorem ltm_ok (hi : -1000 ≤ i ∧ i ≤ 1000) : Ok 110 [vR 27, vI i] (LC N) h (rt (some (vI (rd (h 28) 132 (14 + i)))) (LC N) h) := lotMeters_ok (Or.inr (Or.inl rfl)) hi
theorem crt_ok : Ok 23 [vR 19, vI i] (LC N) h (rt (some (vI (rd (h 22) 4 i))) (LC N) h) := chartRowTotal_ok (Or.inr rfl)
theorem tkn_ok (hi : -1000 ≤ i ∧ i ≤ 1000) (hj : -1000 ≤ j ∧ j ≤ 1000) : Ok 24 [vR 19, vI i, vI j] (LC N) h (rt (some (vI (rd (h 23) 32 (i * 8 + j)))) (LC N) h) := taken_ok (Or.inr rfl) hi hj
theorem mde_ok (hi : -1000 ≤ i ∧ i ≤ 1000) (hj : -1000 ≤ j ∧ j ≤ 1000) : Ok 25 [vR 19, vI i, vI j] (LC N) h (rt (some (vI (rd (h 24) 32 (i * 8 + j)))) (LC N) h) := made_ok (Or.inr rfl) hi hj
theorem fct_ok (hi : -1000 ≤ i ∧ i ≤ 1000) (hj : -1000 ≤ j ∧ j ≤ 1000) (hk : -1000 ≤ k ∧ k ≤ 1000) : Ok 33 [vR 19, vI i, vI j, vI k] (LC N) h (rt (some (vI (cF (h 26) i j k))) (LC N) h) := fact_ok (Or.inr rfl) hi hj hk
theorem ese_ok (hi : -1000 ≤ i ∧ i ≤ 1000) (hj : -1000 ≤ j ∧ j ≤ 1000) : Ok 106 [vR 27, vI i, vI j] (LC N) h (rt (some (vI (rd (h 28) 132 (72 + i * 10 + j)))) (LC N) h) := easeOf_ok (Or.inr (Or.inl rfl)) hi hj
theorem K_value (hC : CI h) (hm : isMs h m) (hs : isSz h s) : Ok 133 [vR 1, vI m, vI s] (LC N) h (rt (some (vI (cVal (h 28) m s))) (LC N) h) := by
  have pb := hC.1
  obtain ⟨b0, b1, b2, b3, -, -⟩ := pb
  refine ok_body B_X8_value rfl (fun X hX => ?_)
  refine hX 60 [] 0 _ _ _ _ _ _ ?_
  refine Ok_rt tot_ok ?_
  refine Ok_rt (ckI_ok hm) ?_
  refine Ok_rt tot_ok ?_
  refine Ok_rt (ckI_ok hs) ?_
  refine Ok_rt (ms_ok ⟨by have := hm.1; omega, by have := hm.2; omega⟩ ⟨by have := hs.1; omega, by have := hs.2; omega⟩) ?_
  exact rt_mk rfl rfl

theorem K_value_x (hx : ¬ (isMs h m ∧ isSz h s)) : Ok 133 [vR 1, vI m, vI s] (LC N) h (ex 2 (LC N) h) := by
  refine ok_body B_X8_value rfl (fun X hX => ?_)
  refine hX 60 [] 0 _ _ _ _ _ _ ?_
  refine Ok_rt tot_ok ?_
  by_cases z : isMs h m
  · refine Ok_rt (ckI_ok z) ?_
    refine Ok_rt tot_ok ?_
    refine Ok_ex (ckI_ex (fun w => hx ⟨z, w⟩)) ?_
    exact ⟨rfl, rfl, rfl⟩
  · refine Ok_ex (ckI_ex z) ?_
    exact ⟨rfl, rfl, rfl⟩

theorem K_isGraded (hC : CI h) (hm : isMs h m) : Ok 134 [vR 1, vI m] (LC N) h (rt (some (vI (grF (fun t => cVal (h 28) m t) (rd (h 21) 4 0 - 1).toNat 1))) (LC N) h) := by
  have pb := hC.1
  obtain ⟨b0, b1, b2, b3, -, -⟩ := pb
  refine ok_body B_X8_isGraded rfl (fun X hX => ?_)
  obtain ⟨ns, hns⟩ : ∃ ns : Nat, rd (h 21) 4 0 = (ns : Int) := ⟨(rd (h 21) 4 0).toNat, by omega⟩
  have hm1 := hm.1
  have hm2 := hm.2
  have loop : ∀ (q : Nat) (t : Int), 1 ≤ t → t + (q : Int) = ns → grF (fun t => cVal (h 28) m t) q t = grF (fun t => cVal (h 28) m t) (rd (h 21) 4 0 - 1).toNat 1 → X 23 [vR 1, vI m, vI (ns : Int), vI t] [] (LC N) h 1 6 := by
    intro q
    induction q with
    | zero =>
      intro t h1 h2 he
      refine hX 8 [] 23 _ _ _ _ _ _ ?_
      refine And.intro (fun c25 => ?_) (fun c25 => absurd c25 (by omega))
      exact And.intro ⟨by decide, by decide⟩ (rt_mk (by rw [← he]; rfl) rfl)
    | succ q ih =>
      intro t h1 h2 he
      refine hX 30 [23] 23 _ _ _ _ _ _ ?_
      refine And.intro (fun c25 => absurd c25 (by omega)) (fun c25 => ?_)
      refine Ok_rt (ms_ok ⟨by omega, by omega⟩ ⟨by omega, by omega⟩) ?_
      refine And.intro ⟨by omega, by omega⟩ ?_
      refine Ok_rt (ms_ok ⟨by omega, by omega⟩ ⟨by omega, by omega⟩) ?_
      refine And.intro (fun c48 => ?_) (fun c48 => ?_)
      · refine And.intro ⟨by omega, by omega⟩ ?_
        exact ih (t + 1) (by omega) (by omega) (by rw [← he, grF, if_neg (Int.not_lt.mpr c48)])
      · exact And.intro ⟨by decide, by decide⟩ (rt_mk (congrArg (fun z => some (vI z)) (by rw [← he, grF, if_pos c48])) rfl)
  refine hX 20 [23] 0 _ _ _ _ _ _ ?_
  refine Ok_rt tot_ok ?_
  refine Ok_rt (ckI_ok hm) ?_
  refine Ok_rt tot_ok ?_
  rw [hns]
  exact loop (ns - 1) 1 (by omega) (by omega) (by rw [hns, show ((ns : Int) - 1).toNat = ns - 1 by omega])

theorem K_isGraded_x (hx : ¬ isMs h m) : Ok 134 [vR 1, vI m] (LC N) h (ex 2 (LC N) h) := by
  refine ok_body B_X8_isGraded rfl (fun X hX => ?_)
  refine hX 60 [] 0 _ _ _ _ _ _ ?_
  refine Ok_rt tot_ok ?_
  refine Ok_ex (ckI_ex hx) ?_
  exact ⟨rfl, rfl, rfl⟩

theorem K_fits (hC : CI h) (hm : isMs h m) (hx : 0 ≤ x ∧ x ≤ 3000) : Ok 135 [vR 1, vI m, vI x] (LC N) h (rt (some (vI (ftF (fun t => ab (cVal (h 28) m t - x)) (rd (h 21) 4 0 - 1).toNat 1 0 (ab (cVal (h 28) m 0 - x))))) (LC N) h) := by
  have pb := hC.1
  obtain ⟨b0, b1, b2, b3, -, -⟩ := pb
  refine ok_body B_X8_fits rfl (fun X hX => ?_)
  obtain ⟨ns, hns⟩ : ∃ ns : Nat, rd (h 21) 4 0 = (ns : Int) := ⟨(rd (h 21) 4 0).toNat, by omega⟩
  have hm1 := hm.1
  have hm2 := hm.2
  have hv := hC.2.2.2.2.2.2.2.1
  have vb : ∀ t, 0 ≤ t → t < 6 → 0 ≤ cVal (h 28) m t ∧ cVal (h 28) m t ≤ 3000 := fun t a b => hv (24 + m * 6 + t) (by omega) (by omega)
  have loop : ∀ (q : Nat) (t a b : Int) (j7 : PV), 1 ≤ t → t + (q : Int) = ns → ftF (fun t => ab (cVal (h 28) m t - x)) q t a b = ftF (fun t => ab (cVal (h 28) m t - x)) (rd (h 21) 4 0 - 1).toNat 1 0 (ab (cVal (h 28) m 0 - x)) → X 51 [vR 1, vI m, vI x, vI (ns : Int), vI a, vI b, vI t, j7] [] (LC N) h 2 12 := by
    intro q
    induction q with
    | zero =>
      intro t a b j7 h1 h2 he
      refine hX 8 [] 51 _ _ _ _ _ _ ?_
      refine And.intro (fun c54 => ?_) (fun c54 => absurd c54 (by omega))
      exact rt_mk (by rw [← he]; rfl) rfl
    | succ q ih =>
      intro t a b j7 h1 h2 he
      have v := vb t (by omega) (by omega)
      refine hX 40 [51] 51 _ _ _ _ _ _ ?_
      refine And.intro (fun c54 => absurd c54 (by omega)) (fun c54 => ?_)
      refine Ok_rt (ms_ok ⟨by omega, by omega⟩ ⟨by omega, by omega⟩) ?_
      refine And.intro ⟨by omega, by omega⟩ ?_
      refine Ok_rt (abs_ok (by omega) (by omega)) ?_
      refine And.intro (fun c78 => ?_) (fun c78 => ?_)
      · refine And.intro ⟨by omega, by omega⟩ ?_
        exact ih (t + 1) a b _ (by omega) (by omega) (by rw [← he, ftF]; exact (if_neg (Int.not_lt.mpr c78)).symm)
      · refine And.intro ⟨by omega, by omega⟩ ?_
        exact ih (t + 1) t _ _ (by omega) (by omega) (by rw [← he, ftF]; exact (if_pos c78).symm)
  have v0 := vb 0 (by omega) (by omega)
  refine hX 40 [51] 0 _ _ _ _ _ _ ?_
  refine Ok_rt tot_ok ?_
  refine Ok_rt (ckI_ok hm) ?_
  refine Ok_rt (ckR_ok hx) ?_
  refine Ok_rt tot_ok ?_
  rw [hns]
  refine Ok_rt (ms_ok ⟨by omega, by omega⟩ ⟨by decide, by decide⟩) ?_
  refine And.intro ⟨by omega, by omega⟩ ?_
  refine Ok_rt (abs_ok (by omega) (by omega)) ?_
  exact loop (ns - 1) 1 0 _ _ (by omega) (by omega) (by rw [hns, show ((ns : Int) - 1).toNat = ns - 1 by omega]; rfl)

theorem K_fits_x (hx : ¬ isMs h m) : Ok 135 [vR 1, vI m, vI x] (LC N) h (ex 2 (LC N) h) := by
  refine ok_body B_X8_fits rfl (fun X hX => ?_)
  refine hX 60 [] 0 _ _ _ _ _ _ ?_
  refine Ok_rt tot_ok ?_
  refine Ok_ex (ckI_ex hx) ?_
  exact ⟨rfl, rfl, rfl⟩

theorem K_fits_y (hm : isMs h m) (hx : ¬ (0 ≤ x ∧ x ≤ 3000)) : Ok 135 [vR 1, vI m, vI x] (LC N) h (ex 3 (LC N) h) := by
  refine ok_body B_X8_fits rfl (fun X hX => ?_)
  refine hX 60 [] 0 _ _ _ _ _ _ ?_
  refine Ok_rt tot_ok ?_
  refine Ok_rt (ckI_ok hm) ?_
  refine Ok_ex (ckR_ex hx) ?_
  exact ⟨rfl, rfl, rfl⟩

theorem K_chart (hC : CI h) (hc : isCh h c) (hi : 0 ≤ i ∧ i ≤ 2) : Ok 136 [vR 1, vI c, vI i] (LC N) h (rt (some (vI (if i = 0 then rd (h 22) 4 c else if i = 1 then rd (h 23) 32 (c * 8 + 0) else mxF (fun q => rd (h 24) 32 (c * 8 + q)) (rd (h 22) 4 c - 0).toNat 0 0))) (LC N) h) := by
  have pb := hC.1
  obtain ⟨b0, b1, b2, b3, -, -⟩ := pb
  refine ok_body B_X8_chart rfl (fun X hX => ?_)
  have hc1 := hc.1
  have hc2 := hc.2
  have hn8 := (hC.1.2.2.2.2.1 c hc.1 hc.2).1
  refine hX 60 [] 0 _ _ _ _ _ _ ?_
  refine Ok_rt tot_ok ?_
  refine Ok_rt (ckI_ok hc) ?_
  refine Ok_rt (ckR_ok hi) ?_
  refine And.intro (fun c19 => ?_) (fun c19 => ?_)
  · refine And.intro (fun c33 => ?_) (fun c33 => ?_)
    · have mm := mostMade_ok (N := N) (h := h) (i := c) (n := rd (h 22) 4 c) (p := 19) (Or.inr rfl) ⟨by omega, by omega⟩ rfl (by omega)
      refine Ok_rt mm ?_
      exact rt_mk (by rw [if_neg c19, if_neg c33]; rfl) rfl
    · refine Ok_rt (tkn_ok ⟨by omega, by omega⟩ (by decide)) ?_
      exact rt_mk (by rw [if_neg c19, if_pos c33]) rfl
  · refine Ok_rt crt_ok ?_
    exact rt_mk (by rw [if_pos c19]) rfl

theorem K_chart_x (hx : ¬ isCh h c) : Ok 136 [vR 1, vI c, vI i] (LC N) h (ex 2 (LC N) h) := by
  refine ok_body B_X8_chart rfl (fun X hX => ?_)
  refine hX 60 [] 0 _ _ _ _ _ _ ?_
  refine Ok_rt tot_ok ?_
  refine Ok_ex (ckI_ex hx) ?_
  exact ⟨rfl, rfl, rfl⟩

theorem K_chart_y (hc : isCh h c) (hi : ¬ (0 ≤ i ∧ i ≤ 2)) : Ok 136 [vR 1, vI c, vI i] (LC N) h (ex 3 (LC N) h) := by
  refine ok_body B_X8_chart rfl (fun X hX => ?_)
  refine hX 60 [] 0 _ _ _ _ _ _ ?_
  refine Ok_rt tot_ok ?_
  refine Ok_rt (ckI_ok hc) ?_
  refine Ok_ex (ckR_ex hi) ?_
  exact ⟨rfl, rfl, rfl⟩

theorem K_chartRow (hC : CI h) (hc : isCh h c) (hr : 0 ≤ r ∧ r < rd (h 22) 4 c) : Ok 137 [vR 1, vI c, vI r, vI i] (LC N) h (rt (some (vI (if i = 0 then rd (h 23) 32 (c * 8 + r) else rd (h 24) 32 (c * 8 + r)))) (LC N) h) := by
  have pb := hC.1
  obtain ⟨b0, b1, b2, b3, -, -⟩ := pb
  refine ok_body B_X8_chartRow rfl (fun X hX => ?_)
  have hc1 := hc.1
  have hc2 := hc.2
  have hn8 := (hC.1.2.2.2.2.1 c hc.1 hc.2).1
  refine hX 60 [] 0 _ _ _ _ _ _ ?_
  refine Ok_rt tot_ok ?_
  refine Ok_rt (ckI_ok hc) ?_
  refine Ok_rt crt_ok ?_
  refine Ok_rt (ckI_ok hr) ?_
  refine And.intro (fun c25 => ?_) (fun c25 => ?_)
  · refine Ok_rt (tkn_ok ⟨by omega, by omega⟩ ⟨by omega, by omega⟩) ?_
    exact rt_mk (by rw [if_pos c25]) rfl
  · refine Ok_rt (mde_ok ⟨by omega, by omega⟩ ⟨by omega, by omega⟩) ?_
    exact rt_mk (by rw [if_neg c25]) rfl

theorem K_chartRow_x (hx : ¬ (isCh h c ∧ (0 ≤ r ∧ r < rd (h 22) 4 c))) : Ok 137 [vR 1, vI c, vI r, vI i] (LC N) h (ex 2 (LC N) h) := by
  refine ok_body B_X8_chartRow rfl (fun X hX => ?_)
  refine hX 60 [] 0 _ _ _ _ _ _ ?_
  refine Ok_rt tot_ok ?_
  by_cases z : isCh h c
  · refine Ok_rt (ckI_ok z) ?_
    refine Ok_rt crt_ok ?_
    refine Ok_ex (ckI_ex (fun w => hx ⟨z, w⟩)) ?_
    exact ⟨rfl, rfl, rfl⟩
  · refine Ok_ex (ckI_ex z) ?_
    exact ⟨rfl, rfl, rfl⟩

theorem K_part (hC : CI h) (hp : isPc h p) (hk : isPa h p k) (hi : 0 ≤ i ∧ i ≤ 8) : Ok 138 [vR 1, vI p, vI k, vI i] (LC N) h (rt (some (vI (if i = 3 then rd (h 28) 132 (72 + p * 10 + k) else cF (h 26) p k i))) (LC N) h) := by
  have pb := hC.1
  obtain ⟨b0, b1, b2, b3, -, -⟩ := pb
  refine ok_body B_X8_part rfl (fun X hX => ?_)
  have hp1 := hp.1
  have hp2 := hp.2
  have hk1 := hk.1
  have hk2 := hk.2
  have hn10 := (hC.1.2.2.2.2.2 p hp.1 hp.2).1
  refine hX 60 [] 0 _ _ _ _ _ _ ?_
  refine Ok_rt (ckPart_ok hp hk) ?_
  refine Ok_rt (ckR_ok hi) ?_
  refine And.intro (fun c15 => ?_) (fun c15 => ?_)
  · refine Ok_rt (fct_ok ⟨by omega, by omega⟩ ⟨by omega, by omega⟩ ⟨by omega, by omega⟩) ?_
    exact rt_mk (by rw [if_neg c15]) rfl
  · refine Ok_rt (ese_ok ⟨by omega, by omega⟩ ⟨by omega, by omega⟩) ?_
    exact rt_mk (by rw [if_pos c15]) rfl

theorem K_part_x (hx : ¬ (isPc h p ∧ isPa h p k)) : Ok 138 [vR 1, vI p, vI k, vI i] (LC N) h (ex 2 (LC N) h) := by
  refine ok_body B_X8_part rfl (fun X hX => ?_)
  refine hX 60 [] 0 _ _ _ _ _ _ ?_
  refine Ok_ex (ckPart_ex hx) ?_
  exact ⟨rfl, rfl, rfl⟩

theorem K_part_y (hp : isPc h p) (hk : isPa h p k) (hi : ¬ (0 ≤ i ∧ i ≤ 8)) : Ok 138 [vR 1, vI p, vI k, vI i] (LC N) h (ex 3 (LC N) h) := by
  refine ok_body B_X8_part rfl (fun X hX => ?_)
  refine hX 60 [] 0 _ _ _ _ _ _ ?_
  refine Ok_rt (ckPart_ok hp hk) ?_
  refine Ok_ex (ckR_ex hi) ?_
  exact ⟨rfl, rfl, rfl⟩

theorem K_parts (hp : isPc h p) : Ok 139 [vR 1, vI p] (LC N) h (rt (some (vI (rd (h 25) 6 p))) (LC N) h) := by
  refine ok_body B_X8_parts rfl (fun X hX => ?_)
  refine hX 60 [] 0 _ _ _ _ _ _ ?_
  refine Ok_rt tot_ok ?_
  refine Ok_rt (ckI_ok hp) ?_
  refine Ok_rt ptt_ok ?_
  exact rt_mk rfl rfl

theorem K_parts_x (hx : ¬ isPc h p) : Ok 139 [vR 1, vI p] (LC N) h (ex 2 (LC N) h) := by
  refine ok_body B_X8_parts rfl (fun X hX => ?_)
  refine hX 60 [] 0 _ _ _ _ _ _ ?_
  refine Ok_rt tot_ok ?_
  refine Ok_ex (ckI_ex hx) ?_
  exact ⟨rfl, rfl, rfl⟩

theorem K_lot (hC : CI h) (hl : isLt h l) (hi : 0 ≤ i ∧ i ≤ 1) : Ok 150 [vR 1, vI l, vI i] (LC N) h (rt (some (vI (if i = 0 then rd (h 28) 132 (4 + l) else rd (h 28) 132 (14 + l)))) (LC N) h) := by
  refine ok_body B_X8_lot rfl (fun X hX => ?_)
  have hl1 := hl.1
  have hl2 := hl.2
  have hl3 := hC.2.2.2.2.1
  refine hX 60 [] 0 _ _ _ _ _ _ ?_
  refine Ok_rt lts_ok ?_
  refine Ok_rt (ckI_ok hl) ?_
  refine Ok_rt (ckR_ok hi) ?_
  refine And.intro (fun c18 => ?_) (fun c18 => ?_)
  · refine Ok_rt (ltm_ok ⟨by omega, by omega⟩) ?_
    exact rt_mk (by rw [if_neg c18]) rfl
  · refine Ok_rt (ltc_ok ⟨by omega, by omega⟩) ?_
    exact rt_mk (by rw [if_pos c18]) rfl

theorem K_lot_x (hx : ¬ isLt h l) : Ok 150 [vR 1, vI l, vI i] (LC N) h (ex 2 (LC N) h) := by
  refine ok_body B_X8_lot rfl (fun X hX => ?_)
  refine hX 60 [] 0 _ _ _ _ _ _ ?_
  refine Ok_rt lts_ok ?_
  refine Ok_ex (ckI_ex hx) ?_
  exact ⟨rfl, rfl, rfl⟩

theorem K_lot_y (hl : isLt h l) (hi : ¬ (0 ≤ i ∧ i ≤ 1)) : Ok 150 [vR 1, vI l, vI i] (LC N) h (ex 3 (LC N) h) := by
  refine ok_body B_X8_lot rfl (fun X hX => ?_)
  refine hX 60 [] 0 _ _ _ _ _ _ ?_
  refine Ok_rt lts_ok ?_
  refine Ok_rt (ckI_ok hl) ?_
  refine Ok_ex (ckR_ex hi) ?_
  exact ⟨rfl, rfl, rfl⟩

theorem K_count (hi : 0 ≤ i ∧ i ≤ 8) : Ok 132 [vR 1, vI i] (LC N) h (rt (some (vI (cntF h i))) (LC N) h) := by
  refine ok_body B_X8_count rfl (fun X hX => ?_)
  refine hX 60 [] 0 _ _ _ _ _ _ ?_
  refine Ok_rt (ckR_ok hi) ?_
  refine And.intro (fun d => ?_) (And.intro (fun d => ?_) (And.intro (fun d => ?_) (And.intro (fun d => ?_) (And.intro (fun d => ?_) (And.intro (fun d => ?_) True.intro)))))
  · have d : i < 4 ∨ (9 : Int) ≤ i := by simpa using d
    refine Ok_rt tot_ok ?_
    exact rt_mk (by unfold cntF; rw [if_neg (by omega), if_neg (by omega), if_neg (by omega), if_neg (by omega), if_neg (by omega)]) rfl
  · subst d
    refine Ok_rt lts_ok ?_
    exact rt_mk rfl rfl
  · have d : i = 5 := d
    subst d
    refine Ok_rt cl_ok ?_
    exact rt_mk rfl rfl
  · have d : i = 6 := d
    subst d
    refine Ok_rt cl_ok ?_
    exact rt_mk rfl rfl
  · have d : i = 7 := d
    subst d
    refine Ok_rt cl_ok ?_
    exact rt_mk rfl rfl
  · have d : i = 8 := d
    subst d
    exact rt_mk rfl rfl

theorem K_count_x (hi : ¬ (0 ≤ i ∧ i ≤ 8)) : Ok 132 [vR 1, vI i] (LC N) h (ex 3 (LC N) h) := by
  refine ok_body B_X8_count rfl (fun X hX => ?_)
  refine hX 60 [] 0 _ _ _ _ _ _ ?_
  refine Ok_ex (ckR_ex hi) ?_
  exact ⟨rfl, rfl, rfl⟩

/-- the number of the name that is the text -/
def fndF (h : HP) (i : Int) : Int := fstI (fun q => rdA h 20 32 (i * 8 + q) == (if 8 < h 2 1 - 0 then 0 else pkL (txB h) (h 2 1 - 0).toNat 0 0)) (rd (h 21) 4 i).toNat 0
theorem K_find (hC : CI h) (hi : 0 ≤ i ∧ i ≤ 3) (ht : 0 ≤ h 2 1 ∧ h 2 1 ≤ 1500) (hf : fndF h i ≠ -1) : Ok 131 [vR 1, vI i] (LC N) h (rt (some (vI (fndF h i))) (LC N) (up h 2 1 0)) := by
  refine ok_body B_X8_find rfl (fun X hX => ?_)
  have hb : rd (h 21) 4 i ≤ 1000 := by
    obtain ⟨b0, b1, b2, b3, -, -⟩ := hC.1
    have : i = 0 ∨ i = 1 ∨ i = 2 ∨ i = 3 := by omega
    rcases this with rfl | rfl | rfl | rfl <;> omega
  refine hX 60 [] 0 _ _ _ _ _ _ ?_
  refine Ok_rt (ckR_ok hi) ?_
  refine Ok_rt (packedName_ok (i := 0) (j := h 2 1) (by omega) (by omega)) ?_
  refine Ok_rt (numberOf_ok (n := rd (h 21) 4 i) (Or.inr rfl) ⟨by omega, by omega⟩ rfl hb) ?_
  refine Ok_rt shorten_ok ?_
  refine And.intro (fun c40 => ?_) (fun c40 => absurd c40 hf)
  exact rt_mk rfl rfl

theorem K_find_n (hC : CI h) (hi : 0 ≤ i ∧ i ≤ 3) (ht : 0 ≤ h 2 1 ∧ h 2 1 ≤ 1500) (hf : fndF h i = -1) : Ok 131 [vR 1, vI i] (LC N) h (ex 4 (LC N) (up h 2 1 0)) := by
  refine ok_body B_X8_find rfl (fun X hX => ?_)
  have hb : rd (h 21) 4 i ≤ 1000 := by
    obtain ⟨b0, b1, b2, b3, -, -⟩ := hC.1
    have : i = 0 ∨ i = 1 ∨ i = 2 ∨ i = 3 := by omega
    rcases this with rfl | rfl | rfl | rfl <;> omega
  refine hX 60 [] 0 _ _ _ _ _ _ ?_
  refine Ok_rt (ckR_ok hi) ?_
  refine Ok_rt (packedName_ok (i := 0) (j := h 2 1) (by omega) (by omega)) ?_
  refine Ok_rt (numberOf_ok (n := rd (h 21) 4 i) (Or.inr rfl) ⟨by omega, by omega⟩ rfl hb) ?_
  refine Ok_rt shorten_ok ?_
  refine And.intro (fun c40 => absurd hf c40) (fun c40 => ?_)
  exact ⟨rfl, rfl, rfl⟩

theorem K_find_x (hi : ¬ (0 ≤ i ∧ i ≤ 3)) : Ok 131 [vR 1, vI i] (LC N) h (ex 3 (LC N) h) := by
  refine ok_body B_X8_find rfl (fun X hX => ?_)
  refine hX 60 [] 0 _ _ _ _ _ _ ?_
  refine Ok_ex (ckR_ex hi) ?_
  exact ⟨rfl, rfl, rfl⟩

theorem K_truncate (hi : 0 ≤ i ∧ i ≤ h 2 1) : Ok 127 [vR 1, vI i] (LC N) h (rt (some (vI i)) (LC N) (up h 2 1 i)) := by
  refine ok_body B_X8_truncate rfl (fun X hX => ?_)
  refine hX 60 [] 0 _ _ _ _ _ _ ?_
  refine And.intro (fun c1 => absurd c1 (by omega)) (fun c1 => ?_)
  refine And.intro (fun c12 => ?_) (fun c12 => absurd (show h 2 1 < i from c12) (by omega))
  refine Ok_rt shorten_ok ?_
  exact rt_mk rfl rfl

theorem K_truncate_x (hi : ¬ (0 ≤ i ∧ i ≤ h 2 1)) : Ok 127 [vR 1, vI i] (LC N) h (ex 2 (LC N) h) := by
  refine ok_body B_X8_truncate rfl (fun X hX => ?_)
  refine hX 60 [] 0 _ _ _ _ _ _ ?_
  refine And.intro (fun c1 => ⟨rfl, rfl, rfl⟩) (fun c1 => ?_)
  refine And.intro (fun c12 => absurd (show i ≤ h 2 1 from c12) (by omega)) (fun c12 => ⟨rfl, rfl, rfl⟩)

def addFH (h : HP) (i : Int) : HP := addBH (addBH (addBH (addBH h (iushrI i 24)) (iushrI i 16)) (iushrI i 8)) i
theorem K_append (ht : h 2 1 ≤ 1480) : Ok 126 [vR 1, vI a, vI b, vI c, vI d, vI e] (LC N) h (rt (some (vI (addFH (addFH (addFH (addFH (addFH h a) b) c) d) e 2 1))) (LC N) (addFH (addFH (addFH (addFH (addFH h a) b) c) d) e)) := by
  refine ok_body B_X8_append rfl (fun X hX => ?_)
  refine hX 60 [] 0 _ _ _ _ _ _ ?_
  refine And.intro (fun c10 => ?_) (fun c10 => absurd (show 1480 < h 2 1 from c10) (by omega))
  refine Ok_rt addFour_ok ?_
  refine Ok_rt addFour_ok ?_
  refine Ok_rt addFour_ok ?_
  refine Ok_rt addFour_ok ?_
  refine Ok_rt addFour_ok ?_
  exact rt_mk rfl rfl

theorem K_append_x (ht : 1480 < h 2 1) : Ok 126 [vR 1, vI a, vI b, vI c, vI d, vI e] (LC N) h (ex 1 (LC N) h) := by
  refine ok_body B_X8_append rfl (fun X hX => ?_)
  refine hX 60 [] 0 _ _ _ _ _ _ ?_
  refine And.intro (fun c10 => absurd (show h 2 1 ≤ 1480 from c10) (by omega)) (fun c10 => ⟨rfl, rfl, rfl⟩)

theorem K_errorCode : Ok 129 [vR 1] (LC N) h (rt (some (vI (h 1 13))) (LC N) h) := by
  refine ok_body B_X8_errorCode rfl (fun X hX => ?_)
  refine hX 6 [] 0 _ _ _ _ _ _ ?_
  exact rt_mk rfl rfl
theorem K_errorPosition : Ok 130 [vR 1] (LC N) h (rt (some (vI (h 1 14))) (LC N) h) := by
  refine ok_body B_X8_errorPosition rfl (fun X hX => ?_)
  refine hX 6 [] 0 _ _ _ _ _ _ ?_
  exact rt_mk rfl rfl
end TABLES
