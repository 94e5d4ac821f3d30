/-! ===== Plan.knit ===== -/
section KNIT
variable {N : List CT} {h : HP} {s p : Int}
theorem addP31_rd (h1 : HP) (x y z j : Int) (h0 : 0 ≤ h1 31 6 ∧ h1 31 6 < 10) :
    rdA (addPartP h1 31 x y z) 32 10 j = (if j = h1 31 6 then h1 31 7 else rdA h1 32 10 j) ∧ rdA (addPartP h1 31 x y z) 33 10 j = (if j = h1 31 6 then x else rdA h1 33 10 j) ∧
    rdA (addPartP h1 31 x y z) 34 10 j = (if j = h1 31 6 then y else rdA h1 34 10 j) ∧ rdA (addPartP h1 31 x y z) 35 10 j = (if j = h1 31 6 then z else rdA h1 35 10 j) := by
  have e : ∀ (v w : Int), (if 0 ≤ h1 31 6 ∧ h1 31 6 < ((10 : Nat) : Int) ∧ j = h1 31 6 then v else w) = if j = h1 31 6 then v else w := by
    intro v w
    by_cases q : j = h1 31 6
    · rw [if_pos q, if_pos ⟨h0.1, h0.2, q⟩]
    · rw [if_neg q, if_neg (fun z => q z.2.2)]
  unfold addPartP
  refine ⟨?_, ?_, ?_, ?_⟩
  all_goals rw [rdA_up_oth (by decide), rdA_up_oth (by decide)]
  · rw [rdA_wrA_oth (by decide), rdA_wrA_oth (by decide), rdA_wrA_oth (by decide), rdA_wrA, e]
  · rw [rdA_wrA_oth (by decide), rdA_wrA_oth (by decide), rdA_wrA, rdA_wrA_oth (by decide), e]
  · rw [rdA_wrA_oth (by decide), rdA_wrA, rdA_wrA_oth (by decide), rdA_wrA_oth (by decide), e]
  · rw [rdA_wrA, rdA_wrA_oth (by decide), rdA_wrA_oth (by decide), rdA_wrA_oth (by decide), e]
theorem addP31_oth (h1 : HP) (x y z : Int) (c : Nat) (hc : c < 31 ∨ 35 < c) : addPartP h1 31 x y z c = h1 c := by
  unfold addPartP
  rw [up_cell (by omega), up_cell (by omega), wrA_cell (by omega), wrA_cell (by omega), wrA_cell (by omega), wrA_cell (by omega)]
theorem addP31_f (h1 : HP) (x y z : Int) : addPartP h1 31 x y z 31 5 = h1 31 5 ∧ addPartP h1 31 x y z 31 6 = h1 31 6 + 1 ∧ addPartP h1 31 x y z 31 7 = h1 31 7 + x ∧ addPartP h1 31 x y z 31 8 = h1 31 8 := by
  have e : ∀ q, wrA (wrA (wrA (wrA h1 (31 + 1) 10 (h1 31 6) (h1 31 7)) (31 + 2) 10 (h1 31 6) x) (31 + 3) 10 (h1 31 6) y) (31 + 4) 10 (h1 31 6) z 31 q = h1 31 q := fun q => by
    rw [wrA_cell (by decide), wrA_cell (by decide), wrA_cell (by decide), wrA_cell (by decide)]
  unfold addPartP
  refine ⟨?_, ?_, ?_, ?_⟩
  · rw [up_ne (by decide), up_ne (by decide), e]
  · rw [up_ne (by decide), up_same]
  · rw [up_same]
  · rw [up_ne (by decide), up_ne (by decide), e]
theorem knit31_ok (hP : PatOK (h 21) (h 22) (h 23) (h 24) (h 25) (h 26)) (hS : StOK (h 28)) (hs : 0 ≤ s ∧ s < 6) (hp : 0 ≤ p ∧ p < rd (h 21) 4 3) :
    Ok 36 [vR 31, vR 27, vI s, vI p] (LC N) h (fun o' Λ' h' => o' = .inl none ∧ Λ' = LC N ∧ PlanIs h' 31 (cDr (h 22) (h 23) (h 24) (h 26) (h 28) s p) (rd (h 25) 6 p).toNat p ∧ Frm 31 h h') := by
  refine ok_body B_X3_knit rfl (fun X hX => ?_)
  have hK := cD_ok hP hS hs hp
  have hpp := hP.2.2.2.2.2 p hp.1 hp.2
  have hp4 := hP.2.2.2.1
  have hp3 := hP.2.2.1
  obtain ⟨n, hn⟩ : ∃ n : Nat, rd (h 25) 6 p = (n : Int) := ⟨(rd (h 25) 6 p).toNat, by omega⟩
  have hn1 : 1 ≤ n ∧ n ≤ 10 := by omega
  have hnn : (rd (h 25) 6 p).toNat = n := by omega
  rw [hnn] at hK hX
  obtain ⟨D, hD⟩ : ∃ D, D = cDr (h 22) (h 23) (h 24) (h 26) (h 28) s p := ⟨_, rfl⟩
  rw [← hD] at hK hX
  have hch : ∀ k : Nat, k < n → -1 ≤ cF (h 26) p k 8 ∧ cF (h 26) p k 8 ≤ 100 := fun k hk => by
    have z := (hpp.2 k (by omega) (by omega)).2.2.2.2.2.2.2.2.2
    omega
  have loop : ∀ (m k : Nat) (h1 : HP) (j7 j8 j9 : PV), k + m = n → (∀ j, j < k → why D j = 0) → Frm 31 h h1 → h1 31 5 = p → h1 31 6 = (k : Int) → h1 31 7 = tp D k → h1 31 8 = 0 → (∀ j : Nat, j < k → rdA h1 32 10 j = tp D j ∧ rdA h1 33 10 j = kR D j ∧ rdA h1 34 10 j = hv D j ∧ rdA h1 35 10 j = hv D (j + 1)) →
      X 39 [vR 31, vR 27, vI s, vI p, vI (n : Int), vI (hv D k), vI (k : Int), j7, j8, j9] [] (LC N) h1 0 0 := by
    intro m
    induction m with
    | zero =>
      intro k h1 j7 j8 j9 hm hw hF f5 f6 f7 f8 hA
      have hk : k = n := by omega
      subst hk
      have emd : md D k = k := md_eq (Nat.le_refl _) hw (Or.inl rfl)
      refine hX 5 [] 39 _ _ _ _ _ _ ?_
      refine And.intro (fun c43 => ?_) (fun c43 => absurd c43 (by omega))
      refine ⟨rfl, rfl, ⟨f5, ?_, ?_, ?_, ?_⟩, hF⟩
      · rw [emd]; exact f6
      · rw [emd]; exact f7
      · rw [f8]; unfold fl; rw [emd, if_neg (Nat.lt_irrefl _)]
      · rw [emd]; exact hA
    | succ m ih =>
      intro k h1 j7 j8 j9 hm hw hF f5 f6 f7 f8 hA
      have hkn : k < n := by omega
      have e21 : h1 21 = h 21 := hF 21 (by decide)
      have e22 : h1 22 = h 22 := hF 22 (by decide)
      have e23 : h1 23 = h 23 := hF 23 (by decide)
      have e24 : h1 24 = h 24 := hF 24 (by decide)
      have e25 : h1 25 = h 25 := hF 25 (by decide)
      have e26 : h1 26 = h 26 := hF 26 (by decide)
      have eA : h1 28 = h 28 := hF 28 (by decide)
      have hb1 := hv_bd hK k (by omega)
      have hb2 := hv_bd hK (k + 1) (by omega)
      have hR := (hK k hkn).2.2.2.1
      have hT := tp_bd hK k (by omega)
      have cr : Ok 37 [vR 31, vR 27, vI s, vI (k : Int)] (LC N) h1 (rt (some (vI (kR D k))) (LC N) h1) := by
        have z := countRows_ok (N := N) (h := h1) (s := s) (k := (k : Int)) (p := p) (tot := h 21) (pc := h 25) (Or.inl ⟨rfl, rfl, rfl⟩) (by rw [e22, e23, e24, e26]; exact hP) (by rw [eA]; exact hS) hs hp ⟨by omega, by omega⟩ f5
        rw [e22, e26, eA] at z
        rw [hD]; exact z
      have cg : Ok 38 [vR 31, vR 27, vI s, vI (k : Int), vI (hv D k)] (LC N) h1 (rt (some (vI (hv D (k + 1)))) (LC N) h1) := by
        have z := countGoal_ok (N := N) (h := h1) (s := s) (k := (k : Int)) (p := p) (x := hv D k) (tot := h 21) (pc := h 25) (Or.inl ⟨rfl, rfl, rfl⟩) (by rw [e22, e23, e24, e26]; exact hP) (by rw [eA]; exact hS) hs hp ⟨by omega, by omega⟩ f5
        rw [e26, eA] at z
        have e : hv D (k + 1) = if cF (h 26) p k 0 = 1 then hv D k else cGl (h 26) (h 28) s p k := by rw [hD]; rfl
        rw [e]; exact z
      have cw : Ok 40 [vR 31, vI (k : Int), vI (kR D k), vI (hv D k), vI (hv D (k + 1))] (LC N) h1 (rt (some (vI (why D k))) (LC N) h1) := by
        have z := reason31_ok (N := N) (h := h1) (k := (k : Int)) (p := p) (x := kR D k) (y := hv D k) (z := hv D (k + 1)) f5 (by omega) (by omega) (by rw [e26]; exact hch k hkn) (by omega) (by omega)
        rw [e26, e23] at z
        have e : why D k = whyV (cF (h 26) p k 0) (cF (h 26) p k 8) (cF (h 26) p k 7) (rd (h 23) 32 (cF (h 26) p k 8 * 8 + 0)) (kR D k) (hv D k) (hv D (k + 1)) := by
          unfold why
          rw [show kK D k = cF (h 26) p k 0 by rw [hD]; rfl, show kH D k = cF (h 26) p k 8 by rw [hD]; rfl, show kP D k = cF (h 26) p k 7 by rw [hD]; rfl, show kW D k = rd (h 23) 32 (cF (h 26) p k 8 * 8 + 0) by rw [hD]; rfl]
        rw [e]; exact z
      refine hX 60 [39] 39 _ _ _ _ _ _ ?_
      refine And.intro (fun c43 => absurd c43 (by omega)) (fun c43 => ?_)
      refine And.intro (fun c50 => absurd f8 c50) (fun c50 => ?_)
      refine Ok_rt cr ?_
      refine Ok_rt cg ?_
      refine Ok_rt cw ?_
      refine And.intro (fun c91 => ?_) (fun c91 => ?_)
      · have q := addP31_f h1 (kR D k) (hv D k) (hv D (k + 1))
        refine Ok_rt (paddPart_ok (Or.inl rfl) ⟨by omega, by omega⟩ ⟨by omega, by omega⟩ ⟨by omega, by omega⟩) ?_
        refine And.intro ⟨by omega, by omega⟩ ?_
        refine ih (k + 1) _ _ _ _ (by omega) (fun j hj => ?_) (fun c hc => ?_) ?_ ?_ ?_ ?_ (fun j hj => ?_)
        · by_cases z : j = k
          · rw [z]; exact c91
          · exact hw j (by omega)
        · rw [addP31_oth _ _ _ _ c hc]; exact hF c hc
        · rw [q.1]; exact f5
        · rw [q.2.1, f6]; rfl
        · rw [q.2.2.1, f7]; rfl
        · rw [q.2.2.2]; exact f8
        · have r := addP31_rd h1 (kR D k) (hv D k) (hv D (k + 1)) j (by omega)
          rw [f6, f7] at r
          by_cases z : j = k
          · subst z
            rw [if_pos rfl, if_pos rfl, if_pos rfl, if_pos rfl] at r
            exact r
          · have z2 : ¬ (j : Int) = (k : Int) := by omega
            rw [if_neg z2, if_neg z2, if_neg z2, if_neg z2] at r
            rw [r.1, r.2.1, r.2.2.1, r.2.2.2]
            exact hA j (by omega)
      · have hwb : -1000 ≤ why D k ∧ why D k ≤ 1000 := by
          unfold why whyV
          repeat' split
          all_goals omega
        refine And.intro ⟨by omega, by omega⟩ ?_
        refine And.intro ⟨by omega, by omega⟩ ?_
        refine And.intro ⟨by omega, by omega⟩ ?_
        have emd : md D n = k := md_eq (by omega) hw (Or.inr c91)
        have hw0 : 0 ≤ why D k := by
          unfold why whyV
          repeat' split
          all_goals omega
        have fin : PlanIs (up h1 31 8 (10 * (k : Int) + why D k)) 31 D n p ∧ Frm 31 h (up h1 31 8 (10 * (k : Int) + why D k)) := by
          refine ⟨⟨?_, ?_, ?_, ?_, fun j hj => ?_⟩, fun c hc => ?_⟩
          · rw [up_ne (by decide)]; exact f5
          · rw [up_ne (by decide), emd]; exact f6
          · rw [up_ne (by decide), emd]; exact f7
          · rw [up_same]; unfold fl; rw [emd, if_pos hkn]
          · rw [emd] at hj
            rw [rdA_up_oth (by decide), rdA_up_oth (by decide), rdA_up_oth (by decide), rdA_up_oth (by decide)]
            exact hA j hj
          · rw [up_cell (by omega)]; exact hF c hc
        refine hX 8 [] 39 _ _ _ _ _ _ ?_
        refine And.intro (fun d43 => ⟨rfl, rfl, fin.1, fin.2⟩) (fun d43 => ?_)
        refine And.intro (fun d50 => ⟨rfl, rfl, fin.1, fin.2⟩) (fun d50 => ?_)
        exfalso
        have d : up h1 31 8 (10 * (k : Int) + why D k) 31 8 = 0 := d50
        rw [up_same] at d
        omega
  refine hX 30 [39] 0 _ _ _ _ _ _ ?_
  refine Ok_rt (partTotal_ok (Or.inr rfl)) ?_
  have e25 : rdA (up (up (up (up h 31 5 p) 31 6 0) 31 7 0) 31 8 0) (19 + 6) 6 (up (up (up (up h 31 5 p) 31 6 0) 31 7 0) 31 8 0 31 5) = (n : Int) := by
    rw [up_ne (by decide), up_ne (by decide), up_ne (by decide), up_same, rdA_up_oth (by decide), rdA_up_oth (by decide), rdA_up_oth (by decide), rdA_up_oth (by decide)]
    exact hn
  rw [e25]
  refine loop n 0 _ _ _ _ (by omega) (fun j hj => absurd hj (Nat.not_lt_zero _)) (fun c hc => ?_) ?_ ?_ ?_ ?_ (fun j hj => absurd hj (Nat.not_lt_zero _))
  · rw [up_cell (by omega), up_cell (by omega), up_cell (by omega), up_cell (by omega)]
  · rw [up_ne (by decide), up_ne (by decide), up_ne (by decide), up_same]
  · rw [up_ne (by decide), up_ne (by decide), up_same]; rfl
  · rw [up_ne (by decide), up_same]; rfl
  · rw [up_same]

theorem addP36_rd (h1 : HP) (x y z j : Int) (h0 : 0 ≤ h1 36 6 ∧ h1 36 6 < 10) :
    rdA (addPartP h1 36 x y z) 37 10 j = (if j = h1 36 6 then h1 36 7 else rdA h1 37 10 j) ∧ rdA (addPartP h1 36 x y z) 38 10 j = (if j = h1 36 6 then x else rdA h1 38 10 j) ∧
    rdA (addPartP h1 36 x y z) 39 10 j = (if j = h1 36 6 then y else rdA h1 39 10 j) ∧ rdA (addPartP h1 36 x y z) 40 10 j = (if j = h1 36 6 then z else rdA h1 40 10 j) := by
  have e : ∀ (v w : Int), (if 0 ≤ h1 36 6 ∧ h1 36 6 < ((10 : Nat) : Int) ∧ j = h1 36 6 then v else w) = if j = h1 36 6 then v else w := by
    intro v w
    by_cases q : j = h1 36 6
    · rw [if_pos q, if_pos ⟨h0.1, h0.2, q⟩]
    · rw [if_neg q, if_neg (fun z => q z.2.2)]
  unfold addPartP
  refine ⟨?_, ?_, ?_, ?_⟩
  all_goals rw [rdA_up_oth (by decide), rdA_up_oth (by decide)]
  · rw [rdA_wrA_oth (by decide), rdA_wrA_oth (by decide), rdA_wrA_oth (by decide), rdA_wrA, e]
  · rw [rdA_wrA_oth (by decide), rdA_wrA_oth (by decide), rdA_wrA, rdA_wrA_oth (by decide), e]
  · rw [rdA_wrA_oth (by decide), rdA_wrA, rdA_wrA_oth (by decide), rdA_wrA_oth (by decide), e]
  · rw [rdA_wrA, rdA_wrA_oth (by decide), rdA_wrA_oth (by decide), rdA_wrA_oth (by decide), e]
theorem addP36_oth (h1 : HP) (x y z : Int) (c : Nat) (hc : c < 36 ∨ 40 < c) : addPartP h1 36 x y z c = h1 c := by
  unfold addPartP
  rw [up_cell (by omega), up_cell (by omega), wrA_cell (by omega), wrA_cell (by omega), wrA_cell (by omega), wrA_cell (by omega)]
theorem addP36_f (h1 : HP) (x y z : Int) : addPartP h1 36 x y z 36 5 = h1 36 5 ∧ addPartP h1 36 x y z 36 6 = h1 36 6 + 1 ∧ addPartP h1 36 x y z 36 7 = h1 36 7 + x ∧ addPartP h1 36 x y z 36 8 = h1 36 8 := by
  have e : ∀ q, wrA (wrA (wrA (wrA h1 (36 + 1) 10 (h1 36 6) (h1 36 7)) (36 + 2) 10 (h1 36 6) x) (36 + 3) 10 (h1 36 6) y) (36 + 4) 10 (h1 36 6) z 36 q = h1 36 q := fun q => by
    rw [wrA_cell (by decide), wrA_cell (by decide), wrA_cell (by decide), wrA_cell (by decide)]
  unfold addPartP
  refine ⟨?_, ?_, ?_, ?_⟩
  · rw [up_ne (by decide), up_ne (by decide), e]
  · rw [up_ne (by decide), up_same]
  · rw [up_same]
  · rw [up_ne (by decide), up_ne (by decide), e]
theorem knit36_ok (hP : PatOK (h 21) (h 22) (h 23) (h 24) (h 25) (h 26)) (hS : StOK (h 30)) (hs : 0 ≤ s ∧ s < 6) (hp : 0 ≤ p ∧ p < rd (h 21) 4 3) :
    Ok 36 [vR 36, vR 29, vI s, vI p] (LC N) h (fun o' Λ' h' => o' = .inl none ∧ Λ' = LC N ∧ PlanIs h' 36 (cDr (h 22) (h 23) (h 24) (h 26) (h 30) s p) (rd (h 25) 6 p).toNat p ∧ Frm 36 h h') := by
  refine ok_body B_X3_knit rfl (fun X hX => ?_)
  have hK := cD_ok hP hS hs hp
  have hpp := hP.2.2.2.2.2 p hp.1 hp.2
  have hp4 := hP.2.2.2.1
  have hp3 := hP.2.2.1
  obtain ⟨n, hn⟩ : ∃ n : Nat, rd (h 25) 6 p = (n : Int) := ⟨(rd (h 25) 6 p).toNat, by omega⟩
  have hn1 : 1 ≤ n ∧ n ≤ 10 := by omega
  have hnn : (rd (h 25) 6 p).toNat = n := by omega
  rw [hnn] at hK hX
  obtain ⟨D, hD⟩ : ∃ D, D = cDr (h 22) (h 23) (h 24) (h 26) (h 30) s p := ⟨_, rfl⟩
  rw [← hD] at hK hX
  have hch : ∀ k : Nat, k < n → -1 ≤ cF (h 26) p k 8 ∧ cF (h 26) p k 8 ≤ 100 := fun k hk => by
    have z := (hpp.2 k (by omega) (by omega)).2.2.2.2.2.2.2.2.2
    omega
  have loop : ∀ (m k : Nat) (h1 : HP) (j7 j8 j9 : PV), k + m = n → (∀ j, j < k → why D j = 0) → Frm 36 h h1 → h1 36 5 = p → h1 36 6 = (k : Int) → h1 36 7 = tp D k → h1 36 8 = 0 → (∀ j : Nat, j < k → rdA h1 37 10 j = tp D j ∧ rdA h1 38 10 j = kR D j ∧ rdA h1 39 10 j = hv D j ∧ rdA h1 40 10 j = hv D (j + 1)) →
      X 39 [vR 36, vR 29, vI s, vI p, vI (n : Int), vI (hv D k), vI (k : Int), j7, j8, j9] [] (LC N) h1 0 0 := by
    intro m
    induction m with
    | zero =>
      intro k h1 j7 j8 j9 hm hw hF f5 f6 f7 f8 hA
      have hk : k = n := by omega
      subst hk
      have emd : md D k = k := md_eq (Nat.le_refl _) hw (Or.inl rfl)
      refine hX 5 [] 39 _ _ _ _ _ _ ?_
      refine And.intro (fun c43 => ?_) (fun c43 => absurd c43 (by omega))
      refine ⟨rfl, rfl, ⟨f5, ?_, ?_, ?_, ?_⟩, hF⟩
      · rw [emd]; exact f6
      · rw [emd]; exact f7
      · rw [f8]; unfold fl; rw [emd, if_neg (Nat.lt_irrefl _)]
      · rw [emd]; exact hA
    | succ m ih =>
      intro k h1 j7 j8 j9 hm hw hF f5 f6 f7 f8 hA
      have hkn : k < n := by omega
      have e21 : h1 21 = h 21 := hF 21 (by decide)
      have e22 : h1 22 = h 22 := hF 22 (by decide)
      have e23 : h1 23 = h 23 := hF 23 (by decide)
      have e24 : h1 24 = h 24 := hF 24 (by decide)
      have e25 : h1 25 = h 25 := hF 25 (by decide)
      have e26 : h1 26 = h 26 := hF 26 (by decide)
      have eA : h1 30 = h 30 := hF 30 (by decide)
      have hb1 := hv_bd hK k (by omega)
      have hb2 := hv_bd hK (k + 1) (by omega)
      have hR := (hK k hkn).2.2.2.1
      have hT := tp_bd hK k (by omega)
      have cr : Ok 37 [vR 36, vR 29, vI s, vI (k : Int)] (LC N) h1 (rt (some (vI (kR D k))) (LC N) h1) := by
        have z := countRows_ok (N := N) (h := h1) (s := s) (k := (k : Int)) (p := p) (tot := h 21) (pc := h 25) (Or.inr ⟨rfl, rfl, rfl⟩) (by rw [e22, e23, e24, e26]; exact hP) (by rw [eA]; exact hS) hs hp ⟨by omega, by omega⟩ f5
        rw [e22, e26, eA] at z
        rw [hD]; exact z
      have cg : Ok 38 [vR 36, vR 29, vI s, vI (k : Int), vI (hv D k)] (LC N) h1 (rt (some (vI (hv D (k + 1)))) (LC N) h1) := by
        have z := countGoal_ok (N := N) (h := h1) (s := s) (k := (k : Int)) (p := p) (x := hv D k) (tot := h 21) (pc := h 25) (Or.inr ⟨rfl, rfl, rfl⟩) (by rw [e22, e23, e24, e26]; exact hP) (by rw [eA]; exact hS) hs hp ⟨by omega, by omega⟩ f5
        rw [e26, eA] at z
        have e : hv D (k + 1) = if cF (h 26) p k 0 = 1 then hv D k else cGl (h 26) (h 30) s p k := by rw [hD]; rfl
        rw [e]; exact z
      have cw : Ok 40 [vR 36, vI (k : Int), vI (kR D k), vI (hv D k), vI (hv D (k + 1))] (LC N) h1 (rt (some (vI (why D k))) (LC N) h1) := by
        have z := reason36_ok (N := N) (h := h1) (k := (k : Int)) (p := p) (x := kR D k) (y := hv D k) (z := hv D (k + 1)) f5 (by omega) (by omega) (by rw [e26]; exact hch k hkn) (by omega) (by omega)
        rw [e26, e23] at z
        have e : why D k = whyV (cF (h 26) p k 0) (cF (h 26) p k 8) (cF (h 26) p k 7) (rd (h 23) 32 (cF (h 26) p k 8 * 8 + 0)) (kR D k) (hv D k) (hv D (k + 1)) := by
          unfold why
          rw [show kK D k = cF (h 26) p k 0 by rw [hD]; rfl, show kH D k = cF (h 26) p k 8 by rw [hD]; rfl, show kP D k = cF (h 26) p k 7 by rw [hD]; rfl, show kW D k = rd (h 23) 32 (cF (h 26) p k 8 * 8 + 0) by rw [hD]; rfl]
        rw [e]; exact z
      refine hX 60 [39] 39 _ _ _ _ _ _ ?_
      refine And.intro (fun c43 => absurd c43 (by omega)) (fun c43 => ?_)
      refine And.intro (fun c50 => absurd f8 c50) (fun c50 => ?_)
      refine Ok_rt cr ?_
      refine Ok_rt cg ?_
      refine Ok_rt cw ?_
      refine And.intro (fun c91 => ?_) (fun c91 => ?_)
      · have q := addP36_f h1 (kR D k) (hv D k) (hv D (k + 1))
        refine Ok_rt (paddPart_ok (Or.inr rfl) ⟨by omega, by omega⟩ ⟨by omega, by omega⟩ ⟨by omega, by omega⟩) ?_
        refine And.intro ⟨by omega, by omega⟩ ?_
        refine ih (k + 1) _ _ _ _ (by omega) (fun j hj => ?_) (fun c hc => ?_) ?_ ?_ ?_ ?_ (fun j hj => ?_)
        · by_cases z : j = k
          · rw [z]; exact c91
          · exact hw j (by omega)
        · rw [addP36_oth _ _ _ _ c hc]; exact hF c hc
        · rw [q.1]; exact f5
        · rw [q.2.1, f6]; rfl
        · rw [q.2.2.1, f7]; rfl
        · rw [q.2.2.2]; exact f8
        · have r := addP36_rd h1 (kR D k) (hv D k) (hv D (k + 1)) j (by omega)
          rw [f6, f7] at r
          by_cases z : j = k
          · subst z
            rw [if_pos rfl, if_pos rfl, if_pos rfl, if_pos rfl] at r
            exact r
          · have z2 : ¬ (j : Int) = (k : Int) := by omega
            rw [if_neg z2, if_neg z2, if_neg z2, if_neg z2] at r
            rw [r.1, r.2.1, r.2.2.1, r.2.2.2]
            exact hA j (by omega)
      · have hwb : -1000 ≤ why D k ∧ why D k ≤ 1000 := by
          unfold why whyV
          repeat' split
          all_goals omega
        refine And.intro ⟨by omega, by omega⟩ ?_
        refine And.intro ⟨by omega, by omega⟩ ?_
        refine And.intro ⟨by omega, by omega⟩ ?_
        have emd : md D n = k := md_eq (by omega) hw (Or.inr c91)
        have hw0 : 0 ≤ why D k := by
          unfold why whyV
          repeat' split
          all_goals omega
        have fin : PlanIs (up h1 36 8 (10 * (k : Int) + why D k)) 36 D n p ∧ Frm 36 h (up h1 36 8 (10 * (k : Int) + why D k)) := by
          refine ⟨⟨?_, ?_, ?_, ?_, fun j hj => ?_⟩, fun c hc => ?_⟩
          · rw [up_ne (by decide)]; exact f5
          · rw [up_ne (by decide), emd]; exact f6
          · rw [up_ne (by decide), emd]; exact f7
          · rw [up_same]; unfold fl; rw [emd, if_pos hkn]
          · rw [emd] at hj
            rw [rdA_up_oth (by decide), rdA_up_oth (by decide), rdA_up_oth (by decide), rdA_up_oth (by decide)]
            exact hA j hj
          · rw [up_cell (by omega)]; exact hF c hc
        refine hX 8 [] 39 _ _ _ _ _ _ ?_
        refine And.intro (fun d43 => ⟨rfl, rfl, fin.1, fin.2⟩) (fun d43 => ?_)
        refine And.intro (fun d50 => ⟨rfl, rfl, fin.1, fin.2⟩) (fun d50 => ?_)
        exfalso
        have d : up h1 36 8 (10 * (k : Int) + why D k) 36 8 = 0 := d50
        rw [up_same] at d
        omega
  refine hX 30 [39] 0 _ _ _ _ _ _ ?_
  refine Ok_rt (partTotal_ok (Or.inr rfl)) ?_
  have e25 : rdA (up (up (up (up h 36 5 p) 36 6 0) 36 7 0) 36 8 0) (19 + 6) 6 (up (up (up (up h 36 5 p) 36 6 0) 36 7 0) 36 8 0 36 5) = (n : Int) := by
    rw [up_ne (by decide), up_ne (by decide), up_ne (by decide), up_same, rdA_up_oth (by decide), rdA_up_oth (by decide), rdA_up_oth (by decide), rdA_up_oth (by decide)]
    exact hn
  rw [e25]
  refine loop n 0 _ _ _ _ (by omega) (fun j hj => absurd hj (Nat.not_lt_zero _)) (fun c hc => ?_) ?_ ?_ ?_ ?_ (fun j hj => absurd hj (Nat.not_lt_zero _))
  · rw [up_cell (by omega), up_cell (by omega), up_cell (by omega), up_cell (by omega)]
  · rw [up_ne (by decide), up_ne (by decide), up_ne (by decide), up_same]
  · rw [up_ne (by decide), up_ne (by decide), up_same]; rfl
  · rw [up_ne (by decide), up_same]; rfl
  · rw [up_same]

end KNIT
