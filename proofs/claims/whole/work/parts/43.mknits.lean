/-! ===== the model: a piece knitted in a size ===== -/
def FrKn (h h' : HP) : Prop := (∀ c, c ≠ 50 → c ≠ 70 → c ≠ 71 → h' c = h c) ∧ ∀ q, q ≠ 39 → q ≠ 40 → q ≠ 41 → h' 50 q = h 50 q
def KnS (h h1 : HP) (D : KD) (k m : Nat) : Prop := FrKn h h1 ∧ h1 50 40 = (k : Int) ∧ h1 50 39 = tp D k ∧ (∀ j : Nat, j < m → h1 71 j = tp D j) ∧ (∀ j : Nat, j < k → ∀ i, 0 ≤ i → i < kR D j → h1 70 (tp D j + i).toNat = sS D j i) ∧ (k ≠ 0 → h1 70 (tp D k - 1).toNat = hv D k)
/-- the model's rows of a piece that was knitted -/
def KnIs (h' : HP) (D : KD) (n : Nat) : Prop := h' 50 40 = (md D n : Nat) ∧ h' 50 39 = tp D (md D n) ∧ h' 50 41 = (if md D n < n then why D (md D n) else 0) ∧ (∀ j : Nat, j ≤ md D n → h' 71 j = tp D j) ∧ ∀ j : Nat, j < md D n → ∀ i, 0 ≤ i → i < kR D j → h' 70 (tp D j + i).toNat = sS D j i
theorem why0_shape {D : KD} {k : Nat} (hkd : kK D k = 2) (h1 : 1 ≤ kP D k) (hH : kH D k = -1) (hw : why D k = 0) : (ab (hv D (k + 1) - hv D k)).tmod (kP D k) = 0 ∧ shp D k ≤ kR D k := by
  have hmod : (ab (hv D (k + 1) - hv D k)).tmod (kP D k) = 0 := by
    by_cases y : (ab (hv D (k + 1) - hv D k)).tmod (kP D k) = 0
    · exact y
    · have : 1 = why D k := why_1 hH hkd h1 y
      omega
  refine ⟨hmod, ?_⟩
  by_cases y : kR D k < shp D k
  · rw [← shp_eq hkd h1] at y
    have : 2 = why D k := why_2 hH hkd h1 hmod y
    omega
  · omega
theorem ab_shp {D : KD} {k : Nat} (hkd : kK D k = 2) (h1 : 1 ≤ kP D k) (hmod : (ab (hv D (k + 1) - hv D k)).tmod (kP D k) = 0) : ab (hv D (k + 1) - hv D k) = kP D k * shp D k := by
  have e1 := Int.tmod_add_mul_tdiv (ab (hv D (k + 1) - hv D k)) (kP D k)
  rw [hmod, shp_eq hkd h1] at e1
  omega
theorem why0_chart {D : KD} {k : Nat} (hH : kH D k ≠ -1) (hw : why D k = 0) : (hv D k).tmod (kW D k) = 0 := by
  unfold why whyV at hw
  rw [if_pos hH] at hw
  by_cases y : kW D k < 1 ∨ (hv D k).tmod (kW D k) ≠ 0
  · rw [if_pos y] at hw; omega
  · by_cases x : (hv D k).tmod (kW D k) = 0
    · exact x
    · exact absurd (Or.inr x) y
theorem hv_R0 {D : KD} {n k : Nat} (hK : KOK D n) (hk : k < n) (hw : why D k = 0) (hR : kR D k = 0) : hv D (k + 1) = hv D k := by
  have kk := hK k hk
  rcases kk.1 with z | z | z
  · have := kk.2.2.2.2.1 z; omega
  · show (if kK D k = 1 then hv D k else kG D k) = hv D k
    rw [if_pos z]
  · have p1 := kk.2.2.2.2.2.2.2.1 z
    have hH : kH D k = -1 := by
      rcases kk.2.2.2.2.2.2.1 with y | y
      · exact y
      · have := y.1; omega
    have w := why0_shape z p1.1 hH hw
    have a := ab_shp z p1.1 w.1
    have b := (shp_bd hK hk).1
    have e : shp D k = 0 := by omega
    rw [e, Int.mul_zero] at a
    have := ab_0 a
    omega
theorem sS_last {D : KD} {n k : Nat} (hK : KOK D n) (hk : k < n) (hw : why D k = 0) (hR : 1 ≤ kR D k) : sS D k (kR D k - 1) = hv D (k + 1) := by
  have kk := hK k hk
  by_cases hH : kH D k = -1
  · by_cases hs : shp D k = 0
    · exact sS_even hH hs _
    · have hkd : kK D k = 2 := by
        by_cases y : kK D k = 2
        · exact y
        · exact absurd (show shp D k = 0 from if_pos (Or.inl y)) hs
      have p1 := kk.2.2.2.2.2.2.2.1 hkd
      have w := why0_shape hkd p1.1 hH hw
      have a := ab_shp hkd p1.1 w.1
      have b := shp_bd hK hk
      have u := up_dn (n := shp D k) (R := kR D k) (q := kR D k - 1) (by omega) w.2 (by omega)
      have m1 : (kR D k - 1 + 1 + 1) * shp D k = shp D k * kR D k + shp D k := by rw [show kR D k - 1 + 1 + 1 = kR D k + 1 by omega, Int.add_mul, Int.mul_comm]; omega
      have v : dnF (shp D k) (kR D k) (kR D k - 1 + 1) = shp D k := by
        unfold dnF
        rw [if_neg hs, m1]
        exact ediv_of (by omega) (by omega) (by omega)
      unfold sS
      rw [if_neg (fun y => y hH), if_neg hs, u, v, ← a]
      unfold ab
      by_cases y : hv D k < hv D (k + 1)
      · rw [if_pos y, if_pos (by omega)]; omega
      · rw [if_neg y]
        split
        · have z0 : ab (hv D (k + 1) - hv D k) = 0 := by unfold ab; split <;> omega
          omega
        · omega
  · obtain ⟨z1, z2, z3, z4, z5, z6, z7⟩ : kK D k = 1 ∧ (0 ≤ kH D k ∧ kH D k ≤ 3) ∧ (1 ≤ kW D k ∧ kW D k ≤ 36) ∧ (1 ≤ kN D k ∧ kN D k ≤ 8) ∧ kR D k % kN D k = 0 ∧ (∀ i, 0 ≤ i → i < kN D k → 1 ≤ kM D k i ∧ kM D k i ≤ 12) ∧ kM D k (kN D k - 1) = kW D k := by
      rcases kk.2.2.2.2.2.2.1 with y | y
      · exact absurd y hH
      · exact y
    have wm := why0_chart hH hw
    have e1 := Int.tmod_add_mul_tdiv (hv D k) (kW D k)
    have em : (kR D k - 1).tmod (kN D k) = kN D k - 1 := by
      rw [Int.tmod_eq_emod_of_nonneg (by omega)]
      have f := Int.mul_ediv_add_emod (kR D k) (kN D k)
      have e : kR D k - 1 = (kN D k - 1) + kN D k * (kR D k / kN D k - 1) := by rw [Int.mul_sub]; omega
      rw [e, Int.add_mul_emod_self_left, Int.emod_eq_of_lt (by omega) (by omega)]
    have eh : hv D (k + 1) = hv D k := by
      show (if kK D k = 1 then hv D k else kG D k) = hv D k
      rw [if_pos z1]
    unfold sS rpt
    rw [if_pos hH, if_neg (by omega), if_neg (by omega), em, z7, eh, Int.mul_comm]
    omega
theorem KnS_next {h h1 h2 : HP} {D : KD} {n k : Nat} {v : Int} (hK : KOK D n) (hk : k < n) (H : KnS h h1 D k (k + 1)) (G : Kn1 h1 h2 D k) (hw : why D k = 0) (hv1 : v = (k : Int) + 1) : KnS h (up h2 50 40 v) D (k + 1) (k + 1) := by
  obtain ⟨f, a1, a2, a3, a4, a5⟩ := H
  obtain ⟨g1, g2, g3, g4, g5, g6⟩ := G
  obtain ⟨g7, g8⟩ := g4 hw
  have t0 := tp_bd hK k (by omega)
  have R0 := (hK k hk).2.2.2.1
  have et : tp D (k + 1) = tp D k + kR D k := rfl
  refine ⟨⟨fun c c1 c2 c3 => ?_, fun q q1 q2 q3 => ?_⟩, ?_, ?_, fun j hj => ?_, fun j hj i i0 i1 => ?_, fun _ => ?_⟩
  · rw [up_cell c1, g1 c c1 c2]; exact f.1 c c1 c2 c3
  · rw [up_ne q2, g2 q q1 q3]; exact f.2 q q1 q2 q3
  · rw [up_same, hv1]; rfl
  · rw [up_ne (by decide)]; exact g7
  · rw [up_cell (by decide), g1 71 (by decide) (by decide)]; exact a3 j hj
  · rw [up_cell (by decide)]
    by_cases z : j = k
    · subst z; exact g8 i i0 i1
    · have tj := tp_bd hK j (by omega)
      have tl : tp D (j + 1) ≤ tp D k := tp_le hK (by omega) (by omega)
      have ej : tp D (j + 1) = tp D j + kR D j := rfl
      rw [g6 _ (by omega)]
      exact a4 j (by omega) i i0 i1
  · rw [up_cell (by decide)]
    by_cases z : kR D k = 0
    · have k0 : k ≠ 0 := fun y => by
        subst y
        have := (hK 0 hk).2.2.2.2.1 ((hK 0 hk).2.1.mpr rfl)
        omega
      have t1 := (tp_bd2 hK k (by omega)).2 k0
      rw [et, z, Int.add_zero, g6 _ (by omega), hv_R0 hK hk hw z]
      exact a5 k0
    · have l := sS_last hK hk hw (by omega)
      rw [← l, et, show tp D k + kR D k - 1 = tp D k + (kR D k - 1) by omega]
      exact g8 _ (by omega) (by omega)
theorem KnS_x {h h1 h2 : HP} {D : KD} {k : Nat} {v : Int} (H : KnS h h1 D k (k + 1)) (G : Kn1 h1 h2 D k) (hw : why D k ≠ 0) (hv1 : v = (k : Int)) (ht : 0 ≤ tp D k) (hR : ∀ j : Nat, j < k → 0 ≤ tp D j ∧ tp D j + kR D j ≤ tp D k) (h0 : k ≠ 0 → 1 ≤ tp D k) : KnS h (up h2 50 40 v) D k (k + 1) ∧ up h2 50 40 v 50 41 = why D k := by
  obtain ⟨f, a1, a2, a3, a4, a5⟩ := H
  obtain ⟨g1, g2, g3, g4, g5, g6⟩ := G
  refine ⟨⟨⟨fun c c1 c2 c3 => ?_, fun q q1 q2 q3 => ?_⟩, ?_, ?_, fun j hj => ?_, fun j hj i i0 i1 => ?_, fun z => ?_⟩, ?_⟩
  · rw [up_cell c1, g1 c c1 c2]; exact f.1 c c1 c2 c3
  · rw [up_ne q2, g2 q q1 q3]; exact f.2 q q1 q2 q3
  · rw [up_same, hv1]
  · rw [up_ne (by decide), g5 hw]; exact a2
  · rw [up_cell (by decide), g1 71 (by decide) (by decide)]; exact a3 j hj
  · have := hR j hj
    rw [up_cell (by decide), g6 _ (by omega)]
    exact a4 j hj i i0 i1
  · have := h0 z
    rw [up_cell (by decide), g6 _ (by omega)]
    exact a5 z
  · rw [up_ne (by decide)]; exact g3
section MKNITS
variable {M : List CT} {h : HP} {s p : Int} {n : Nat} {st : Nat → Int} {D : KD}
theorem m_knits (hM : Cpl h) (hC : CI h) (hs : isSz h s) (hp : isPc h p) (hB : StC (h 69) st) (hS : StOK st) (hD : D = cDr (h 22) (h 23) (h 24) (h 26) st s p) (hn : rd (h 25) 6 p = (n : Int)) :
    Ok 232 [vR 50, vI s, vI p] (LL M) h (fun o Λ' h' => o = .inl none ∧ Λ' = LL M ∧ FrKn h h' ∧ KnIs h' D n) := by
  have b0 := hC.1.1
  have b3 := hC.1.2.2.2.1
  have bp := (hC.1.2.2.2.2.2 p hp.1 hp.2).1
  have s0 : 0 ≤ s ∧ s < 6 := ⟨hs.1, by have := hs.2; omega⟩
  have p0 : 0 ≤ p ∧ p < 6 := ⟨hp.1, by have := hp.2; omega⟩
  have hK := cD_ok hC.1 hS s0 hp
  have hnn : (rd (h 25) 6 p).toNat = n := by omega
  rw [hnn, ← hD] at hK
  have pq := (hM.2.2.1 p hp.1 hp.2).1
  rw [rd_in p0.1 (by omega), hn] at pq
  have hpa : ∀ k : Nat, k < n → isPa h p k := fun k hk => ⟨by omega, by omega⟩
  have tr : ∀ h1, FrKn h h1 → Cpl h1 ∧ CI h1 ∧ isSz h1 s ∧ isPc h1 p ∧ (∀ k : Nat, k < n → isPa h1 p k) ∧ StC (h1 69) st ∧ D = cDr (h1 22) (h1 23) (h1 24) (h1 26) st s p ∧ h1 54 p.toNat = n ∧ h1 26 = h 26 := by
    intro h1 f
    have e : ∀ c, c < 50 → h1 c = h c := fun c hc => f.1 c (by omega) (by omega) (by omega)
    have e2 : ∀ c, 51 ≤ c → c ≤ 69 → h1 c = h c := fun c hc hc2 => f.1 c (by omega) (by omega) (by omega)
    refine ⟨Cpl_fr hM (fun c a b => e c (by omega)) (fun c a b => e2 c a (by omega)) (fun j a b => f.2 j (by omega) (by omega) (by omega)), CI_fr hC (fun c a b => e c (by omega)), ?_, ?_, fun k hk => ?_, ?_, ?_, ?_, e 26 (by decide)⟩
    · unfold isSz; rw [e 21 (by decide)]; exact hs
    · unfold isPc; rw [e 21 (by decide)]; exact hp
    · unfold isPa; rw [e 25 (by decide)]; exact hpa k hk
    · rw [e2 69 (by decide) (by decide)]; exact hB
    · rw [e 22 (by decide), e 23 (by decide), e 24 (by decide), e 26 (by decide)]; exact hD
    · rw [e2 54 (by decide) (by decide)]; exact pq
  have hk0 : ∀ k : Nat, k < n → cF (h 26) p k 0 = kK D k := fun k _ => by rw [hD]; rfl
  clear hM hC hs hp hB
  refine ok_body B_X9_knits rfl (fun X hX => ?_)
  have fin : ∀ (e : Nat) (h1 : HP) (j3 : PV), e ≤ n → KnS h h1 D e e → (∀ j, j < e → why D j = 0) → ((e = n ∧ h1 50 41 = 0) ∨ (e < n ∧ why D e ≠ 0 ∧ h1 50 41 = why D e)) → X 187 [vR 50, vI s, vI p, j3] [] (LL M) h1 0 0 := by
    intro e h1 j3 he hk1 hw hx
    obtain ⟨f, a1, a2, a3, a4, a5⟩ := hk1
    have emd : md D n = e := md_eq he hw (by rcases hx with y | y; exact Or.inl y.1; exact Or.inr y.2.1)
    have ee : (h1 50 40).toNat = e := by omega
    refine hX 12 [] 187 _ _ _ _ _ _ ?_
    refine And.intro ⟨by omega, by omega⟩ ?_
    refine ⟨rfl, rfl, ⟨fun c c1 c2 c3 => ?_, fun q q1 q2 q3 => ?_⟩, ?_, ?_, ?_, fun j hj => ?_, fun j hj i i0 i1 => ?_⟩
    · rw [up_cell c3]; exact f.1 c c1 c2 c3
    · rw [up_cell (by decide)]; exact f.2 q q1 q2 q3
    · rw [up_cell (by decide), emd]; exact a1
    · rw [up_cell (by decide), emd]; exact a2
    · rw [up_cell (by decide), emd]
      rcases hx with y | y
      · rw [if_neg (by omega)]; exact y.2
      · rw [if_pos y.1]; exact y.2.2
    · rw [emd] at hj
      rw [ee]
      by_cases z : j = e
      · subst z; rw [up_same]; exact a2
      · rw [up_ne z]; exact a3 j (by omega)
    · rw [emd] at hj
      rw [up_cell (by decide)]
      exact a4 j hj i i0 i1
  have loop : ∀ (m k : Nat) (h1 : HP) (j3 : PV), k + m = n → (∀ j, j < k → why D j = 0) → KnS h h1 D k k → h1 50 41 = 0 → X 15 [vR 50, vI s, vI p, j3] [] (LL M) h1 0 0 := by
    intro m
    induction m with
    | zero =>
      intro k h1 j3 hm hw hk1 h41
      have ek : k = n := by omega
      have t := tr h1 hk1.1
      have a1 := hk1.2.1
      have e54 := t.2.2.2.2.2.2.2.1
      refine hX 12 [187] 15 _ _ _ _ _ _ ?_
      refine And.intro ⟨by omega, by omega⟩ ?_
      rw [e54]
      refine And.intro (fun c25 => ?_) (fun c25 => absurd c25 (by omega))
      exact fin k h1 _ (by omega) hk1 hw (Or.inl ⟨ek, h41⟩)
    | succ m ih =>
      intro k h1 j3 hm hw hk1 h41
      have hkn : k < n := by omega
      have t := tr h1 hk1.1
      have a1 := hk1.2.1
      have e54 := t.2.2.2.2.2.2.2.1
      have hvb := hv_bd hK k (by omega)
      have tb := tp_bd2 hK k (by omega)
      have rm := tp_room hK (by omega) hkn
      have tj : ∀ j : Nat, j < k → 0 ≤ tp D j ∧ tp D j + kR D j ≤ tp D k := fun j hj => ⟨(tp_bd2 hK j (by omega)).1, by have := tp_le hK (show j + 1 ≤ k by omega) (by omega); exact this⟩
      have back : ∀ (h4 : HP) (j3 : PV), KnS h h4 D k k → h4 50 41 = why D k → why D k ≠ 0 → X 15 [vR 50, vI s, vI p, j3] [] (LL M) h4 0 0 := by
        intro h4 j3 q3 q2 c
        have q4 := (tr _ q3.1).2.2.2.2.2.2.2.1
        have q5 := q3.2.1
        have go := fin k h4 j3 (by omega) q3 hw (Or.inr ⟨hkn, c, q2⟩)
        refine hX 20 [187] 15 _ _ _ _ _ _ ?_
        refine And.intro ⟨by omega, by omega⟩ ?_
        rw [q4]
        refine And.intro (fun c25 => absurd c25 (by omega)) (fun c25 => ?_)
        refine And.intro (fun c32 => go) (fun c32 => ?_)
        exact absurd (q2.symm.trans c32) c
      -- behind the work, shape or cast
      have aft : ∀ (h2 h3 : HP) (j3 : PV), KnS h h2 D k (k + 1) → Kn1 h2 h3 D k → X 163 [vR 50, vI s, vI p, j3] [] (LL M) h3 0 0 := by
        intro h2 h3 j3 H G
        have g40 : h3 50 40 = (k : Int) := by rw [G.2.1 40 (by decide) (by decide)]; exact H.2.1
        have g41 := G.2.2.1
        refine hX 30 [15] 163 _ _ _ _ _ _ ?_
        refine And.intro (fun c172 => ?_) (fun c172 => ?_)
        · have c : why D k ≠ 0 := by rw [← g41]; exact c172
          refine And.intro ⟨by omega, by omega⟩ ?_
          obtain ⟨q1, q2⟩ := KnS_x (v := h3 50 40 + 0) H G c (by omega) tb.1 tj (fun z => (tb.2 z).1)
          have q3 : KnS h (up h3 50 40 (h3 50 40 + 0)) D k k := ⟨q1.1, q1.2.1, q1.2.2.1, fun j hj => q1.2.2.2.1 j (by omega), q1.2.2.2.2⟩
          exact back _ j3 q3 q2 c
        · have c : why D k = 0 := by rw [← g41]; exact c172
          refine And.intro ⟨by omega, by omega⟩ ?_
          have q1 := KnS_next (v := h3 50 40 + 1) hK hkn H G c (by omega)
          refine ih (k + 1) _ _ (by omega) (fun j hj => ?_) q1 ?_
          · by_cases z : j = k
            · rw [z]; exact c
            · exact hw j (by omega)
          · rw [up_ne (by decide), g41]; exact c
      have body : ∀ (h2 : HP), KnS h h2 D k (k + 1) → h2 50 41 = 0 → X 71 [vR 50, vI s, vI p, vI (hv D k)] [] (LL M) h2 0 0 := by
        intro h2 H h41
        obtain ⟨t1, t2, t3, t4, t5, t6, t7, t8, t9⟩ := tr h2 H.1
        have f40 := H.2.1
        have f39 := H.2.2.1
        have ofk : ∀ h3 x v, FrKn h h3 → x = (k : Int) → kK D k = v → Ok 223 [vR 50, vI p, vI x, vI 0] (LL M) h3 (rt (some (vI v)) (LL M) h3) := by
          intro h3 x v f3 hx hv1
          subst hx
          rw [← hv1]
          obtain ⟨u1, u2, u3, u4, u5, u6, u7, u8, u9⟩ := tr h3 f3
          have z := m_of (M := M) u1 u2 u4 (u5 k hkn) (w := 0) (by decide)
          have y := ((u1.2.2.1 p u4.1 u4.2).2 k (u5 k hkn).1 (u5 k hkn).2).1.1
          rw [y, u9, hk0 k hkn] at z
          exact z
        have kd := (hK k hkn).1
        rcases kd with kd | kd | kd
        · have k0 : k = 0 := (hK k hkn).2.1.mp kd
          have kR1 : kR D k = 1 := (hK k hkn).2.2.2.2.1 kd
          have kH1 : kH D k = -1 := by
            rcases (hK k hkn).2.2.2.2.2.2.1 with y | y
            · exact y
            · have := y.1; omega
          have w0 : why D k = 0 := (why_n kH1 (Or.inl (by omega))).symm
          have e1 : cGl (h2 26) st s p k = sS D k 0 := by
            rw [sS_even kH1 (show shp D k = 0 from if_pos (Or.inl (by omega)))]
            show _ = (if kK D k = 1 then hv D k else kG D k)
            rw [if_neg (by omega), t9, hD]; rfl
          have cnt := m_countOf (M := M) t1 t2 t3 t4 (t5 k hkn) t6 hS (by rw [t9, hk0 k hkn]; omega)
          rw [e1, ← f40] at cnt
          have o1 := ofk h2 _ _ H.1 f40 kd
          refine hX 60 [96] 71 _ _ _ _ _ _ ?_
          refine Ok_rt o1 ?_
          refine And.intro (fun _ => ?_) (fun c => absurd c (by decide))
          refine hX 60 [121] 96 _ _ _ _ _ _ ?_
          refine Ok_rt o1 ?_
          refine And.intro (fun _ => ?_) (fun c => absurd c (by decide))
          refine hX 60 [163] 121 _ _ _ _ _ _ ?_
          refine Ok_rt o1 ?_
          refine And.intro (fun c => absurd rfl c) (fun _ => ?_)
          refine Ok_rt cnt ?_
          refine And.intro ⟨by omega, by omega⟩ ?_
          refine And.intro (by rw [up_cell (show (50 : Nat) ≠ 70 by decide)]; exact ⟨by omega, by omega⟩) ?_
          have S0 : Sti h2 h2 D k 0 := ⟨fun c _ _ => rfl, fun j _ => rfl, by omega, fun i a b => absurd a (by omega), fun j _ => rfl⟩
          have S1 := Sti_push (v := sS D k 0) S0 tb.1 (by omega) rfl
          have e2 : up (up h2 70 (h2 50 39).toNat (sS D k 0)) 50 39 (up h2 70 (h2 50 39).toNat (sS D k 0) 50 39 + 1) = pushS h2 (sS D k 0) := by unfold pushS; rw [up_cell (show (50 : Nat) ≠ 70 by decide)]
          have K1 : Kn1 h2 (pushS h2 (sS D k 0)) D k := Kn1_of (by rw [kR1]; exact S1) w0 h41
          have go := aft h2 _ (vI (hv D k)) H K1
          rw [← e2] at go
          exact go
        · have o1 := ofk h2 _ _ H.1 f40 kd
          refine hX 60 [96] 71 _ _ _ _ _ _ ?_
          refine Ok_rt o1 ?_
          refine And.intro (fun c => absurd rfl c) (fun _ => ?_)
          have wk := m_works (M := M) t1 t2 t3 t4 (t5 k hkn) t6 hS t7 kd f39 h41
          rw [← f40] at wk
          refine Ok_mono (fun o' Λ' h3 hpost => ?_) wk
          obtain ⟨rfl, rfl, G⟩ := hpost
          have f3 : FrKn h h3 := ⟨fun c c1 c2 c3 => by rw [G.1 c c1 c2]; exact H.1.1 c c1 c2 c3, fun q q1 q2 q3 => by rw [G.2.1 q q1 q3]; exact H.1.2 q q1 q2 q3⟩
          have g40 : h3 50 40 = (k : Int) := by rw [G.2.1 40 (by decide) (by decide)]; exact f40
          have o2 := ofk h3 _ _ f3 g40 kd
          have go := aft h2 h3 (vI (hv D k)) H G
          refine hX 60 [121] 96 _ _ _ _ _ _ ?_
          refine Ok_rt o2 ?_
          refine And.intro (fun _ => ?_) (fun c => absurd c (by decide))
          refine hX 60 [163] 121 _ _ _ _ _ _ ?_
          refine Ok_rt o2 ?_
          refine And.intro (fun _ => ?_) (fun c => absurd c (by decide))
          exact go
        · have o1 := ofk h2 _ _ H.1 f40 kd
          refine hX 60 [96] 71 _ _ _ _ _ _ ?_
          refine Ok_rt o1 ?_
          refine And.intro (fun _ => ?_) (fun c => absurd c (by decide))
          refine hX 60 [121] 96 _ _ _ _ _ _ ?_
          refine Ok_rt o1 ?_
          refine And.intro (fun c => absurd rfl c) (fun _ => ?_)
          have wk := m_shapes (M := M) t1 t2 t3 t4 (t5 k hkn) t6 hS t7 kd f39
          rw [← f40] at wk
          refine Ok_mono (fun o' Λ' h3 hpost => ?_) wk
          obtain ⟨rfl, rfl, G⟩ := hpost
          have f3 : FrKn h h3 := ⟨fun c c1 c2 c3 => by rw [G.1 c c1 c2]; exact H.1.1 c c1 c2 c3, fun q q1 q2 q3 => by rw [G.2.1 q q1 q3]; exact H.1.2 q q1 q2 q3⟩
          have g40 : h3 50 40 = (k : Int) := by rw [G.2.1 40 (by decide) (by decide)]; exact f40
          have o2 := ofk h3 _ _ f3 g40 kd
          have go := aft h2 h3 (vI (hv D k)) H G
          refine hX 60 [163] 121 _ _ _ _ _ _ ?_
          refine Ok_rt o2 ?_
          refine And.intro (fun _ => ?_) (fun c => absurd c (by decide))
          exact go
      have at48 : ∀ (h2 : HP), KnS h h2 D k (k + 1) → h2 50 41 = 0 → X 48 [vR 50, vI s, vI p, j3] [] (LL M) h2 0 0 := by
        intro h2 H1 g41
        have f39 := H1.2.2.1
        have f70 := H1.2.2.2.2.2
        refine hX 30 [71] 48 _ _ _ _ _ _ ?_
        refine And.intro (fun c52 => ?_) (fun c52 => ?_)
        · have k0 : k ≠ 0 := fun z => by subst z; exact c52 f39
          have t1 := (tb.2 k0).1
          refine And.intro ⟨by omega, by omega⟩ ?_
          refine And.intro ⟨by omega, by omega⟩ ?_
          have e : h2 70 (h2 50 39 - 1).toNat = hv D k := by rw [f39]; exact f70 k0
          rw [e]
          exact body h2 H1 g41
        · have k0 : k = 0 := by
            by_cases z : k = 0
            · exact z
            · have t1 := (tb.2 z).1
              have c52 : h2 50 39 = 0 := c52
              omega
          have e : (0 : Int) = hv D k := by rw [k0]; rfl
          have g := body h2 H1 g41
          rw [← e] at g
          exact g
      have a2 := hk1.2.2.1
      have e40 : (h1 50 40).toNat = k := by omega
      have H1 : KnS h (up h1 71 (h1 50 40).toNat (h1 50 39)) D k (k + 1) := by
        obtain ⟨f, a1, a2, a3, a4, a5⟩ := hk1
        rw [e40]
        refine ⟨⟨fun c c1 c2 c3 => ?_, fun q q1 q2 q3 => ?_⟩, ?_, ?_, fun j hj => ?_, fun j hj i i0 i1 => ?_, fun z => ?_⟩
        · rw [up_cell c3]; exact f.1 c c1 c2 c3
        · rw [up_cell (by decide)]; exact f.2 q q1 q2 q3
        · rw [up_cell (by decide)]; exact a1
        · rw [up_cell (by decide)]; exact a2
        · by_cases z : j = k
          · subst z; rw [up_same]; exact a2
          · rw [up_ne z]; exact a3 j (by omega)
        · rw [up_cell (by decide)]; exact a4 j hj i i0 i1
        · rw [up_cell (by decide)]; exact a5 z
      have g41 : up h1 71 (h1 50 40).toNat (h1 50 39) 50 41 = 0 := by rw [up_cell (by decide)]; exact h41
      refine hX 30 [48] 15 _ _ _ _ _ _ ?_
      refine And.intro ⟨by omega, by omega⟩ ?_
      rw [e54]
      refine And.intro (fun c25 => absurd c25 (by omega)) (fun c25 => ?_)
      refine And.intro (fun c32 => absurd h41 c32) (fun c32 => ?_)
      refine And.intro ⟨by omega, by omega⟩ ?_
      exact at48 _ H1 g41
  refine hX 30 [15] 0 _ _ _ _ _ _ ?_
  refine loop n 0 _ _ (by omega) (fun j hj => absurd hj (Nat.not_lt_zero _)) ⟨⟨fun c c1 c2 c3 => ?_, fun q q1 q2 q3 => ?_⟩, ?_, ?_, fun j hj => absurd hj (Nat.not_lt_zero _), fun j hj => absurd hj (Nat.not_lt_zero _), fun z => absurd rfl z⟩ ?_
  · rw [up_cell c1, up_cell c1, up_cell c1]
  · rw [up_ne q2, up_ne q3, up_ne q1]
  · rw [up_same]; rfl
  · rw [up_ne (by decide), up_ne (by decide), up_same]; rfl
  · rw [up_ne (by decide), up_same]
end MKNITS
