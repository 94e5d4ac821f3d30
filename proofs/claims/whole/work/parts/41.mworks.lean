/-! ===== the model: a work, row by row ===== -/
theorem Cpl_fr {h h' : HP} (H : Cpl h) (hc : ∀ c, 21 ≤ c → c ≤ 28 → h' c = h c) (hc2 : ∀ c, 51 ≤ c → c ≤ 57 → h' c = h c) (h5 : ∀ j, 1 ≤ j → j ≤ 4 → h' 50 j = h 50 j) : Cpl h' := by
  unfold Cpl at *
  rw [hc 21 (by decide) (by decide), hc 22 (by decide) (by decide), hc 23 (by decide) (by decide), hc 24 (by decide) (by decide), hc 25 (by decide) (by decide), hc 26 (by decide) (by decide), hc 28 (by decide) (by decide), hc2 51 (by decide) (by decide), hc2 52 (by decide) (by decide), hc2 53 (by decide) (by decide), hc2 54 (by decide) (by decide), hc2 55 (by decide) (by decide), hc2 57 (by decide) (by decide), h5 1 (by decide) (by decide), h5 2 (by decide) (by decide), h5 3 (by decide) (by decide), h5 4 (by decide) (by decide)]
  exact H
theorem CI_fr {h h' : HP} (H : CI h) (hc : ∀ c, 21 ≤ c → c ≤ 28 → h' c = h c) : CI h' :=
  CI_of H (hc 21 (by decide) (by decide)) (hc 22 (by decide) (by decide)) (hc 23 (by decide) (by decide)) (hc 24 (by decide) (by decide)) (hc 25 (by decide) (by decide)) (hc 26 (by decide) (by decide)) (by rw [hc 28 (by decide) (by decide)]; exact H.2)
theorem tp_bd2 {D : KD} {n : Nat} (h : KOK D n) : ∀ k : Nat, k ≤ n → 0 ≤ tp D k ∧ (k ≠ 0 → 1 ≤ tp D k ∧ tp D k ≤ 1 + 2980 * ((k : Int) - 1))
  | 0, _ => ⟨by unfold tp; omega, fun q => absurd rfl q⟩
  | k + 1, hk => by
    have ih := tp_bd2 h k (by omega)
    have hh := h k (by omega)
    have h4 := hh.2.2.2.1
    have e : tp D (k + 1) = tp D k + kR D k := rfl
    by_cases z : k = 0
    · subst z
      have e0 : tp D 0 = 0 := rfl
      have := hh.2.2.2.2.1 (hh.2.1.mpr rfl)
      refine ⟨by omega, fun _ => ⟨by omega, by omega⟩⟩
    · have i2 := ih.2 z
      refine ⟨by omega, fun _ => ⟨by omega, by omega⟩⟩
theorem tp_room {D : KD} {n : Nat} (h : KOK D n) (hn : n ≤ 10) {k : Nat} (hk : k < n) : 0 ≤ tp D k ∧ tp D k + kR D k ≤ 26821 := by
  have a := tp_bd2 h k (by omega)
  have b := tp_bd2 h (k + 1) (by omega)
  have e : tp D (k + 1) = tp D k + kR D k := rfl
  have c := b.2 (by omega)
  exact ⟨a.1, by omega⟩
/-- one more stitch row -/
def pushS (h1 : HP) (v : Int) : HP := up (up h1 70 (h1 50 39).toNat v) 50 39 (h1 50 39 + 1)
/-- q rows of part k are knitted -/
def Sti (h h1 : HP) (D : KD) (k : Nat) (q : Int) : Prop := (∀ c, c ≠ 50 → c ≠ 70 → h1 c = h c) ∧ (∀ j, j ≠ 39 → h1 50 j = h 50 j) ∧ h1 50 39 = tp D k + q ∧ (∀ i, 0 ≤ i → i < q → h1 70 (tp D k + i).toNat = sS D k i) ∧ ∀ j : Nat, (j : Int) < tp D k → h1 70 j = h 70 j
theorem Sti_push {h h1 : HP} {D : KD} {k : Nat} {q v : Int} (H : Sti h h1 D k q) (h0 : 0 ≤ tp D k) (hq : 0 ≤ q) (hv : v = sS D k q) : Sti h (pushS h1 v) D k (q + 1) := by
  obtain ⟨a, b, c, d, e⟩ := H
  subst hv
  unfold pushS
  refine ⟨fun z z1 z2 => ?_, fun j hj => ?_, ?_, fun i hi0 hi1 => ?_, fun j hj => ?_⟩
  · rw [up_cell z1, up_cell z2]; exact a z z1 z2
  · rw [up_ne hj, up_cell (by decide)]; exact b j hj
  · rw [up_same]; omega
  · rw [up_cell (by decide)]
    by_cases z : i = q
    · subst z; rw [c, up_same]
    · rw [up_ne (by omega)]; exact d i hi0 (by omega)
  · rw [up_cell (by decide), up_ne (by omega)]; exact e j hj
/-- part k is knitted, or can't be -/
def Kn1 (h h' : HP) (D : KD) (k : Nat) : Prop := (∀ c, c ≠ 50 → c ≠ 70 → h' c = h c) ∧ (∀ q, q ≠ 39 → q ≠ 41 → h' 50 q = h 50 q) ∧ h' 50 41 = why D k ∧
  (why D k = 0 → h' 50 39 = tp D (k + 1) ∧ ∀ i, 0 ≤ i → i < kR D k → h' 70 (tp D k + i).toNat = sS D k i) ∧ (why D k ≠ 0 → h' 50 39 = h 50 39) ∧ ∀ q : Nat, (q : Int) < tp D k → h' 70 q = h 70 q
theorem Kn1_of {h h1 : HP} {D : KD} {k : Nat} (H : Sti h h1 D k (kR D k)) (hw : why D k = 0) (h4 : h 50 41 = 0) : Kn1 h h1 D k :=
  ⟨H.1, fun q q1 _ => H.2.1 q q1, by rw [H.2.1 41 (by decide), h4, hw], fun _ => ⟨H.2.2.1, H.2.2.2.1⟩, fun z => absurd hw z, H.2.2.2.2⟩
theorem Kn1_x {h : HP} {D : KD} {k : Nat} {v : Int} (hv : v = why D k) (hw : why D k ≠ 0) : Kn1 h (up h 50 41 v) D k :=
  ⟨fun c c1 _ => up_cell c1, fun q _ q2 => up_ne q2, by rw [up_same, hv], fun z => absurd z hw, fun _ => up_ne (by decide), fun q _ => by rw [up_cell (by decide)]⟩
theorem sS_work {D : KD} {k : Nat} {i : Int} (h1 : kK D k = 1) (h2 : kH D k = -1) : sS D k i = hv D k := by
  have e : shp D k = 0 := by unfold shp; rw [if_pos (Or.inl (by omega))]
  rw [sS_even h2 e]
  show (if kK D k = 1 then hv D k else kG D k) = hv D k
  rw [if_pos h1]
section MWORKS
variable {M : List CT} {h : HP} {s p : Int} {k : Nat} {st : Nat → Int} {D : KD}
theorem m_works (hM : Cpl h) (hC : CI h) (hs : isSz h s) (hp : isPc h p) (hk : isPa h p k) (hB : StC (h 69) st) (hS : StOK st) (hD : D = cDr (h 22) (h 23) (h 24) (h 26) st s p) (hkd : kK D k = 1) (hr : h 50 39 = tp D k) (hw : h 50 41 = 0) :
    Ok 230 [vR 50, vI s, vI p, vI (k : Int), vI (hv D k)] (LL M) h (fun o Λ' h' => o = .inl none ∧ Λ' = LL M ∧ Kn1 h h' D k) := by
  have b0 := hC.1.1
  have b2 := hC.1.2.2.1
  have b3 := hC.1.2.2.2.1
  have bp := (hC.1.2.2.2.2.2 p hp.1 hp.2).1
  have s0 : 0 ≤ s ∧ s < 6 := ⟨hs.1, by have := hs.2; omega⟩
  have hK := cD_ok hC.1 hS s0 hp
  rw [← hD] at hK
  obtain ⟨n, hn⟩ : ∃ n : Nat, rd (h 25) 6 p = (n : Int) := ⟨(rd (h 25) 6 p).toNat, by omega⟩
  have hnn : (rd (h 25) 6 p).toNat = n := by omega
  rw [hnn] at hK
  have hkn : k < n := by have := hk.2; omega
  have pk := (hC.1.2.2.2.2.2 p hp.1 hp.2).2 k hk.1 hk.2
  have z10 := pk.2.2.2.2.2.2.2.2.2
  have pm := (hM.2.2.1 p hp.1 hp.2).2 k hk.1 hk.2
  have e0 : cF (h 26) p k 0 = kK D k := by rw [hD]; rfl
  have e8 : cF (h 26) p k 8 = kH D k := by rw [hD]; rfl
  have eR : cRw (h 22) (h 26) st s p k = kR D k := by rw [hD]; rfl
  have eW : kW D k = rd (h 23) 32 (cF (h 26) p k 8 * 8 + 0) := by rw [hD]; rfl
  have eN : kN D k = rd (h 22) 4 (cF (h 26) p k 8) := by rw [hD]; rfl
  have eM : ∀ i, kM D k i = rd (h 24) 32 (cF (h 26) p k 8 * 8 + i) := fun i => by rw [hD]; rfl
  have fr := m_rowsOf (M := M) hM hC hs hp hk hB hS (by omega)
  rw [eR] at fr
  have f7 := m_of (M := M) hM hC hp hk (w := 7) (by decide)
  rw [pm.2.2.2.2, e8] at f7
  rw [e8] at eW eN z10
  have eM : ∀ i, kM D k i = rd (h 24) 32 (kH D k * 8 + i) := fun i => by rw [eM i, e8]
  clear pk pm e8 e0
  have kk := hK k hkn
  have kR0 := kk.2.2.2.1
  have kch := kk.2.2.2.2.2.2.1
  have hvb := hv_bd hK k (by omega)
  have tr := tp_room hK (by omega) hkn
  have kP0 : kP D k = 0 := kk.2.2.2.2.2.2.2.2 (by omega)
  clear kk
  refine ok_body B_X9_works rfl (fun X hX => ?_)
  have hcm : kH D k ≠ -1 → (0 ≤ kH D k ∧ kH D k < 4) ∧ h 51 (kH D k).toNat = kN D k ∧ h 52 (8 * kH D k).toNat = kW D k ∧ ∀ r, 0 ≤ r → r < kN D k → h 53 (8 * kH D k + r).toNat = kM D k r := by
    intro c
    have y : 0 ≤ kH D k ∧ kH D k < rd (h 21) 4 2 := by
      rcases z10 with z | z
      · exact absurd z c
      · exact z.2
    have mc := hM.2.1 _ y.1 y.2
    have m1 := mc.1
    rw [rd_in y.1 (by omega), ← eN] at m1
    have kc : 1 ≤ kN D k ∧ kN D k ≤ 8 := by rcases kch with z | z; exact absurd z c; exact z.2.2.2.1
    refine ⟨⟨y.1, by omega⟩, m1, ?_, fun r r0 r1 => ?_⟩
    · have m2 := (mc.2 0 (by omega) (by rw [← eN]; omega)).1
      rw [Int.add_zero, rd_in (by omega) (by omega), ← eW] at m2
      exact m2
    · have m2 := (mc.2 r r0 (by rw [← eN]; omega)).2
      rw [rd_in (by omega) (by omega), ← eM] at m2
      exact m2
  clear hM hC hB hS eM eW eN z10 b2 b3 b0
  have why0 : why D k = 0 → kH D k ≠ -1 → (hv D k).tmod (kW D k) = 0 := by
    intro w c
    unfold why whyV at w
    rw [if_pos c] at w
    by_cases y : kW D k < 1 ∨ (hv D k).tmod (kW D k) ≠ 0
    · rw [if_pos y] at w; omega
    · by_cases x : (hv D k).tmod (kW D k) = 0
      · exact x
      · exact absurd (Or.inr x) y
  have loop : ∀ (W : Int), (kH D k ≠ -1 → W = kW D k) → why D k = 0 → ∀ (m : Nat) (q : Int) (h1 : HP), 0 ≤ q → kR D k - q = (m : Int) → Sti h h1 D k q →
      X 63 [vR 50, vI s, vI p, vI (k : Int), vI (hv D k), vI (kR D k), vI (kH D k), vI W, vI q] [] (LL M) h1 0 0 := by
    intro W hW hw0 m
    induction m with
    | zero =>
      intro q h1 hq hm hT
      have eq : q = kR D k := by omega
      subst eq
      refine hX 8 [] 63 _ _ _ _ _ _ ?_
      refine And.intro (fun c67 => ?_) (fun c67 => absurd c67 (by omega))
      exact ⟨rfl, rfl, Kn1_of hT hw0 hw⟩
    | succ m ih =>
      intro q h1 hq hm hT
      have t39 := hT.2.2.1
      have fin : ∀ v, v = sS D k q → X 116 [vR 50, vI s, vI p, vI (k : Int), vI (hv D k), vI (kR D k), vI (kH D k), vI W, vI q] [vI v, vI (h1 50 39), vR 70] (LL M) h1 0 0 := by
        intro v hv1
        refine hX 20 [63] 116 _ _ _ _ _ _ ?_
        refine And.intro ⟨by omega, by omega⟩ ?_
        refine And.intro (by rw [up_cell (show (50 : Nat) ≠ 70 by decide)]; exact ⟨by omega, by omega⟩) ?_
        refine And.intro ⟨by omega, by omega⟩ ?_
        have e : up (up h1 70 (h1 50 39).toNat v) 50 39 (up h1 70 (h1 50 39).toNat v 50 39 + 1) = pushS h1 v := by unfold pushS; rw [up_cell (show (50 : Nat) ≠ 70 by decide)]
        have g := ih (q + 1) (pushS h1 v) (by omega) (by omega) (Sti_push hT tr.1 hq hv1)
        rw [← e] at g
        exact g
      refine hX 60 [116] 63 _ _ _ _ _ _ ?_
      refine And.intro (fun c67 => absurd c67 (by omega)) (fun c67 => ?_)
      refine And.intro (fun c81 => ?_) (fun c81 => ?_)
      · obtain ⟨c1, c2, c3, c4⟩ := hcm c81
        have hWk := hW c81
        subst hWk
        obtain ⟨-, -, kw, kn, -, km, -⟩ : kK D k = 1 ∧ (0 ≤ kH D k ∧ kH D k ≤ 3) ∧ (1 ≤ kW D k ∧ kW D k ≤ 36) ∧ (1 ≤ kN D k ∧ kN D k ≤ 8) ∧ kR D k % kN D k = 0 ∧ (∀ i, 0 ≤ i → i < kN D k → 1 ≤ kM D k i ∧ kM D k i ≤ 12) ∧ kM D k (kN D k - 1) = kW D k := by
          rcases kch with z | z
          · exact absurd z c81
          · exact z
        have tb := td_bd (x := hv D k) (y := kW D k) hvb.1 (by omega)
        have tq := tm_bd (x := q) (y := kN D k) hq (by omega)
        have d1 : h1 51 (kH D k).toNat = kN D k := by rw [hT.1 51 (by decide) (by decide)]; exact c2
        have d2 : h1 53 (8 * kH D k + q.tmod (kN D k)).toNat = kM D k (q.tmod (kN D k)) := by rw [hT.1 53 (by decide) (by decide)]; exact c4 _ tq.1 tq.2.1
        have kq := km _ tq.1 tq.2.1
        have mb := mul_bd (a := (hv D k).tdiv (kW D k)) (b := kM D k (q.tmod (kN D k))) (A := 4100) (B := 12) tb.1 (by omega) (by omega) (by omega)
        refine And.intro ⟨by omega, by omega, by omega⟩ ?_
        refine And.intro ⟨by omega, by omega⟩ ?_
        refine And.intro ⟨by omega, by omega⟩ ?_
        rw [d1]
        refine And.intro (by omega) ?_
        refine And.intro ⟨by omega, by omega⟩ ?_
        refine And.intro ⟨by omega, by omega⟩ ?_
        rw [d2]
        refine And.intro ⟨by omega, by omega⟩ ?_
        refine fin _ ?_
        unfold sS rpt
        rw [if_pos c81, if_neg (by omega), if_neg (by omega)]
      · exact fin _ (sS_work hkd c81).symm
  have mid : ∀ (W : Int) (j8 : PV), 1 ≤ W → (kH D k ≠ -1 → W = kW D k) → (kH D k = -1 → W = 1) → X 41 [vR 50, vI s, vI p, vI (k : Int), vI (hv D k), vI (kR D k), vI (kH D k), vI W, j8] [] (LL M) h 0 0 := by
    intro W j8 hW1 hW hW2
    refine hX 20 [54, 60] 41 _ _ _ _ _ _ ?_
    refine And.intro (fun c43 => absurd c43 (by omega)) (fun c43 => ?_)
    refine And.intro (by omega) ?_
    refine And.intro (fun c51 => ?_) (fun c51 => ?_)
    · have w0 : why D k = 0 := by
        by_cases c : kH D k = -1
        · exact (why_n c (Or.inl (by omega))).symm
        · exact (why_c0 c (by have := hW c; omega) (by rw [← hW c]; exact c51)).symm
      refine hX 10 [63] 60 _ _ _ _ _ _ ?_
      exact loop W hW w0 (kR D k).toNat 0 h (by omega) (by omega) ⟨fun c _ _ => rfl, fun j _ => rfl, by omega, fun i a b => absurd a (by omega), fun j _ => rfl⟩
    · have c : kH D k ≠ -1 := fun c => by rw [hW2 c, Int.tmod_one] at c51; exact c51 rfl
      have w3 : why D k = 3 := (why_3 c (Or.inr (by rw [← hW c]; exact c51))).symm
      refine hX 10 [] 54 _ _ _ _ _ _ ?_
      exact ⟨rfl, rfl, Kn1_x w3.symm (by omega)⟩
  refine hX 40 [9] 0 _ _ _ _ _ _ ?_
  refine Ok_rt fr ?_
  show X 9 [_, _, _, _, _, _, _, _, _] _ _ _ _ _
  refine hX 40 [19] 9 _ _ _ _ _ _ ?_
  refine Ok_rt f7 ?_
  show X 19 [_, _, _, _, _, _, _, _, _] _ _ _ _ _
  refine hX 40 [41] 19 _ _ _ _ _ _ ?_
  refine And.intro (fun c22 => ?_) (fun c22 => ?_)
  · obtain ⟨c1, c2, c3, c4⟩ := hcm c22
    have kw : 1 ≤ kW D k := by
      rcases kch with z | z
      · exact absurd z c22
      · exact z.2.2.1.1
    refine And.intro ⟨by omega, by omega⟩ ?_
    refine And.intro ⟨by omega, by omega⟩ ?_
    rw [c3]
    exact mid _ _ kw (fun _ => rfl) (fun z => absurd z c22)
  · exact mid _ _ (by omega) (fun z => absurd c22 z) (fun _ => rfl)
end MWORKS
