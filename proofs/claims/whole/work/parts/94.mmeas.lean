/-! ===== the model: a measure ===== -/
/-- within a line: the numbers of names stay -/
def FrS (g g' : HP) : Prop := (∀ c, c ≠ 50 → (c < 62 ∨ 68 < c) → g' c = g c) ∧ ∀ q, (q < 19 ∨ 24 < q) → g' 50 q = g 50 q
theorem FrS_rf (g : HP) : FrS g g := ⟨fun _ _ _ => rfl, fun _ _ => rfl⟩
theorem FrS_tr {a b c : HP} (H : FrS a b) (G : FrS b c) : FrS a c := ⟨fun q h k => (G.1 q h k).trans (H.1 q h k), fun q h => (G.2 q h).trans (H.2 q h)⟩
theorem FrS_N {g g' : HP} (H : FrN g g') : FrS g g' := ⟨fun c h k => H.1 c h (by omega), H.2⟩
theorem FrS_T {g g' : HP} (H : FrT g g') : FrS g g' := FrS_N (FrN_T H)
theorem FrS_up {g : HP} {c p : Nat} {x : Int} (h : 62 ≤ c ∧ c ≤ 68) : FrS g (up g c p x) := ⟨fun q h1 h2 => up_cell (by omega), fun q hq => by rw [up_cell (by omega)]⟩
theorem FrL_S {g g' : HP} (H : FrS g g') : FrL g g' := ⟨H.1, fun q h => H.2 q (by omega)⟩
theorem PtOK_le {tot tot' fc : Nat → Int} {p k : Int} (h1 : rd tot 4 1 ≤ rd tot' 4 1) (h2 : rd tot 4 2 ≤ rd tot' 4 2) (H : PtOK tot fc p k) : PtOK tot' fc p k := by
  obtain ⟨a, b, c, d, e, f, i, j, l, m⟩ := H
  refine ⟨a, b, c, d, fun z => ⟨⟨(e z).1.1, by have := (e z).1.2; omega⟩, (e z).2⟩, f, fun z => ⟨(i z).1, by have := (i z).2; omega⟩, j, l, ?_⟩
  rcases m with y | y
  · exact Or.inl y
  · exact Or.inr ⟨y.1, y.2.1, by have := y.2.2; omega⟩
theorem PcR_nn {v g g' : HP} {i : Int} (e : nnP v i 4 10 = 0) (hi : 0 ≤ i ∧ i < 3) (f65 : g' 65 = g 65) (f66 : g' 66 = g 66) (H : PcR v g) : PcR (nnP v i) g' := by
  have cn := cnt_nn (v := v) (i := i) ⟨hi.1, by omega⟩ e
  have e11 : nnP v i 11 = v 11 := nn_cell (by decide) (by decide) (by decide) (Or.inl (by decide)) (Or.inr (by omega))
  have e12 : nnP v i 12 = v 12 := nn_cell (by decide) (by decide) (by decide) (Or.inl (by decide)) (Or.inl (by decide))
  have c1 : rd (v 7) 4 1 ≤ rd (nnP v i 7) 4 1 := by
    rw [cn 1]
    split
    · next z => rw [← z]; omega
    · omega
  have c2 : rd (v 7) 4 2 ≤ rd (nnP v i 7) 4 2 := by
    rw [cn 2]
    split
    · next z => rw [← z]; omega
    · omega
  intro p p0 p1
  rw [cn 3, if_neg (by omega)] at p1
  have h := H p p0 p1
  rw [e11, e12, f65, f66]
  exact ⟨h.1, h.2.1, fun k k0 k1 => ⟨(h.2.2 k k0 k1).1, PtOK_le c1 c2 (h.2.2 k k0 k1).2⟩⟩
theorem ChR_nn {v g g' : HP} {i : Int} (e : nnP v i 4 10 = 0) (hi : (0 ≤ i ∧ i ≤ 3) ∧ i ≠ 2) (f62 : g' 62 = g 62) (f63 : g' 63 = g 63) (f64 : g' 64 = g 64) (H : ChR v g) : ChR (nnP v i) g' := by
  have cn := cnt_nn (v := v) (i := i) hi.1 e
  have e8 : nnP v i 8 = v 8 := nn_cell (by decide) (by decide) (by decide) (Or.inr hi.2) (Or.inl (by decide))
  have e9 : nnP v i 9 = v 9 := nn_cell (by decide) (by decide) (by decide) (Or.inl (by decide)) (Or.inl (by decide))
  have e10 : nnP v i 10 = v 10 := nn_cell (by decide) (by decide) (by decide) (Or.inl (by decide)) (Or.inl (by decide))
  intro c c0 c1
  rw [cn 2, if_neg (by omega)] at c1
  rw [e8, e9, e10, f62, f63, f64]
  exact H c c0 c1
theorem me_er {id : Int} : ∀ (m : Nat) (k : Int) (w : HP), w 4 10 ≠ 0 → meL id m k w = w
  | 0, _, _, _ => rfl
  | m + 1, k, w, z => by
    unfold meL
    rw [num_er z, if_neg z]
    exact me_er m (k + 1) w z
/-- within the line of a measure -/
def TabM (w g : HP) : Prop := NmR w g ∧ (g 50 25 = rd (w 7) 4 0 ∧ g 50 26 + 1 = rd (w 7) 4 1 ∧ g 50 27 = rd (w 7) 4 2 ∧ g 50 28 = rd (w 7) 4 3) ∧ StR w g ∧ ChR w g ∧ PcR w g
theorem TabM_cg {v w g g' : HP} (H : TabM v g) (e : ∀ c, 6 ≤ c → c ≤ 12 → w c = v c) (f : ∀ c, 62 ≤ c → c ≤ 68 → c ≠ 67 → g' c = g c) (q : ∀ p, 25 ≤ p → p ≤ 28 → g' 50 p = g 50 p) (S : StR w g') : TabM w g' := by
  obtain ⟨a, b, -, c, d⟩ := H
  refine ⟨?_, ?_, S, ?_, ?_⟩
  · exact NmR_cg a (e 6 (by decide) (by decide)) (e 7 (by decide) (by decide)) (f 68 (by decide) (by decide) (by decide))
  · rw [q 25 (by decide) (by decide), q 26 (by decide) (by decide), q 27 (by decide) (by decide), q 28 (by decide) (by decide), e 7 (by decide) (by decide)]
    exact b
  · unfold ChR at *
    rw [e 7 (by decide) (by decide), e 8 (by decide) (by decide), e 9 (by decide) (by decide), e 10 (by decide) (by decide), f 62 (by decide) (by decide) (by decide), f 63 (by decide) (by decide) (by decide), f 64 (by decide) (by decide) (by decide)]
    exact c
  · unfold PcR at *
    rw [e 7 (by decide) (by decide), e 11 (by decide) (by decide), e 12 (by decide) (by decide), f 65 (by decide) (by decide) (by decide), f 66 (by decide) (by decide) (by decide)]
    exact d
section MMEAS
variable {M : List CT} {T : Nat} {v g : HP}
theorem m_measureLine (H : LNR T v g) (k8 : v 4 9 = 8) : Ok 197 [vR 50] (LL M) g (fun o Λ' g' => o = .inl none ∧ Λ' = LL M ∧ FrL g g' ∧ LNR T (rmH v) g' ∧ (rmH v 4 10 = 0 → rd (rmH v 7) 4 1 = rd (v 7) 4 1 + 1)) := by
  obtain ⟨S, Tb⟩ := H
  have z : v 4 10 = 0 := by
    by_cases z : v 4 10 = 0
    · exact z
    · have := SR_k1 S z
      omega
  have tb := Tb z
  have O := SR_ok S z
  have at0 := OKR_at O S.1.2
  have c1b := tb.1.1 1 (by decide)
  have ec1 : rd (v 7) 4 ((1 : Nat) : Int) = rd (v 7) 4 1 := rfl
  have ca1 : capI ((1 : Nat) : Int) = 8 := rfl
  have c0b := tb.1.1 0 (by decide)
  have ec0 : rd (v 7) 4 ((0 : Nat) : Int) = rd (v 7) 4 0 := rfl
  have ca0 : capI ((0 : Nat) : Int) = 6 := rfl
  have sz : g 50 25 = rd (v 7) 4 0 ∧ g 50 26 = rd (v 7) 4 1 ∧ g 50 27 = rd (v 7) 4 2 ∧ g 50 28 = rd (v 7) 4 3 := tb.2.1
  have r1 : rdA v 7 4 1 = rd (v 7) 4 1 := rfl
  refine ok_body B_X9_measureLine rfl (fun X hX => ?_)
  /- behind the values -/
  have at85 : ∀ (w g1 : HP) (j : PV), rmH v = ptH w 3 → SR T w g1 → FrS g g1 → (w 4 10 = 0 → TabM w g1) → X 85 [vR 50, j] [] (LL M) g1 0 0 := by
    intro w g1 j ew S1 F1 T1
    refine hX 20 [] 85 _ _ _ _ _ _ ?_
    refine Ok_mono (fun o' Λ' g2 hp => ?_) (m_semicolon S1)
    obtain ⟨e1, e2, F2, P⟩ := hp
    subst e1
    subst e2
    have q26 : g2 50 26 = g 50 26 := (F2.2 26 (by decide)).trans (F1.2 26 (by decide))
    refine And.intro (show inR (g2 50 26 + 1) from ⟨by omega, by omega⟩) ?_
    refine ⟨rfl, rfl, FrL_tr (FrL_S (FrS_tr F1 (FrS_T F2))) (FrL_uf ⟨by decide, by decide⟩), ⟨by rw [ew]; exact SR_uf P ⟨by decide, by decide⟩, fun y => ?_⟩, fun y => ?_⟩
    · rw [ew] at y ⊢
      have t := T1 (pt_10 y).1
      have t2 : TabM (ptH w 3) g2 := TabM_cg t (fun c h0 h1 => pt_cell (by omega)) (fun c h0 h1 _ => F2.1 c (by omega)) (fun p h0 h1 => F2.2 p (by omega)) (by
        unfold StR
        rw [pt_cell (by decide), F2.1 67 (by decide)]
        exact t.2.2.1)
      obtain ⟨a, b, c, d, f⟩ := t2
      refine ⟨NmR_cg a rfl rfl (up_cell (by decide)), ⟨?_, ?_, ?_, ?_⟩, ?_, ?_, ?_⟩
      · rw [up_ne (by decide)]; exact b.1
      · rw [up_same]; exact b.2.1
      · rw [up_ne (by decide)]; exact b.2.2.1
      · rw [up_ne (by decide)]; exact b.2.2.2
      · unfold StR
        rw [up_cell (by decide)]; exact c
      · unfold ChR
        rw [up_cell (by decide), up_cell (by decide), up_cell (by decide)]; exact d
      · unfold PcR
        rw [up_cell (by decide), up_cell (by decide)]; exact f
    · rw [ew] at y ⊢
      have t := T1 (pt_10 y).1
      rw [pt_cell (by decide), ← t.2.1.2.1, F1.2 26 (by decide), sz.2.1]
  have loop : ∀ (m : Nat) (k : Int) (w g1 : HP), rmH v = ptH (meL (rmI v) m k w) 3 → SR T w g1 → FrS g g1 → (w 4 10 = 0 → TabM w g1 ∧ rmI v = g 50 26 ∧ k + (m : Int) = g 50 25 ∧ 0 ≤ k) → X 40 [vR 50, vI k] [] (LL M) g1 0 0 := by
    intro m
    induction m with
    | zero =>
      intro k w g1 ew S1 F1 T1
      have ew : rmH v = ptH w 3 := ew
      refine hX 20 [48, 85] 40 _ _ _ _ _ _ ?_
      refine And.intro (fun _ => at85 w g1 _ ew S1 F1 (fun y => (T1 y).1)) (fun c => ?_)
      have c : k < g1 50 25 := c
      refine hX 20 [85] 48 _ _ _ _ _ _ ?_
      refine Ok_rt (m_isWrong S1) ?_
      by_cases z1 : w 4 10 = 0
      · have t := (T1 z1).2.2
        rw [F1.2 25 (by decide)] at c
        omega
      · rw [if_neg z1]
        refine And.intro (fun _ => ?_) (fun y => absurd y (by decide))
        exact at85 w g1 _ ew S1 F1 (fun y => absurd y z1)
    | succ m ih =>
      intro k w g1 ew S1 F1 T1
      refine hX 20 [48, 85] 40 _ _ _ _ _ _ ?_
      by_cases z1 : w 4 10 = 0
      · obtain ⟨t, t1, t2, t3⟩ := T1 z1
        have q25 : g1 50 25 = g 50 25 := F1.2 25 (by decide)
        have q26 : g1 50 26 = g 50 26 := F1.2 26 (by decide)
        refine And.intro (fun c => absurd (show g1 50 25 ≤ k from c) (by omega)) (fun _ => ?_)
        refine hX 40 [40, 85] 48 _ _ _ _ _ _ ?_
        refine Ok_rt (m_isWrong S1) ?_
        rw [if_pos z1]
        refine And.intro (fun y => absurd rfl y) (fun _ => ?_)
        have b26 : 0 ≤ g1 50 26 ∧ g1 50 26 ≤ 7 := by
          have := (t.1.1 1 (by decide)).2
          have e : rd (w 7) 4 ((1 : Nat) : Int) = rd (w 7) 4 1 := rfl
          have := t.2.1.2.1
          omega
        have b25 : g1 50 25 ≤ 6 := by omega
        refine And.intro (show inR (6 * g1 50 26) from ⟨by omega, by omega⟩) ?_
        refine And.intro (show inR (4 + 6 * g1 50 26) from ⟨by omega, by omega⟩) ?_
        refine And.intro (show inR (4 + 6 * g1 50 26 + k) from ⟨by omega, by omega⟩) ?_
        refine Ok_mono (fun o' Λ' g2 hp => ?_) (m_figure (a := 0) (b := 3000) S1 ⟨by decide, by decide⟩)
        obtain ⟨e1, F2, S2, r, e3, rb, hr⟩ := hp
        subst e1
        rw [e3]
        refine And.intro (show 0 ≤ 4 + 6 * g1 50 26 + k ∧ 4 + 6 * g1 50 26 + k < 132 from ⟨by omega, by omega⟩) ?_
        refine And.intro (show inR (k + 1) from ⟨by omega, by omega⟩) ?_
        have F3 : FrS g (up g2 67 (4 + 6 * g1 50 26 + k).toNat r) := FrS_tr (FrS_tr F1 (FrS_T F2)) (FrS_up ⟨by decide, by decide⟩)
        have st : meL (rmI v) (m + 1) k w = meL (rmI v) m (k + 1) (if numH w 0 3000 4 10 = 0 then wrA (numH w 0 3000) 14 132 (24 + rmI v * 6 + k) (l2iI (tvH w)) else numH w 0 3000) := rfl
        rw [st] at ew
        by_cases z2 : numH w 0 3000 4 10 = 0
        · rw [if_pos z2] at ew
          have h1 := hr z2
          refine ih (k + 1) _ _ ew (SR_w (SR_up S2 ⟨by decide, by decide⟩) ⟨by decide, by decide⟩) F3 (fun _ => ⟨?_, t1, by omega, by omega⟩)
          refine TabM_cg t (fun c h0 h2 => by rw [wrA_cell (by omega), num_cell (by omega)]) (fun c h0 h2 h3 => by rw [up_cell h3, F2.1 c (by omega)]) (fun p h0 h2 => by rw [up_cell (by decide)]; exact F2.2 p (by omega)) ?_
          obtain ⟨a, ea⟩ : ∃ a : Nat, g1 50 26 = (a : Int) := ⟨(g1 50 26).toNat, by omega⟩
          obtain ⟨s, es⟩ : ∃ s : Nat, k = (s : Int) := ⟨k.toNat, by omega⟩
          have e14 : wrA (numH w 0 3000) 14 132 (24 + rmI v * 6 + k) (l2iI (tvH w)) 14 = upf (w 14) (24 + 6 * a + s) r := by
            rw [wr_upf (by omega) (by omega), num_cell (by decide), ← h1.1, show (24 + rmI v * 6 + k).toNat = 24 + 6 * a + s by omega]
          have e67 : up g2 67 (4 + 6 * g1 50 26 + k).toNat r 67 = upf (g1 67) (4 + 6 * a + s) r := by
            rw [up_upf, F2.1 67 (by decide), show (4 + 6 * g1 50 26 + k).toNat = 4 + 6 * a + s by omega]
          unfold StR
          rw [e14, e67]
          exact ⟨StC_val t.2.2.1.1 t.2.2.1.2 (by omega) (by omega), StOK_val t.2.2.1.2 (by omega) (by omega) h1.2⟩
        · rw [if_neg z2] at ew
          exact ih (k + 1) _ _ ew (SR_up S2 ⟨by decide, by decide⟩) F3 (fun y => absurd y z2)
      · rw [me_er _ _ _ z1] at ew
        refine And.intro (fun _ => at85 w g1 _ ew S1 F1 (fun y => absurd y z1)) (fun _ => ?_)
        refine hX 40 [85] 48 _ _ _ _ _ _ ?_
        refine Ok_rt (m_isWrong S1) ?_
        rw [if_neg z1]
        refine And.intro (fun _ => ?_) (fun y => absurd y (by decide))
        exact at85 w g1 _ ew S1 F1 (fun y => absurd y z1)
  refine hX 20 [14] 0 _ _ _ _ _ _ ?_
  refine And.intro (fun c => ?_) (fun c => ?_)
  · have c : g 50 26 ≠ 8 := c
    have eA : rmA v = passH v := by
      unfold rmA ptH
      rw [r1, if_neg (by omega), fail_0, if_pos k8, fail_0]
    refine hX 30 [38] 14 _ _ _ _ _ _ ?_
    refine Ok_rt (m_isWrong S) ?_
    rw [if_pos z]
    refine And.intro (fun _ => ?_) (fun y => absurd rfl y)
    refine Ok_mono (fun o' Λ' g1 hp => ?_) (m_token O.2.2.2.2 (by rw [O.2.2.2.1.2.1]; omega) S.1.1)
    obtain ⟨e1, e2, F1, P1⟩ := hp
    subst e1
    subst e2
    have S1 : SR T (rmA v) g1 := by
      rw [eA]
      exact ⟨⟨P1.2.2.2, RT_pass S.1.2 (fun _ => by omega)⟩, Or.inr (OKR_pass O S.1.2 (by omega) F1 P1)⟩
    have cA : ∀ q, q ≠ 4 → rmA v q = v q := fun q hq => rmA_cell hq
    have N1 : NmR (rmA v) g1 := NmR_cg tb.1 (cA 6 (by decide)) (cA 7 (by decide)) (F1.1 68 (by decide))
    have q26 : g1 50 26 = g 50 26 := F1.2 26 (by decide)
    refine Ok_mono (fun o' Λ' g2 hp => ?_) (m_ownName (M := M) (i := 1) (f := 6) (c := g1 50 26) (b := 8) S1 (by decide) (fun _ => ⟨N1, rfl, by rw [cA 7 (by decide), q26]; exact sz.2.1, rfl⟩))
    obtain ⟨e1, e2, F2, S2, N2⟩ := hp
    subst e1
    subst e2
    have S2 : SR T (rmB v) g2 := S2
    have F3 : FrS g g2 := FrS_tr (FrS_T (FrT_K F1)) (FrS_N F2)
    refine hX 30 [40] 38 _ _ _ _ _ _ ?_
    show X 40 [_, vI 0] _ _ _ _ _
    refine loop (rdA (rmB v) 7 4 0).toNat 0 (rmB v) g2 rfl S2 F3 (fun y => ?_)
    have cn := cnt_nn (v := rmA v) (i := 1) ⟨by decide, by decide⟩ y
    have d0 := cn 0
    have d1 := cn 1
    have d2 := cn 2
    have d3 := cn 3
    rw [if_pos rfl, cA 7 (by decide)] at d1
    rw [if_neg (by decide), cA 7 (by decide)] at d0 d2 d3
    have e14 : rmB v 14 = v 14 := (nn_cell (by decide) (by decide) (by decide) (Or.inl (by decide)) (Or.inl (by decide))).trans (cA 14 (by decide))
    have eI : rmI v = rd (v 7) 4 1 := by
      unfold rmI
      have ne := nn_eq (v := rmA v) (i := 1) y
      rw [ne.1, if_pos ne.2.1, rdA_cg (cA 7 (by decide))]
      rfl
    have d0' : rdA (rmB v) 7 4 0 = rd (v 7) 4 0 := d0
    have gA : ChR (rmA v) g1 := by
      unfold ChR
      rw [cA 7 (by decide), cA 8 (by decide), cA 9 (by decide), cA 10 (by decide), F1.1 62 (by decide), F1.1 63 (by decide), F1.1 64 (by decide)]
      exact tb.2.2.2.1
    have gB : PcR (rmA v) g1 := by
      unfold PcR
      rw [cA 7 (by decide), cA 11 (by decide), cA 12 (by decide), F1.1 65 (by decide), F1.1 66 (by decide)]
      exact tb.2.2.2.2
    refine ⟨⟨N2 y, ⟨?_, ?_, ?_, ?_⟩, ?_, ChR_nn y ⟨⟨by decide, by decide⟩, by decide⟩ (F2.1 62 (by decide) (by decide)) (F2.1 63 (by decide) (by decide)) (F2.1 64 (by decide) (by decide)) gA, PcR_nn y ⟨by decide, by decide⟩ (F2.1 65 (by decide) (by decide)) (F2.1 66 (by decide) (by decide)) gB⟩, ?_, ?_, by decide⟩
    · rw [F3.2 25 (by decide)]; exact sz.1.trans d0.symm
    · rw [F3.2 26 (by decide), sz.2.1]; exact d1.symm
    · rw [F3.2 27 (by decide)]; exact sz.2.2.1.trans d2.symm
    · rw [F3.2 28 (by decide)]; exact sz.2.2.2.trans d3.symm
    · unfold StR
      rw [e14, F2.1 67 (by decide) (by decide), F1.1 67 (by decide)]
      exact tb.2.2.1
    · rw [eI]; exact sz.2.1.symm
    · rw [d0']
      omega
  · have c : g 50 26 = 8 := c
    have H1 := SR_fails (c := 5) (x := 1) S (by decide) (by decide)
    have z1 : failH v 1 5 4 10 ≠ 0 := fun w => absurd (fail_10 (by decide) w).2 (by decide)
    have eA : rmA v = failH v 1 5 := by
      unfold rmA
      rw [r1, if_pos (by omega), pt_er z1]
    have eR : rmH v = failH v 1 5 := by
      unfold rmH rmB
      rw [eA, nn_er z1, me_er _ _ _ z1, pt_er z1]
    refine Ok_rt (m_fails S) ?_
    refine hX 30 [] 14 _ _ _ _ _ _ ?_
    refine Ok_rt (m_isWrong H1) ?_
    rw [if_neg z1]
    refine And.intro (fun y => absurd y (by decide)) (fun _ => ?_)
    exact ⟨rfl, rfl, FrL_T flG_fr, ⟨by rw [eR]; exact H1, fun y => absurd y (by rw [eR]; exact z1)⟩, fun y => absurd y (by rw [eR]; exact z1)⟩
end MMEAS
