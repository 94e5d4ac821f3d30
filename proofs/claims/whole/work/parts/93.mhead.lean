/-! ===== the model: the head of a text ===== -/
theorem bI_iff {x : Int} {P : Prop} (H : bI x P) : x ≠ 0 ↔ P := by
  rcases H with ⟨a, rfl⟩ | ⟨a, rfl⟩
  · exact ⟨fun _ => a, fun _ => by decide⟩
  · exact ⟨fun z => absurd rfl z, fun z => absurd z a⟩
/-- how many names: the model's numbers -/
def SzR (v g : HP) : Prop := g 50 25 = rd (v 7) 4 0 ∧ g 50 26 = rd (v 7) 4 1 ∧ g 50 27 = rd (v 7) 4 2 ∧ g 50 28 = rd (v 7) 4 3
def StR (v g : HP) : Prop := StC (g 67) (v 14) ∧ StOK (v 14)
def ChR (v g : HP) : Prop := ∀ c, 0 ≤ c → c < rd (v 7) 4 2 → (rd (g 62) 4 c = rd (v 8) 4 c ∧ ∀ r, 0 ≤ r → r < rd (v 8) 4 c → rd (g 63) 32 (8 * c + r) = rd (v 9) 32 (c * 8 + r) ∧ rd (g 64) 32 (8 * c + r) = rd (v 10) 32 (c * 8 + r)) ∧ ChOK (v 8) (v 9) (v 10) c
def PcR (v g : HP) : Prop := ∀ p, 0 ≤ p → p < rd (v 7) 4 3 → rd (g 65) 6 p = rd (v 11) 6 p ∧ (1 ≤ rd (v 11) 6 p ∧ rd (v 11) 6 p ≤ 10) ∧ ∀ k, 0 ≤ k → k < rd (v 11) 6 p → PtC (g 66) (v 12) p k ∧ PtOK (v 7) (v 12) p k
def TabR (v g : HP) : Prop := NmR v g ∧ SzR v g ∧ StR v g ∧ ChR v g ∧ PcR v g
/-- what holds between two lines -/
def LNR (T : Nat) (v g : HP) : Prop := SR T v g ∧ (v 4 10 = 0 → TabR v g)
/-- nothing but what a text tells has changed -/
def FrL (g g' : HP) : Prop := (∀ c, c ≠ 50 → (c < 62 ∨ 68 < c) → g' c = g c) ∧ ∀ q, (q < 19 ∨ 28 < q) → g' 50 q = g 50 q
theorem FrL_rf (g : HP) : FrL g g := ⟨fun _ _ _ => rfl, fun _ _ => rfl⟩
theorem FrL_tr {a b c : HP} (H : FrL a b) (G : FrL b c) : FrL a c := ⟨fun q h k => (G.1 q h k).trans (H.1 q h k), fun q h => (G.2 q h).trans (H.2 q h)⟩
theorem FrL_N {g g' : HP} (H : FrN g g') : FrL g g' := ⟨fun c h k => H.1 c h (by omega), fun q h => H.2 q (by omega)⟩
theorem FrL_T {g g' : HP} (H : FrT g g') : FrL g g' := FrL_N (FrN_T H)
theorem FrL_up {g : HP} {c p : Nat} {x : Int} (h : 62 ≤ c ∧ c ≤ 68) : FrL g (up g c p x) := ⟨fun q h1 h2 => up_cell (by omega), fun q hq => by rw [up_cell (by omega)]⟩
theorem FrL_uf {g : HP} {p : Nat} {x : Int} (h : 25 ≤ p ∧ p ≤ 28) : FrL g (up g 50 p x) := ⟨fun q h1 h2 => up_cell h1, fun q hq => up_ne (by omega)⟩
theorem SR_up {T : Nat} {v g : HP} {c p : Nat} {x : Int} (H : SR T v g) (h : 62 ≤ c ∧ c ≤ 68) : SR T v (up g c p x) := SR_wr H (up_cell (by omega)) (fun q _ _ => by rw [up_cell (by omega)])
theorem SR_uf {T : Nat} {v g : HP} {p : Nat} {x : Int} (H : SR T v g) (h : 25 ≤ p ∧ p ≤ 28) : SR T v (up g 50 p x) := SR_wr H (up_cell (by decide)) (fun q _ _ => up_ne (by omega))
theorem SR_w {T : Nat} {v g : HP} {c len : Nat} {i x : Int} (H : SR T v g) (h : 5 ≤ c ∧ c ≤ 14) : SR T (wrA v c len i x) g := SR_cls H (wrA_cell (by omega)) (wrA_cell (by omega)) (wrA_cell (by omega)) (fun q _ _ => wrA_cell (by omega))
/-- a new name without an error -/
theorem nn_eq {v : HP} {i : Int} (e : nnP v i 4 10 = 0) : nnA v i = v ∧ v 4 10 = 0 ∧ nnP v i = passH (addNameH v 5 i (tvH v)) := by
  have e4 : nnB v i 4 = nnA v i 4 := by
    unfold nnB
    split
    · exact addNameH_4
    · rfl
  have z : nnA v i 4 10 = 0 := by
    unfold nnP at e
    rw [pass_10, e4] at e
    exact e
  have a : nnA v i = v := by
    have z' := z
    unfold nnA at z' ⊢
    have s1 := fail_same (by decide) z'
    rw [s1] at z' ⊢
    have s2 := fail_same (by decide) z'
    rw [s2] at z' ⊢
    exact fail_same (by decide) z'
  refine ⟨a, by rw [a] at z; exact z, ?_⟩
  unfold nnP nnB
  rw [if_pos z, a]
theorem cnt_nn {v : HP} {i : Int} (hi : 0 ≤ i ∧ i ≤ 3) (e : nnP v i 4 10 = 0) (j : Int) : rd (nnP v i 7) 4 j = if j = i then rd (v 7) 4 i + 1 else rd (v 7) 4 j := by
  have eP := (nn_eq e).2.2
  have a : rdA v 7 4 i = rd (v 7) 4 i := rfl
  rw [eP, passH_cell (by decide), addName_7 hi, a]
  by_cases z : j = i
  · rw [if_pos z, z, rd_in hi.1 (by omega)]
    unfold upf
    rw [if_pos rfl]
  · rw [if_neg z]
    unfold rd
    by_cases y : 0 ≤ j ∧ j < ((4 : Nat) : Int)
    · rw [if_pos y, if_pos y]
      unfold upf
      rw [if_neg (by omega)]
    · rw [if_neg y, if_neg y]
theorem nn_bad {v : HP} {i : Int} (z : v 4 10 = 0) (h : nameB v ≠ 0) : nnP v i = failH v 1 1 ∧ failH v 1 1 4 10 ≠ 0 := by
  have n1 : nameB v = 1 := by
    rcases nameB_01 (v := v) with y | y
    · exact absurd y h
    · exact y
  have z1 : failH v 1 1 4 10 ≠ 0 := fun w => absurd (fail_10 (by decide) w).2 (by decide)
  have eA : nnA v i = failH v 1 1 := by
    unfold nnA
    rw [n1, fail_er z1, fail_er z1]
  refine ⟨?_, z1⟩
  unfold nnP nnB
  rw [eA, if_neg z1, pass_er z1]
theorem rd_up {f : HP} {c len : Nat} {i : Int} {p : Nat} {x : Int} (hp : p < len) : rd (up f c p x c) len i = if i = (p : Int) then x else rd (f c) len i := by
  unfold rd
  by_cases y : 0 ≤ i ∧ i < (len : Int)
  · rw [if_pos y, if_pos y, up_at]
    by_cases z : i = (p : Int)
    · rw [if_pos z, if_pos (by omega)]
    · rw [if_neg z, if_neg (by omega)]
  · rw [if_neg y, if_neg y, if_neg (by omega)]
theorem rd_w {f : HP} {c len : Nat} {i j x : Int} : rd (wrA f c len i x c) len j = if 0 ≤ i ∧ i < (len : Int) ∧ j = i then x else rd (f c) len j := by
  have := rdA_wrA (h := f) (a := c) (len := len) (i := i) (j := j) (v := x)
  exact this
theorem TabR_cg {v w g g' : HP} (H : TabR v g) (e : ∀ c, 6 ≤ c → c ≤ 14 → w c = v c) (f : ∀ c, 62 ≤ c → c ≤ 68 → g' c = g c) (q : ∀ p, 25 ≤ p → p ≤ 28 → g' 50 p = g 50 p) : TabR w g' := by
  unfold TabR NmR SzR StR ChR PcR at *
  rw [e 6 (by decide) (by decide), e 7 (by decide) (by decide), e 8 (by decide) (by decide), e 9 (by decide) (by decide), e 10 (by decide) (by decide), e 11 (by decide) (by decide), e 12 (by decide) (by decide), e 14 (by decide) (by decide), f 62 (by decide) (by decide), f 63 (by decide) (by decide), f 64 (by decide) (by decide), f 65 (by decide) (by decide), f 66 (by decide) (by decide), f 67 (by decide) (by decide), f 68 (by decide) (by decide), q 25 (by decide) (by decide), q 26 (by decide) (by decide), q 27 (by decide) (by decide), q 28 (by decide) (by decide)]
  exact H
/-- a word that may stand here -/
theorem m_word {M : List CT} {T : Nat} {w g : HP} (a : Nat) (k : Int) (ha : 1 ≤ a ∧ a ≤ 18) (hk : k = (a : Int) + 4) (S : SR T w g) : Ok 186 [vR 50, vR (1000 + a)] (LL M) g (fun o Λ' g' => Λ' = LL M ∧ g' = g ∧ ∃ x, o = .inl (some (vI x)) ∧ bI x (w 4 9 = k)) := by
  rw [hk]
  exact m_isWord S ha
section MHEAD
variable {M : List CT} {T : Nat} {v g : HP}
theorem m_head (H : SR T v g) (z7 : ∀ q, rd (v 7) 4 q = 0) (z14 : ∀ q, rd (v 14) 132 q = 0) (z67 : ∀ q, rd (g 67) 132 q = 0) (zc : g 50 25 = 0 ∧ g 50 26 = 0 ∧ g 50 27 = 0 ∧ g 50 28 = 0) :
    Ok 196 [vR 50] (LL M) g (fun o Λ' g' => o = .inl none ∧ Λ' = LL M ∧ FrL g g' ∧ LNR T (rsH (rgH v)) g') := by
  refine ok_body B_X9_head rfl (fun X hX => ?_)
  /- behind the sizes -/
  have at131 : ∀ (w g1 : HP), rsH (rgH v) = ptH w 3 → SR T w g1 → FrL g g1 → (w 4 10 = 0 → TabR w g1) → X 131 [vR 50] [] (LL M) g1 0 0 := by
    intro w g1 ew S F Tb
    refine hX 20 [] 131 _ _ _ _ _ _ ?_
    refine Ok_mono (fun o' Λ' h2 hp => ?_) (m_semicolon S)
    obtain ⟨e1, e2, F2, P⟩ := hp
    subst e1
    subst e2
    refine ⟨rfl, rfl, FrL_tr F (FrL_T F2), by rw [ew]; exact P, fun y => ?_⟩
    rw [ew] at y ⊢
    have tb := Tb (pt_10 y).1
    exact TabR_cg tb (fun c c0 c1 => pt_cell (by omega)) (fun c c0 c1 => F2.1 c (by omega)) (fun p p0 p1 => F2.2 p (by omega))
  have loop : ∀ (m : Nat) (w g1 : HP), rsH (rgH v) = ptH (szL m w) 3 → SR T w g1 → FrL g g1 → (w 4 10 = 0 → TabR w g1 ∧ rd (w 7) 4 0 + (m : Int) = 7 ∧ rd (w 7) 4 1 = 0 ∧ rd (w 7) 4 2 = 0 ∧ rd (w 7) 4 3 = 0) → X 92 [vR 50] [] (LL M) g1 0 0 := by
    intro m
    induction m with
    | zero =>
      intro w g1 ew S F Tb
      refine hX 30 [131] 92 _ _ _ _ _ _ ?_
      refine Ok_rt (m_isWrong S) ?_
      by_cases z : w 4 10 = 0
      · obtain ⟨tb, c0, -⟩ := Tb z
        have := (tb.1.1 0 (by decide)).2
        have c6 : capI ((0 : Nat) : Int) = 6 := rfl
        have e0 : rd (w 7) 4 ((0 : Nat) : Int) = rd (w 7) 4 0 := rfl
        omega
      · rw [if_neg z]
        refine And.intro (fun _ => ?_) (fun y => absurd y (by decide))
        exact at131 w g1 ew S F (fun y => absurd y z)
    | succ m ih =>
      intro w g1 ew S F Tb
      have st : szL (m + 1) w = if 4 ≤ w 4 9 then szL m (nnP w 0) else w := rfl
      rw [st] at ew
      refine hX 30 [99, 131] 92 _ _ _ _ _ _ ?_
      refine Ok_rt (m_isWrong S) ?_
      by_cases z : w 4 10 = 0
      · rw [if_pos z]
        refine And.intro (fun y => absurd rfl y) (fun _ => ?_)
        obtain ⟨tb, c0, c1, c2, c3⟩ := Tb z
        have O := SR_ok S z
        have kd := OKR_kd O S.1.2
        have e21 := O.2.2.2.1.2.2.1
        have sz := tb.2.1.1
        have n6 := tb.1.1 0 (by decide)
        have c6 : capI ((0 : Nat) : Int) = 6 := rfl
        have e0 : rd (w 7) 4 ((0 : Nat) : Int) = rd (w 7) 4 0 := rfl
        refine hX 30 [92, 131] 99 _ _ _ _ _ _ ?_
        refine And.intro (fun c => ?_) (fun c => ?_)
        · have c : g1 50 21 = 3 := c
          have k3 : w 4 9 = 3 := srt_3.mp (by rw [← e21]; exact c)
          rw [if_neg (by omega)] at ew
          exact at131 w g1 ew S F (fun _ => tb)
        · have c : g1 50 21 ≠ 3 := c
          have k3 : w 4 9 ≠ 3 := fun y => c (by rw [e21]; exact srt_3.mpr y)
          refine Ok_mono (fun o' Λ' h2 hp => ?_) (m_ownName (M := M) (i := 0) (f := 0) (c := g1 50 25) (b := 6) S (by decide) (fun _ => ⟨tb.1, rfl, sz, rfl⟩))
          obtain ⟨e1, e2, F2, P, N⟩ := hp
          subst e1
          subst e2
          have q25 : h2 50 25 = g1 50 25 := F2.2 25 (by decide)
          refine And.intro (show inR (h2 50 25 + 1) from ⟨by omega, by omega⟩) ?_
          have S2 : SR T (nnP w 0) (up h2 50 25 (h2 50 25 + 1)) := SR_uf P ⟨by decide, by decide⟩
          have F3 : FrL g (up h2 50 25 (h2 50 25 + 1)) := FrL_tr (FrL_tr F (FrL_N F2)) (FrL_uf ⟨by decide, by decide⟩)
          have ew2 : rsH (rgH v) = ptH (szL m (nnP w 0)) 3 := by
            by_cases y : 4 ≤ w 4 9
            · rw [if_pos y] at ew
              exact ew
            · rw [if_neg y] at ew
              have nb : nameB w ≠ 0 := fun u => y ((nameB_iff O S.1.2).mp u).1.1
              obtain ⟨b1, b2⟩ := nn_bad (i := 0) z nb
              have k1 : failH w 1 1 4 9 = -1 := (RT_fail S.1.2 (by decide) (x := 1) (c := 1)).2.2.2.2.2 b2
              have es : szL m (failH w 1 1) = failH w 1 1 := by
                cases m with
                | zero => rfl
                | succ m =>
                  unfold szL
                  rw [if_neg (by omega)]
              rw [ew, b1, es, pt_er b2]
              unfold ptH
              rw [if_neg k3, pass_er b2]
          refine ih (nnP w 0) _ ew2 S2 F3 (fun y => ?_)
          have cn := cnt_nn (v := w) (i := 0) ⟨by decide, by decide⟩ y
          have d0 := cn 0
          have d1 := cn 1
          have d2 := cn 2
          have d3 := cn 3
          rw [if_pos rfl] at d0
          rw [if_neg (by decide)] at d1 d2 d3
          have e14 : nnP w 0 14 = w 14 := nn_cell (by decide) (by decide) (by decide) (Or.inl (by decide)) (Or.inl (by decide))
          refine ⟨⟨NmR_cg (N y) rfl rfl (up_cell (by decide)), ⟨?_, ?_, ?_, ?_⟩, ?_, fun c h0 h1 => ?_, fun p h0 h1 => ?_⟩, by omega, by omega, by omega, by omega⟩
          · rw [up_same, d0, q25, sz]
          · rw [up_ne (by decide), d1, F2.2 26 (by decide)]; exact tb.2.1.2.1
          · rw [up_ne (by decide), d2, F2.2 27 (by decide)]; exact tb.2.1.2.2.1
          · rw [up_ne (by decide), d3, F2.2 28 (by decide)]; exact tb.2.1.2.2.2
          · unfold StR
            rw [e14, up_cell (by decide), F2.1 67 (by decide) (by decide)]
            exact tb.2.2.1
          · rw [d2, c2] at h1
            omega
          · rw [d3, c3] at h1
            omega
      · rw [if_neg z]
        refine And.intro (fun _ => ?_) (fun y => absurd y (by decide))
        rw [if_neg (by rw [SR_k1 S z]; decide)] at ew
        exact at131 w g1 ew S F (fun y => absurd y z)
  /- behind the gauge: the first size -/
  have at73 : ∀ (u g1 : HP), u = ptH (rgH v) 7 → SR T u g1 → FrL g g1 → (u 4 10 = 0 → TabR u g1 ∧ rd (u 7) 4 0 = 0 ∧ rd (u 7) 4 1 = 0 ∧ rd (u 7) 4 2 = 0 ∧ rd (u 7) 4 3 = 0) → X 73 [vR 50] [] (LL M) g1 0 0 := by
    intro u g1 eu S F Tb
    have ew : rsH (rgH v) = ptH (szL 6 (nnP u 0)) 3 := by rw [eu]; rfl
    refine hX 30 [80, 92] 73 _ _ _ _ _ _ ?_
    refine Ok_rt (m_isWrong S) ?_
    by_cases z : u 4 10 = 0
    · rw [if_pos z]
      refine And.intro (fun y => absurd rfl y) (fun _ => ?_)
      obtain ⟨tb, c0, c1, c2, c3⟩ := Tb z
      have O := SR_ok S z
      refine hX 30 [92] 80 _ _ _ _ _ _ ?_
      refine Ok_mono (fun o' Λ' h2 hp => ?_) (m_isName S)
      obtain ⟨e1, e2, x, e3, hb⟩ := hp
      subst e1
      rw [e2, e3]
      rcases hb with ⟨hn, rfl⟩ | ⟨hn, rfl⟩
      · refine And.intro (fun _ => ?_) (fun y => absurd y (by decide))
        have nb := (nameB_iff O S.1.2).mp hn
        refine loop 7 u g1 ?_ S F (fun _ => ⟨tb, by omega, c1, c2, c3⟩)
        rw [ew]
        show _ = ptH (if 4 ≤ u 4 9 then szL 6 (nnP u 0) else u) 3
        rw [if_pos nb.1.1]
      · refine And.intro (fun y => absurd rfl y) (fun _ => ?_)
        refine Ok_rt (m_fails S) ?_
        have H1 := SR_fails (c := 1) (x := 1) S (by decide) (by decide)
        obtain ⟨b1, b2⟩ := nn_bad (i := 0) z hn
        rw [b1] at ew
        exact loop 6 _ _ ew H1 (FrL_tr F (FrL_T flG_fr)) (fun y => absurd y b2)
    · rw [if_neg z]
      refine And.intro (fun _ => ?_) (fun y => absurd y (by decide))
      rw [nn_er z] at ew
      exact loop 6 u g1 ew S F (fun y => absurd y z)
  /- the gauge -/
  refine hX 60 [10] 0 _ _ _ _ _ _ ?_
  refine Ok_mono (fun o' Λ' h2 hp => ?_) (m_word 1 5 ⟨by decide, by decide⟩ (by decide) H)
  obtain ⟨e1, e2, x, e3, hb⟩ := hp
  subst e1
  rw [e2, e3]
  refine Ok_mono (fun o' Λ' g1 hp => ?_) (m_passes (k := 5) H (by decide) (fun _ => bI_iff hb))
  obtain ⟨e1, e2, F1, S1⟩ := hp
  subst e1
  subst e2
  refine hX 60 [23] 10 _ _ _ _ _ _ ?_
  refine Ok_mono (fun o' Λ' g2 hp => ?_) (m_figure (a := 5) (b := 99) S1 ⟨by decide, by decide⟩)
  obtain ⟨e1, F2, S2, r0, e3, rb0, hr0⟩ := hp
  subst e1
  rw [e3]
  refine And.intro ⟨by decide, by decide⟩ ?_
  have S3 : SR T (rgB v) (up g2 67 0 r0) := SR_w (SR_up S2 ⟨by decide, by decide⟩) ⟨by decide, by decide⟩
  refine hX 60 [36] 23 _ _ _ _ _ _ ?_
  refine Ok_mono (fun o' Λ' g3 hp => ?_) (m_figure (a := 5) (b := 99) S3 ⟨by decide, by decide⟩)
  obtain ⟨e1, F3, S4, r1, e3, rb1, hr1⟩ := hp
  subst e1
  rw [e3]
  refine And.intro ⟨by decide, by decide⟩ ?_
  have S5 : SR T (rgC v) (up g3 67 1 r1) := SR_w (SR_up S4 ⟨by decide, by decide⟩) ⟨by decide, by decide⟩
  refine hX 60 [46] 36 _ _ _ _ _ _ ?_
  refine Ok_mono (fun o' Λ' h2 hp => ?_) (m_word 2 6 ⟨by decide, by decide⟩ (by decide) S5)
  obtain ⟨e1, e2, x2, e3, hb2⟩ := hp
  subst e1
  rw [e2, e3]
  refine Ok_mono (fun o' Λ' g4 hp => ?_) (m_passes (k := 6) S5 (by decide) (fun _ => bI_iff hb2))
  obtain ⟨e1, e2, F4, S6⟩ := hp
  subst e1
  subst e2
  refine hX 60 [59] 46 _ _ _ _ _ _ ?_
  refine Ok_mono (fun o' Λ' g5 hp => ?_) (m_figure (a := 1) (b := 99) S6 ⟨by decide, by decide⟩)
  obtain ⟨e1, F5, S7, r2, e3, rb2, hr2⟩ := hp
  subst e1
  rw [e3]
  refine And.intro ⟨by decide, by decide⟩ ?_
  have S8 : SR T (rgE v) (up g5 67 2 r2) := SR_w (SR_up S7 ⟨by decide, by decide⟩) ⟨by decide, by decide⟩
  refine hX 60 [73] 59 _ _ _ _ _ _ ?_
  refine Ok_mono (fun o' Λ' g6 hp => ?_) (m_semicolon S8)
  obtain ⟨e1, e2, F6, S9⟩ := hp
  subst e1
  subst e2
  have S9 : SR T (rgH v) g6 := S9
  refine Ok_mono (fun o' Λ' h2 hp => ?_) (m_word 3 7 ⟨by decide, by decide⟩ (by decide) S9)
  obtain ⟨e1, e2, x3, e3, hb3⟩ := hp
  subst e1
  rw [e2, e3]
  refine Ok_mono (fun o' Λ' g7 hp => ?_) (m_passes (k := 7) S9 (by decide) (fun _ => bI_iff hb3))
  obtain ⟨e1, e2, F7, S10⟩ := hp
  subst e1
  subst e2
  have FF : FrL g g7 := FrL_tr (FrL_tr (FrL_tr (FrL_tr (FrL_tr (FrL_tr (FrL_tr (FrL_T F1) (FrL_T F2)) (FrL_up ⟨by decide, by decide⟩)) (FrL_T F3)) (FrL_tr (FrL_up ⟨by decide, by decide⟩) (FrL_T F4))) (FrL_T F5)) (FrL_up ⟨by decide, by decide⟩)) (FrL_tr (FrL_T F6) (FrL_T F7))
  refine at73 _ g7 rfl S10 FF (fun y => ?_)
  have y9 := (pt_10 y).1
  have y8 := (pt_10 y9).1
  have y7 : numH (rgD v) 1 99 4 10 = 0 := by
    unfold rgE at y8
    rw [wrA_cell (by decide)] at y8
    exact y8
  have y6 := num_10 y7
  have y5 := (pt_10 y6).1
  have y4 : numH (rgB v) 5 99 4 10 = 0 := by
    unfold rgC at y5
    rw [wrA_cell (by decide)] at y5
    exact y5
  have y3 := num_10 y4
  have y2 : numH (rgA v) 5 99 4 10 = 0 := by
    unfold rgB at y3
    rw [wrA_cell (by decide)] at y3
    exact y3
  have h0 : r0 = l2iI (tvH (rgA v)) ∧ 5 ≤ r0 ∧ r0 ≤ 99 := hr0 y2
  have h1 : r1 = l2iI (tvH (rgB v)) ∧ 5 ≤ r1 ∧ r1 ≤ 99 := hr1 y4
  have h2 : r2 = l2iI (tvH (rgD v)) ∧ 1 ≤ r2 ∧ r2 ≤ 99 := hr2 y7
  have e7 : ptH (rgH v) 7 7 = v 7 := by rw [pt_cell (by decide), rg_cell (by decide) (by decide)]
  have e14 : ∀ q, rd (ptH (rgH v) 7 14) 132 q = if q = 2 then r2 else if q = 1 then r1 else if q = 0 then r0 else 0 := fun q => by
    have a : ptH (rgH v) 7 14 = rgE v 14 := by
      rw [pt_cell (by decide)]
      unfold rgH
      rw [pt_cell (by decide)]
    have b : rgD v 14 = rgC v 14 := by unfold rgD; rw [pt_cell (by decide)]
    rw [a]
    unfold rgE
    rw [rd_w, num_cell (by decide), b, ← h2.1]
    unfold rgC
    rw [rd_w, num_cell (by decide), ← h1.1]
    unfold rgB
    rw [rd_w, num_cell (by decide), ← h0.1]
    have c : rgA v 14 = v 14 := by unfold rgA; rw [pt_cell (by decide)]
    rw [c, z14]
    by_cases q2 : q = 2
    · rw [if_pos ⟨by decide, by decide, q2⟩, if_pos q2]
    · rw [if_neg (fun u => q2 u.2.2), if_neg q2]
      by_cases q1 : q = 1
      · rw [if_pos ⟨by decide, by decide, q1⟩, if_pos q1]
      · rw [if_neg (fun u => q1 u.2.2), if_neg q1]
        by_cases q0 : q = 0
        · rw [if_pos ⟨by decide, by decide, q0⟩, if_pos q0]
        · rw [if_neg (fun u => q0 u.2.2), if_neg q0]
  have e67 : ∀ q, rd (g7 67) 132 q = if q = 2 then r2 else if q = 1 then r1 else if q = 0 then r0 else 0 := fun q => by
    rw [F7.1 67 (by decide), F6.1 67 (by decide), rd_up (by decide), F5.1 67 (by decide), F4.1 67 (by decide), rd_up (by decide), F3.1 67 (by decide), rd_up (by decide), F2.1 67 (by decide), F1.1 67 (by decide), z67]
    rfl
  have q25 : ∀ q, 24 < q → g7 50 q = g 50 q := fun q hq => by
    rw [F7.2 q (Or.inr hq), F6.2 q (Or.inr hq), up_cell (by decide), F5.2 q (Or.inr hq), F4.2 q (Or.inr hq), up_cell (by decide), F3.2 q (Or.inr hq), up_cell (by decide), F2.2 q (Or.inr hq), F1.2 q (Or.inr hq)]
  have a0 : rd (ptH (rgH v) 7 14) 132 0 = r0 := by rw [e14, if_neg (by decide), if_neg (by decide), if_pos rfl]
  have a1 : rd (ptH (rgH v) 7 14) 132 1 = r1 := by rw [e14, if_neg (by decide), if_pos rfl]
  have a2 : rd (ptH (rgH v) 7 14) 132 2 = r2 := by rw [e14, if_pos rfl]
  have a3 : rd (ptH (rgH v) 7 14) 132 3 = 0 := by rw [e14, if_neg (by decide), if_neg (by decide), if_neg (by decide)]
  have b0 : rd (g7 67) 132 0 = r0 := by rw [e67, if_neg (by decide), if_neg (by decide), if_pos rfl]
  have b1 : rd (g7 67) 132 1 = r1 := by rw [e67, if_neg (by decide), if_pos rfl]
  have b2 : rd (g7 67) 132 2 = r2 := by rw [e67, if_pos rfl]
  have b3 : rd (g7 67) 132 3 = 0 := by rw [e67, if_neg (by decide), if_neg (by decide), if_neg (by decide)]
  refine ⟨⟨⟨fun i hi => ?_, fun i q hi hq => ?_⟩, ⟨?_, ?_, ?_, ?_⟩, ⟨?_, ?_⟩, fun c k0 k1 => ?_, fun p k0 k1 => ?_⟩, ?_, ?_, ?_, ?_⟩
  · rw [e7, z7]
    have := capI_fs hi
    omega
  · rw [e7, z7] at hq
    omega
  · rw [e7, z7, q25 25 (by decide)]; exact zc.1
  · rw [e7, z7, q25 26 (by decide)]; exact zc.2.1
  · rw [e7, z7, q25 27 (by decide)]; exact zc.2.2.1
  · rw [e7, z7, q25 28 (by decide)]; exact zc.2.2.2
  · refine ⟨⟨b0.trans a0.symm, b1.trans a1.symm, b2.trans a2.symm, b3.trans a3.symm⟩, fun m s m0 m1 s0 s1 => ?_, fun p k p0 p1 k0 k1 => ?_, fun l l0 l1 => ?_⟩
    · rw [e67, e14, if_neg (by omega), if_neg (by omega), if_neg (by omega), if_neg (by omega), if_neg (by omega), if_neg (by omega)]
    · rw [e67, e14, if_neg (by omega), if_neg (by omega), if_neg (by omega), if_neg (by omega), if_neg (by omega), if_neg (by omega)]
    · rw [a3] at l1
      omega
  · refine ⟨by rw [a0]; exact h0.2, by rw [a1]; exact h1.2, by rw [a2]; exact h2.2, by rw [a3]; exact ⟨by decide, by decide⟩, fun i i0 i1 => ?_, fun i i0 i1 => ?_, fun i i0 i1 => ?_, fun i i0 i1 => ?_⟩
    · rw [e14, if_neg (by omega), if_neg (by omega), if_neg (by omega)]; exact ⟨by decide, by decide⟩
    · rw [e14, if_neg (by omega), if_neg (by omega), if_neg (by omega)]; exact ⟨by decide, by decide⟩
    · rw [e14, if_neg (by omega), if_neg (by omega), if_neg (by omega)]; exact ⟨by decide, by decide⟩
    · rw [e14, if_neg (by omega), if_neg (by omega), if_neg (by omega)]; exact ⟨by decide, by decide⟩
  · rw [e7, z7] at k1
    omega
  · rw [e7, z7] at k1
    omega
  · rw [e7, z7]
  · rw [e7, z7]
  · rw [e7, z7]
  · rw [e7, z7]
end MHEAD
