/-! ===== the model: changes ===== -/
/-- the tables of both, whatever the states are -/
def TbC (h : HP) : Prop := PatOK (h 21) (h 22) (h 23) (h 24) (h 25) (h 26) ∧ (h 50 1 = rd (h 21) 4 0 ∧ h 50 2 = rd (h 21) 4 1 ∧ h 50 3 = rd (h 21) 4 2 ∧ h 50 4 = rd (h 21) 4 3) ∧
  (∀ c, 0 ≤ c → c < rd (h 21) 4 2 → rd (h 51) 4 c = rd (h 22) 4 c ∧ ∀ r, 0 ≤ r → r < rd (h 22) 4 c → rd (h 52) 32 (8 * c + r) = rd (h 23) 32 (c * 8 + r) ∧ rd (h 53) 32 (8 * c + r) = rd (h 24) 32 (c * 8 + r)) ∧
  (∀ p, 0 ≤ p → p < rd (h 21) 4 3 → rd (h 54) 6 p = rd (h 25) 6 p ∧ ∀ k, 0 ≤ k → k < rd (h 25) 6 p → PtC (h 55) (h 26) p k)
theorem TbC_of {h : HP} (hC : CI h) (hM : Cpl h) : TbC h := ⟨hC.1, hM.1, hM.2.1, hM.2.2.1⟩
theorem Cpl_T {h : HP} (hT : TbC h) (hS : StC (h 57) (h 28)) : Cpl h := ⟨hT.2.1, hT.2.2.1, hT.2.2.2, hS⟩
theorem TbC_fr {h h' : HP} (H : TbC h) (hc : ∀ c, 21 ≤ c → c ≤ 26 → h' c = h c) (hc2 : ∀ c, 51 ≤ c → c ≤ 55 → h' c = h c) (h5 : ∀ j, 1 ≤ j → j ≤ 4 → h' 50 j = h 50 j) : TbC h' := by
  unfold TbC at *
  rw [hc 21 (by decide) (by decide), hc 22 (by decide) (by decide), hc 23 (by decide) (by decide), hc 24 (by decide) (by decide), hc 25 (by decide) (by decide), hc 26 (by decide) (by decide), hc2 51 (by decide) (by decide), hc2 52 (by decide) (by decide), hc2 53 (by decide) (by decide), hc2 54 (by decide) (by decide), hc2 55 (by decide) (by decide), h5 1 (by decide) (by decide), h5 2 (by decide) (by decide), h5 3 (by decide) (by decide), h5 4 (by decide) (by decide)]
  exact H
theorem TbC_0 {h : HP} {v : Int} (H : TbC h) : TbC (up h 50 0 v) := TbC_fr H (fun c a b => up_cell (by omega)) (fun c a b => up_cell (by omega)) (fun j a b => up_ne (by omega))
section TB
variable {M : List CT} {h : HP} {i p k : Int}
theorem t_isSize (hT : TbC h) : Ok 213 [vR 50, vI i] (LL M) h (fun o Λ' h' => Λ' = LL M ∧ h' = h ∧ ∃ x, o = .inl (some (vI x)) ∧ bI x (isSz h i)) := by
  obtain ⟨⟨b0, b1, b2, b3, -, -⟩, ⟨m1, m2, m3, m4⟩, -⟩ := hT
  refine ok_body B_X9_isSize rfl (fun X hX => ?_)
  refine hX 20 [] 0 _ _ _ _ _ _ ?_
  refine And.intro (show inR (h 50 1 - 1) from ⟨by omega, by omega⟩) ?_
  by_cases z : isSz h i
  · refine Ok_rt (isIn_t (j := 0) (k := h 50 1 - 1) ⟨z.1, by have := z.2; omega⟩) ?_
    exact And.intro (by decide) ⟨rfl, rfl, _, rfl, Or.inl ⟨z, rfl⟩⟩
  · refine Ok_rt (isIn_f (j := 0) (k := h 50 1 - 1) (fun y => z ⟨y.1, by have := y.2; omega⟩)) ?_
    exact And.intro (by decide) ⟨rfl, rfl, _, rfl, Or.inr ⟨z, rfl⟩⟩
theorem t_isMeasure (hT : TbC h) : Ok 214 [vR 50, vI i] (LL M) h (fun o Λ' h' => Λ' = LL M ∧ h' = h ∧ ∃ x, o = .inl (some (vI x)) ∧ bI x (isMs h i)) := by
  obtain ⟨⟨b0, b1, b2, b3, -, -⟩, ⟨m1, m2, m3, m4⟩, -⟩ := hT
  refine ok_body B_X9_isMeasure rfl (fun X hX => ?_)
  refine hX 20 [] 0 _ _ _ _ _ _ ?_
  refine And.intro (show inR (h 50 2 - 1) from ⟨by omega, by omega⟩) ?_
  by_cases z : isMs h i
  · refine Ok_rt (isIn_t (j := 0) (k := h 50 2 - 1) ⟨z.1, by have := z.2; omega⟩) ?_
    exact And.intro (by decide) ⟨rfl, rfl, _, rfl, Or.inl ⟨z, rfl⟩⟩
  · refine Ok_rt (isIn_f (j := 0) (k := h 50 2 - 1) (fun y => z ⟨y.1, by have := y.2; omega⟩)) ?_
    exact And.intro (by decide) ⟨rfl, rfl, _, rfl, Or.inr ⟨z, rfl⟩⟩
theorem t_isPiece (hT : TbC h) : Ok 215 [vR 50, vI i] (LL M) h (fun o Λ' h' => Λ' = LL M ∧ h' = h ∧ ∃ x, o = .inl (some (vI x)) ∧ bI x (isPc h i)) := by
  obtain ⟨⟨b0, b1, b2, b3, -, -⟩, ⟨m1, m2, m3, m4⟩, -⟩ := hT
  refine ok_body B_X9_isPiece rfl (fun X hX => ?_)
  refine hX 20 [] 0 _ _ _ _ _ _ ?_
  refine And.intro (show inR (h 50 4 - 1) from ⟨by omega, by omega⟩) ?_
  by_cases z : isPc h i
  · refine Ok_rt (isIn_t (j := 0) (k := h 50 4 - 1) ⟨z.1, by have := z.2; omega⟩) ?_
    exact And.intro (by decide) ⟨rfl, rfl, _, rfl, Or.inl ⟨z, rfl⟩⟩
  · refine Ok_rt (isIn_f (j := 0) (k := h 50 4 - 1) (fun y => z ⟨y.1, by have := y.2; omega⟩)) ?_
    exact And.intro (by decide) ⟨rfl, rfl, _, rfl, Or.inr ⟨z, rfl⟩⟩
theorem t_isPart (hT : TbC h) : Ok 216 [vR 50, vI p, vI k] (LL M) h (fun o Λ' h' => Λ' = LL M ∧ h' = h ∧ ∃ x, o = .inl (some (vI x)) ∧ bI x (isPc h p ∧ isPa h p k)) := by
  refine ok_body B_X9_isPart rfl (fun X hX => ?_)
  refine hX 60 [] 0 _ _ _ _ _ _ ?_
  refine Ok_mono (fun o' Λ' h' hpost => ?_) (t_isPiece (M := M) (i := p) hT)
  obtain ⟨rfl, rfl, x, rfl, hb⟩ := hpost
  rcases hb with ⟨h1, rfl⟩ | ⟨h1, rfl⟩
  · have b3 := hT.1.2.2.2.1
    have h1p := h1
    unfold isPc at h1p
    have bp := (hT.1.2.2.2.2.2 p h1.1 h1.2).1
    have pq := (hT.2.2.2 p h1.1 h1.2).1
    rw [rd_in h1.1 (by omega)] at pq
    refine And.intro (fun c => absurd c (by decide)) (fun _ => ?_)
    refine And.intro ⟨by omega, by omega⟩ ?_
    refine And.intro (show inR (h' 54 p.toNat - 1) from ⟨by omega, by omega⟩) ?_
    by_cases z : isPa h' p k
    · refine Ok_rt (isIn_t (j := 0) (k := h' 54 p.toNat - 1) ⟨z.1, by have := z.2; omega⟩) ?_
      refine And.intro (fun c => absurd c (by decide)) (fun _ => ?_)
      exact And.intro ⟨by decide, by decide⟩ ⟨rfl, rfl, _, rfl, Or.inl ⟨⟨h1, z⟩, rfl⟩⟩
    · refine Ok_rt (isIn_f (j := 0) (k := h' 54 p.toNat - 1) (fun y => z ⟨y.1, by have := y.2; omega⟩)) ?_
      refine And.intro (fun _ => ?_) (fun c => absurd rfl c)
      exact And.intro ⟨by decide, by decide⟩ ⟨rfl, rfl, _, rfl, Or.inr ⟨fun y => z y.2, rfl⟩⟩
  · refine And.intro (fun _ => ?_) (fun c => absurd rfl c)
    exact And.intro ⟨by decide, by decide⟩ ⟨rfl, rfl, _, rfl, Or.inr ⟨fun y => h1 y.1, rfl⟩⟩
end TB
/-- the present state is kept, behind pm others -/
def KpP (h h' : HP) (pm : Nat) : Prop := (∀ c, c ≠ 50 → c ≠ 58 → h' c = h c) ∧ (∀ q, q ≠ 15 → h' 50 q = h 50 q) ∧
  ((pm < 8 ∧ h' 50 15 = (pm : Int) + 1 ∧ (∀ j : Nat, j < 132 * pm → h' 58 j = h 58 j) ∧ ∀ i : Nat, i < 132 → h' 58 (132 * pm + i) = h 57 i) ∨
   (pm = 8 ∧ h' 50 15 = 8 ∧ (∀ j : Nat, j < 924 → h' 58 j = h 58 (j + 132)) ∧ ∀ i : Nat, i < 132 → h' 58 (924 + i) = h 57 i))
section CHG
variable {M : List CT} {h : HP} {i j m s p c x y w a b : Int} {pm : Nat}
theorem m_keeps (hp : h 50 15 = (pm : Int)) (h8 : pm ≤ 8) : Ok 258 [vR 50] (LL M) h (fun o Λ' h' => o = .inl none ∧ Λ' = LL M ∧ KpP h h' pm) := by
  refine ok_body B_X9_keeps rfl (fun X hX => ?_)
  have lay : ∀ (n : Nat), n ≤ 7 → ∀ h2 : HP, h2 50 15 = (n : Int) → (∀ h', (∀ c, c ≠ 50 → c ≠ 58 → h' c = h2 c) → (∀ q, q ≠ 15 → h' 50 q = h2 50 q) → h' 50 15 = (n : Int) + 1 → (∀ j : Nat, j < 132 * n → h' 58 j = h2 58 j) → (∀ i : Nat, i < 132 → h' 58 (132 * n + i) = h2 57 i) → (KpP h h' pm)) →
      ∀ j1, X 55 [vR 50, j1] [] (LL M) h2 0 0 := by
    intro n hn h2 h15 hgo j1
    have loop : ∀ (f q : Nat) (h1 : HP), q + f = 132 → (∀ c, c ≠ 58 → h1 c = h2 c) → (∀ j : Nat, j < 132 * n → h1 58 j = h2 58 j) → (∀ i : Nat, i < q → h1 58 (132 * n + i) = h2 57 i) → X 57 [vR 50, vI (q : Int)] [] (LL M) h1 0 0 := by
      intro f
      induction f with
      | zero =>
        intro q h1 hq g1 g2 g3
        have e15 : h1 50 15 = (n : Int) := by rw [g1 50 (by decide)]; exact h15
        refine hX 20 [] 57 _ _ _ _ _ _ ?_
        refine And.intro (fun _ => ?_) (fun c61 => absurd c61 (by omega))
        refine And.intro (show inR (h1 50 15 + 1) from ⟨by omega, by omega⟩) ?_
        refine ⟨rfl, rfl, hgo _ (fun c c1 c2 => by rw [up_cell c1]; exact g1 c c2) (fun q hq => by rw [up_ne hq, g1 50 (by decide)]) ?_ (fun j hj => by rw [up_cell (by decide)]; exact g2 j hj) (fun i hi => by rw [up_cell (by decide)]; exact g3 i (by omega))⟩
        rw [up_same, e15]
      | succ f ih =>
        intro q h1 hq g1 g2 g3
        have e15 : h1 50 15 = (n : Int) := by rw [g1 50 (by decide)]; exact h15
        refine hX 30 [57] 57 _ _ _ _ _ _ ?_
        refine And.intro (fun c61 => absurd c61 (by omega)) (fun c61 => ?_)
        refine And.intro (show inR (132 * h1 50 15) from ⟨by omega, by omega⟩) ?_
        refine And.intro (show inR (132 * h1 50 15 + (q : Int)) from ⟨by omega, by omega⟩) ?_
        refine And.intro ⟨by omega, by omega⟩ ?_
        refine And.intro (show 0 ≤ 132 * h1 50 15 + (q : Int) ∧ 132 * h1 50 15 + (q : Int) < 1056 from ⟨by omega, by omega⟩) ?_
        refine And.intro ⟨by omega, by omega⟩ ?_
        have et : (132 * h1 50 15 + (q : Int)).toNat = 132 * n + q := by omega
        rw [show (q : Int).toNat = q from Int.toNat_natCast q]
        have go := ih (q + 1) (up h1 58 (132 * n + q) (h1 57 q)) (by omega) (fun c c1 => by rw [up_cell c1]; exact g1 c c1) (fun j hj => by rw [up_ne (by omega)]; exact g2 j hj) (fun i hi => by
          by_cases z : i = q
          · subst z; rw [up_same, g1 57 (by decide)]
          · rw [up_ne (by omega)]; exact g3 i (by omega))
        rw [← et] at go
        exact go
    refine hX 10 [57] 55 _ _ _ _ _ _ ?_
    exact loop 132 0 h2 (by omega) (fun c _ => rfl) (fun j _ => rfl) (fun i hi => absurd hi (Nat.not_lt_zero _))
  by_cases z : pm = 8
  · have shift : ∀ (f q : Nat) (h1 : HP), q + f = 924 → (∀ c, c ≠ 50 → c ≠ 58 → h1 c = h c) → (∀ j, j ≠ 15 → h1 50 j = h 50 j) → h1 50 15 = 7 → (∀ j : Nat, j < q → h1 58 j = h 58 (j + 132)) → (∀ j : Nat, q ≤ j → h1 58 j = h 58 j) → X 21 [vR 50, vI (q : Int)] [] (LL M) h1 0 0 := by
      intro f
      induction f with
      | zero =>
        intro q h1 hq g1 g2 g3 g4 g5
        refine hX 20 [55] 21 _ _ _ _ _ _ ?_
        refine And.intro (show inR (132 * h1 50 15) from ⟨by omega, by omega⟩) ?_
        refine And.intro (fun _ => ?_) (fun c30 => absurd (show (q : Int) < 132 * h1 50 15 from c30) (by omega))
        refine lay 7 (by omega) h1 g3 (fun h' k1 k2 k3 k4 k5 => ⟨fun c c1 c2 => by rw [k1 c c1 c2]; exact g1 c c1 c2, fun q hq => by rw [k2 q hq]; exact g2 q hq, Or.inr ⟨z, k3, fun j hj => by rw [k4 j (by omega)]; exact g4 j (by omega), fun i hi => by rw [k5 i hi, g1 57 (by decide) (by decide)]⟩⟩) _
      | succ f ih =>
        intro q h1 hq g1 g2 g3 g4 g5
        refine hX 30 [21] 21 _ _ _ _ _ _ ?_
        refine And.intro (show inR (132 * h1 50 15) from ⟨by omega, by omega⟩) ?_
        rw [g3]
        refine And.intro (fun c30 => absurd c30 (by omega)) (fun c30 => ?_)
        refine And.intro ⟨by omega, by omega⟩ ?_
        refine And.intro ⟨by omega, by omega⟩ ?_
        refine And.intro ⟨by omega, by omega⟩ ?_
        refine And.intro ⟨by omega, by omega⟩ ?_
        rw [show (q : Int).toNat = q from Int.toNat_natCast q, show ((q : Int) + 132).toNat = q + 132 by omega]
        refine ih (q + 1) _ (by omega) (fun c c1 c2 => by rw [up_cell c2]; exact g1 c c1 c2) (fun j hj => by rw [up_cell (by decide)]; exact g2 j hj) (by rw [up_cell (by decide)]; exact g3) (fun j hj => ?_) (fun j hj => by rw [up_ne (by omega)]; exact g5 j (by omega))
        by_cases e : j = q
        · subst e; rw [up_same]; exact g5 _ (by omega)
        · rw [up_ne e]; exact g4 j (by omega)
    refine hX 20 [21, 55] 0 _ _ _ _ _ _ ?_
    refine And.intro (fun c6 => absurd (hp.trans (by rw [z]; rfl)) c6) (fun _ => ?_)
    refine And.intro (show inR (h 50 15 - 1) from ⟨by omega, by omega⟩) ?_
    exact shift 924 0 _ (by omega) (fun c c1 _ => up_cell c1) (fun j hj => up_ne hj) (by rw [up_same]; omega) (fun j hj => absurd hj (Nat.not_lt_zero _)) (fun j _ => by rw [up_cell (by decide)])
  · refine hX 20 [21, 55] 0 _ _ _ _ _ _ ?_
    refine And.intro (fun _ => ?_) (fun c6 => absurd (show h 50 15 = 8 from c6) (by omega))
    exact lay pm (by omega) h hp (fun h' k1 k2 k3 k4 k5 => ⟨k1, k2, Or.inl ⟨by omega, k3, k4, k5⟩⟩) _
/-- the end of a change -/
def chP (M : List CT) (h : HP) (pm : Nat) (v : Int) (new : Nat → Int) : Post := fun o Λ' h' => o = .inl (some (vI v)) ∧ Λ' = LL M ∧ ∃ h1, KpP (up h 50 0 0) h1 pm ∧ (∀ c, c ≠ 50 → c ≠ 57 → (c < 69 ∨ 76 < c) → h' c = h1 c) ∧ (∀ q, q ≠ 39 → q ≠ 40 → q ≠ 41 → q ≠ 46 → h' 50 q = h1 50 q) ∧ ∀ i : Nat, i < 132 → h' 57 i = new i
theorem t_valueOf (hm : 0 ≤ m ∧ m < 8) (hs : 0 ≤ s ∧ s < 6) : Ok 217 [vR 50, vI m, vI s] (LL M) h (rt (some (vI (h 57 (4 + 6 * m + s).toNat))) (LL M) h) := by
  refine ok_body B_X9_valueOf rfl (fun X hX => ?_)
  refine hX 16 [] 0 _ _ _ _ _ _ ?_
  refine And.intro ⟨by omega, by omega⟩ ?_
  refine And.intro ⟨by omega, by omega⟩ ?_
  refine And.intro ⟨by omega, by omega⟩ ?_
  refine And.intro ⟨by omega, by omega⟩ ?_
  exact rt_mk rfl rfl
theorem m_setValue (hT : TbC h) (hp : h 50 15 = (pm : Int)) (h8 : pm ≤ 8) (hm : isMs h m) (hs : isSz h s) (hx : 0 ≤ x ∧ x ≤ 3000) :
    Ok 260 [vR 50, vI m, vI s, vI x] (LL M) h (chP M h pm (h 57 (4 + 6 * m + s).toNat) (fun i => if i = (4 + 6 * m + s).toNat then x else h 57 i)) := by
  have T0 := TbC_0 (v := 0) hT
  have b0 := hT.1.1
  have b1 := hT.1.2.1
  have m0 : 0 ≤ m ∧ m < 8 := ⟨hm.1, by have := hm.2; omega⟩
  have s0 : 0 ≤ s ∧ s < 6 := ⟨hs.1, by have := hs.2; omega⟩
  refine ok_body B_X9_setValue rfl (fun X hX => ?_)
  refine hX 60 [27] 0 _ _ _ _ _ _ ?_
  refine Ok_mono (fun o' Λ' h' hpost => ?_) (t_isMeasure (M := M) (i := m) T0)
  obtain ⟨rfl, rfl, x, rfl, hb⟩ := hpost
  rcases hb with ⟨-, rfl⟩ | ⟨hb, -⟩
  case inr => exact absurd (isMs_0.mpr hm) hb
  refine And.intro (fun c => absurd c (by decide)) (fun _ => ?_)
  refine Ok_mono (fun o' Λ' h' hpost => ?_) (t_isSize (M := M) (i := s) T0)
  obtain ⟨rfl, rfl, x, rfl, hb⟩ := hpost
  rcases hb with ⟨-, rfl⟩ | ⟨hb, -⟩
  case inr => exact absurd (isSz_0.mpr hs) hb
  refine And.intro (fun c => absurd c (by decide)) (fun _ => ?_)
  refine hX 60 [53] 27 _ _ _ _ _ _ ?_
  refine Ok_rt (mayT (by decide) up_same) ?_
  refine And.intro (fun c => absurd c (by decide)) (fun _ => ?_)
  refine Ok_rt (isIn_t hx) ?_
  refine Ok_rt (mayT (by decide) up_same) ?_
  refine And.intro (fun _ => ?_) (fun c => absurd c (by decide))
  refine hX 60 [65] 53 _ _ _ _ _ _ ?_
  refine Ok_mono (fun o' Λ' h1 hpost => ?_) (m_keeps (M := M) (h := up h 50 0 0) (pm := pm) (by rw [up_ne (by decide)]; exact hp) h8)
  obtain ⟨rfl, rfl, K⟩ := hpost
  have e57 : h1 57 = h 57 := by rw [K.1 57 (by decide) (by decide), up_cell (by decide)]
  refine Ok_rt (t_valueOf m0 s0) ?_
  rw [e57]
  show X 65 [_, _, _, _, _] _ _ _ _ _
  refine hX 60 [] 65 _ _ _ _ _ _ ?_
  refine And.intro ⟨by omega, by omega⟩ ?_
  refine And.intro ⟨by omega, by omega⟩ ?_
  refine And.intro ⟨by omega, by omega⟩ ?_
  refine And.intro ⟨by omega, by omega⟩ ?_
  refine ⟨rfl, rfl, h1, K, fun c c1 c2 _ => up_cell c2, fun q _ _ _ _ => by rw [up_cell (by decide)], fun i hi => ?_⟩
  rw [up_at, e57]
theorem m_setEase (hT : TbC h) (hpm : h 50 15 = (pm : Int)) (h8 : pm ≤ 8) (hp : isPc h p) (hk : isPa h p j) (hx : -999 ≤ x ∧ x ≤ 999) (hkd : cF (h 26) p j 0 ≠ 1) :
    Ok 262 [vR 50, vI p, vI j, vI x] (LL M) h (chP M h pm (h 57 (52 + 10 * p + j).toNat) (fun i => if i = (52 + 10 * p + j).toNat then x else h 57 i)) := by
  have T0 := TbC_0 (v := 0) hT
  have b3 := hT.1.2.2.2.1
  have bp := (hT.1.2.2.2.2.2 p hp.1 hp.2).1
  have p0 : 0 ≤ p ∧ p < 6 := ⟨hp.1, by have := hp.2; omega⟩
  have k0 : 0 ≤ j ∧ j < 10 := ⟨hk.1, by have := hk.2; omega⟩
  have pt := ((hT.2.2.2 p hp.1 hp.2).2 j hk.1 hk.2).1.1
  rw [rd_in (by omega) (by omega)] at pt
  refine ok_body B_X9_setEase rfl (fun X hX => ?_)
  refine hX 60 [55] 0 _ _ _ _ _ _ ?_
  refine Ok_mono (fun o' Λ' h' hpost => ?_) (t_isPart (M := M) (p := p) (k := j) T0)
  obtain ⟨rfl, rfl, x, rfl, hb⟩ := hpost
  rcases hb with ⟨-, rfl⟩ | ⟨hb, -⟩
  case inr => exact absurd ⟨isPc_0.mpr hp, isPa_0.mpr hk⟩ hb
  refine Ok_rt (mayT (by decide) up_same) ?_
  refine And.intro (fun c => absurd c (by decide)) (fun _ => ?_)
  refine Ok_rt (isIn_t hx) ?_
  refine Ok_rt (mayT (by decide) up_same) ?_
  refine And.intro (fun c => absurd c (by decide)) (fun _ => ?_)
  have of0 : Ok 223 [vR 50, vI p, vI j, vI 0] (LL M) (up h 50 0 0) (rt (some (vI (cF (h 26) p j 0))) (LL M) (up h 50 0 0)) := by
    refine ok_body B_X9_of rfl (fun X hX => ?_)
    refine hX 18 [] 0 _ _ _ _ _ _ ?_
    refine And.intro ⟨by omega, by omega⟩ ?_
    refine And.intro ⟨by omega, by omega⟩ ?_
    refine And.intro ⟨by omega, by omega⟩ ?_
    refine And.intro ⟨by omega, by omega⟩ ?_
    refine And.intro ⟨by omega, by omega⟩ ?_
    exact rt_mk (congrArg (fun z => some (vI z)) (show up h 50 0 0 55 (8 * (10 * p + j) + 0).toNat = _ by rw [up_cell (by decide)]; exact pt)) rfl
  refine Ok_rt of0 ?_
  refine And.intro (fun c => absurd c hkd) (fun _ => ?_)
  refine hX 60 [64] 55 _ _ _ _ _ _ ?_
  refine Ok_rt (mayT (by decide) up_same) ?_
  refine And.intro (fun _ => ?_) (fun c => absurd c (by decide))
  refine hX 60 [79] 64 _ _ _ _ _ _ ?_
  refine Ok_mono (fun o' Λ' h1 hpost => ?_) (m_keeps (M := M) (h := up h 50 0 0) (pm := pm) (by rw [up_ne (by decide)]; exact hpm) h8)
  obtain ⟨rfl, rfl, K⟩ := hpost
  have e57 : h1 57 = h 57 := by rw [K.1 57 (by decide) (by decide), up_cell (by decide)]
  refine And.intro ⟨by omega, by omega⟩ ?_
  refine And.intro ⟨by omega, by omega⟩ ?_
  refine And.intro ⟨by omega, by omega⟩ ?_
  show X 79 [_, _, _, _, _, _] _ _ _ _ _
  refine hX 60 [88] 79 _ _ _ _ _ _ ?_
  refine And.intro ⟨by omega, by omega⟩ ?_
  show X 88 [_, _, _, _, _, _] _ _ _ _ _
  refine hX 60 [] 88 _ _ _ _ _ _ ?_
  refine And.intro ⟨by omega, by omega⟩ ?_
  refine ⟨by rw [e57], rfl, h1, K, fun c c1 c2 _ => up_cell c2, fun q _ _ _ _ => by rw [up_cell (by decide)], fun i hi => ?_⟩
  rw [up_at, e57]
theorem m_addLot (hp : h 50 15 = (pm : Int)) (h8 : pm ≤ 8) (hc : 0 ≤ c ∧ c ≤ 3) (hm : 1 ≤ m ∧ m ≤ 9999) {l : Nat} (hl : h 57 3 = (l : Int)) (hl2 : l < 10) :
    Ok 263 [vR 50, vI c, vI m] (LL M) h (chP M h pm (l : Int) (fun i => if i = 3 then (l : Int) + 1 else if i = 112 + 2 * l + 1 then m else if i = 112 + 2 * l then c else h 57 i)) := by
  have t3 : ∀ h' : HP, h' 57 = h 57 → h' 57 (3 : Int).toNat = (l : Int) := fun h' e => by rw [e]; exact hl
  refine ok_body B_X9_addLot rfl (fun X hX => ?_)
  refine hX 60 [30] 0 _ _ _ _ _ _ ?_
  refine Ok_mono (fun o' Λ' h' hpost => ?_) (m_isColor (M := M) (i := c))
  obtain ⟨rfl, rfl, x, rfl, hb⟩ := hpost
  rcases hb with ⟨-, rfl⟩ | ⟨hb, -⟩
  case inr => exact absurd hc hb
  refine And.intro (fun c => absurd c (by decide)) (fun _ => ?_)
  refine Ok_rt (isIn_t hm) ?_
  refine And.intro (fun c => absurd c (by decide)) (fun _ => ?_)
  refine hX 60 [54, 63] 30 _ _ _ _ _ _ ?_
  refine Ok_rt (mayT (by decide) up_same) ?_
  refine And.intro (fun c => absurd c (by decide)) (fun _ => ?_)
  refine And.intro ⟨by omega, by omega⟩ ?_
  rw [t3 _ (up_cell (by decide))]
  refine And.intro (fun c46 => absurd c46 (by omega)) (fun _ => ?_)
  refine hX 60 [63] 54 _ _ _ _ _ _ ?_
  refine Ok_rt (mayT (by decide) up_same) ?_
  refine And.intro (fun _ => ?_) (fun c => absurd c (by decide))
  refine hX 60 [74] 63 _ _ _ _ _ _ ?_
  refine Ok_mono (fun o' Λ' h1 hpost => ?_) (m_keeps (M := M) (h := up h 50 0 0) (pm := pm) (by rw [up_ne (by decide)]; exact hp) h8)
  obtain ⟨rfl, rfl, K⟩ := hpost
  have e57 : h1 57 = h 57 := by rw [K.1 57 (by decide) (by decide), up_cell (by decide)]
  refine And.intro ⟨by omega, by omega⟩ ?_
  rw [t3 h1 e57]
  show X 74 [_, _, _, _] _ _ _ _ _
  refine hX 60 [] 74 _ _ _ _ _ _ ?_
  refine And.intro ⟨by omega, by omega⟩ ?_
  refine And.intro ⟨by omega, by omega⟩ ?_
  refine And.intro ⟨by omega, by omega⟩ ?_
  refine And.intro ⟨by omega, by omega⟩ ?_
  refine And.intro ⟨by omega, by omega⟩ ?_
  refine And.intro ⟨by omega, by omega⟩ ?_
  refine And.intro ⟨by omega, by omega⟩ ?_
  have ea : (112 + 2 * (l : Int)).toNat = 112 + 2 * l := by omega
  have eb : (112 + 2 * (l : Int) + 1).toNat = 112 + 2 * l + 1 := by omega
  rw [ea, eb]
  refine And.intro ⟨by omega, by omega⟩ ?_
  have e3 : up (up h1 57 (112 + 2 * l) c) 57 (112 + 2 * l + 1) m 57 (3 : Int).toNat = (l : Int) := by
    show up (up h1 57 (112 + 2 * l) c) 57 (112 + 2 * l + 1) m 57 3 = _
    rw [up_ne (by omega), up_ne (by omega), e57]; exact hl
  rw [e3]
  refine And.intro ⟨by omega, by omega⟩ ?_
  refine And.intro ⟨by omega, by omega⟩ ?_
  refine ⟨rfl, rfl, h1, K, fun c c1 c2 _ => by rw [up_cell c2, up_cell c2, up_cell c2], fun q _ _ _ _ => by rw [up_cell (by decide), up_cell (by decide), up_cell (by decide)], fun i hi => ?_⟩
  show up (up (up h1 57 (112 + 2 * l) c) 57 (112 + 2 * l + 1) m) 57 3 ((l : Int) + 1) 57 i = _
  rw [up_at, up_at, up_at, e57]
theorem m_removeLot (hp : h 50 15 = (pm : Int)) (h8 : pm ≤ 8) {l k : Nat} (hl : h 57 3 = (l : Int)) (hl2 : l ≤ 10) (hk : k < l) :
    Ok 264 [vR 50, vI (k : Int)] (LL M) h (chP M h pm (h 57 (112 + 2 * k + 1)) (fun i => if i = 3 then (l : Int) - 1 else if 112 + 2 * k ≤ i ∧ i < 130 then h 57 (i + 2) else h 57 i)) := by
  have t3 : ∀ h' : HP, h' 57 = h 57 → h' 57 (3 : Int).toNat = (l : Int) := fun h' e => by rw [e]; exact hl
  refine ok_body B_X9_removeLot rfl (fun X hX => ?_)
  refine hX 60 [30] 0 _ _ _ _ _ _ ?_
  refine And.intro ⟨by omega, by omega⟩ ?_
  rw [t3 _ (up_cell (by decide))]
  refine And.intro ⟨by omega, by omega⟩ ?_
  refine Ok_rt (isIn_t (by omega)) ?_
  refine Ok_rt (mayT (by decide) up_same) ?_
  refine And.intro (fun _ => ?_) (fun c => absurd c (by decide))
  refine hX 60 [48] 30 _ _ _ _ _ _ ?_
  refine Ok_mono (fun o' Λ' h1 hpost => ?_) (m_keeps (M := M) (h := up h 50 0 0) (pm := pm) (by rw [up_ne (by decide)]; exact hp) h8)
  obtain ⟨rfl, rfl, K⟩ := hpost
  have e57 : h1 57 = h 57 := by rw [K.1 57 (by decide) (by decide), up_cell (by decide)]
  refine And.intro ⟨by omega, by omega⟩ ?_
  refine And.intro ⟨by omega, by omega⟩ ?_
  refine And.intro ⟨by omega, by omega⟩ ?_
  refine And.intro ⟨by omega, by omega⟩ ?_
  have eb : (112 + 2 * (k : Int) + 1).toNat = 112 + 2 * k + 1 := by omega
  rw [eb, e57]
  have loop : ∀ (f q : Nat) (h2 : HP), q + f = 130 → 112 + 2 * k ≤ q → (∀ c, c ≠ 57 → h2 c = h1 c) → (∀ i : Nat, h2 57 i = if 112 + 2 * k ≤ i ∧ i < q then h 57 (i + 2) else h 57 i) → X 55 [vR 50, vI (k : Int), vI (h 57 (112 + 2 * k + 1)), vI (q : Int)] [] (LL M) h2 0 0 := by
    intro f
    induction f with
    | zero =>
      intro q h2 hq hq1 g1 g2
      have e3 : h2 57 (3 : Int).toNat = (l : Int) := by show h2 57 3 = _; rw [g2 3, if_neg (by omega)]; exact hl
      refine hX 40 [] 55 _ _ _ _ _ _ ?_
      refine And.intro (fun _ => ?_) (fun c59 => absurd c59 (by omega))
      refine And.intro ⟨by omega, by omega⟩ ?_
      rw [e3]
      refine And.intro ⟨by omega, by omega⟩ ?_
      refine And.intro ⟨by omega, by omega⟩ ?_
      refine ⟨rfl, rfl, h1, K, fun c c1 c2 _ => by rw [up_cell c2]; exact g1 c c2, fun q _ _ _ _ => by rw [up_cell (by decide), g1 50 (by decide)], fun i hi => ?_⟩
      show up h2 57 3 ((l : Int) - 1) 57 i = _
      rw [up_at, g2 i, show q = 130 by omega]
    | succ f ih =>
      intro q h2 hq hq1 g1 g2
      refine hX 40 [55] 55 _ _ _ _ _ _ ?_
      refine And.intro (fun c59 => absurd c59 (by omega)) (fun c59 => ?_)
      refine And.intro ⟨by omega, by omega⟩ ?_
      refine And.intro ⟨by omega, by omega⟩ ?_
      refine And.intro ⟨by omega, by omega⟩ ?_
      refine And.intro ⟨by omega, by omega⟩ ?_
      rw [show (q : Int).toNat = q from Int.toNat_natCast q, show ((q : Int) + 2).toNat = q + 2 by omega]
      refine ih (q + 1) _ (by omega) (by omega) (fun c c1 => by rw [up_cell c1]; exact g1 c c1) (fun i => ?_)
      have e2 : h2 57 (q + 2) = h 57 (q + 2) := by rw [g2 (q + 2), if_neg (by omega)]
      rw [up_at, e2, g2 i]
      by_cases z : i = q
      · rw [z, if_pos rfl, if_pos ⟨hq1, by omega⟩]
      · rw [if_neg z]
        by_cases y : 112 + 2 * k ≤ i ∧ i < q
        · rw [if_pos y, if_pos ⟨y.1, by omega⟩]
        · rw [if_neg y, if_neg (by omega)]
  show X 48 [_, _, _, _] _ _ _ _ _
  refine hX 40 [55] 48 _ _ _ _ _ _ ?_
  refine And.intro ⟨by omega, by omega⟩ ?_
  refine And.intro ⟨by omega, by omega⟩ ?_
  have go := loop (130 - (112 + 2 * k)) (112 + 2 * k) h1 (by omega) (Nat.le_refl _) (fun _ _ => rfl) (fun i => by rw [if_neg (by omega), e57])
  rw [show ((112 + 2 * k : Nat) : Int) = 112 + 2 * (k : Int) by omega] at go
  exact go
end CHG
