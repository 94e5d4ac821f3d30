/-! ===== the model: undo, save, restore, differences ===== -/
/-- the end of a call without an answer that throws -/
def tvP (M : List CT) (h : HP) (e : Int) : Post := fun o Λ' h' => o = .inl none ∧ Λ' = LL M ∧ FrM h h' ∧ h' 50 0 = e
section UND
variable {M : List CT} {h : HP} {i j m s p c x y w a b : Int} {pm ns n t : Nat}
theorem m_isSlot : Ok 266 [vI i] (LL M) h (fun o Λ' h' => Λ' = LL M ∧ h' = h ∧ ∃ x, o = .inl (some (vI x)) ∧ bI x (0 ≤ i ∧ i ≤ 1)) := by
  refine ok_body B_X9_isSlot rfl (fun X hX => ?_)
  refine hX 20 [] 0 _ _ _ _ _ _ ?_
  by_cases z : 0 ≤ i ∧ i ≤ 1
  · refine Ok_rt (isIn_t z) ?_
    exact And.intro (by decide) ⟨rfl, rfl, _, rfl, Or.inl ⟨z, rfl⟩⟩
  · refine Ok_rt (isIn_f z) ?_
    exact And.intro (by decide) ⟨rfl, rfl, _, rfl, Or.inr ⟨z, rfl⟩⟩
theorem m_undo (hp : h 50 15 = (pm : Int) + 1) (h8 : pm < 8) : Ok 265 [vR 50] (LL M) h (fun o Λ' h' => o = .inl (some (vI (pm : Int))) ∧ Λ' = LL M ∧ (∀ c, c ≠ 50 → c ≠ 57 → h' c = h c) ∧ (∀ q, q ≠ 0 → q ≠ 15 → h' 50 q = h 50 q) ∧ h' 50 0 = 0 ∧ h' 50 15 = (pm : Int) ∧ ∀ i : Nat, i < 132 → h' 57 i = h 58 (132 * pm + i)) := by
  refine ok_body B_X9_undo rfl (fun X hX => ?_)
  have loop : ∀ (f q : Nat) (h1 : HP), q + f = 132 → (∀ c, c ≠ 50 → c ≠ 57 → h1 c = h c) → (∀ q, q ≠ 0 → q ≠ 15 → h1 50 q = h 50 q) → h1 50 0 = 0 → h1 50 15 = (pm : Int) → (∀ i : Nat, i < q → h1 57 i = h 58 (132 * pm + i)) → X 39 [vR 50, vI (q : Int)] [] (LL M) h1 0 0 := by
    intro f
    induction f with
    | zero =>
      intro q h1 hq g1 g2 g3 g4 g5
      refine hX 20 [] 39 _ _ _ _ _ _ ?_
      refine And.intro (fun _ => ?_) (fun c43 => absurd c43 (by omega))
      exact ⟨congrArg (fun z => Sum.inl (some (vI z))) g4, rfl, g1, g2, g3, g4, fun i hi => g5 i (by omega)⟩
    | succ f ih =>
      intro q h1 hq g1 g2 g3 g4 g5
      refine hX 30 [39] 39 _ _ _ _ _ _ ?_
      refine And.intro (fun c43 => absurd c43 (by omega)) (fun c43 => ?_)
      refine And.intro (show inR (132 * h1 50 15) from ⟨by omega, by omega⟩) ?_
      refine And.intro (show inR (132 * h1 50 15 + (q : Int)) from ⟨by omega, by omega⟩) ?_
      refine And.intro (show 0 ≤ 132 * h1 50 15 + (q : Int) ∧ 132 * h1 50 15 + (q : Int) < 1056 from ⟨by omega, by omega⟩) ?_
      refine And.intro ⟨by omega, by omega⟩ ?_
      refine And.intro ⟨by omega, by omega⟩ ?_
      have et : (132 * h1 50 15 + (q : Int)).toNat = 132 * pm + q := by omega
      have go := ih (q + 1) (up h1 57 (q : Int).toNat (h1 58 (132 * pm + q))) (by omega) (fun c c0 c1 => by rw [up_cell c1]; exact g1 c c0 c1) (fun q q0 q1 => by rw [up_cell (by decide)]; exact g2 q q0 q1) (by rw [up_cell (by decide)]; exact g3) (by rw [up_cell (by decide)]; exact g4) (fun i hi => by
        rw [show (q : Int).toNat = q from Int.toNat_natCast q]
        by_cases z : i = q
        · subst z; rw [up_same, g1 58 (by decide) (by decide)]
        · rw [up_ne z]; exact g5 i (by omega))
      rw [← et] at go
      exact go
  refine hX 60 [27] 0 _ _ _ _ _ _ ?_
  refine And.intro (fun c10 => absurd (show h 50 15 ≤ 0 from c10) (by omega)) (fun _ => ?_)
  refine Ok_rt (mayT (by decide) up_same) ?_
  refine And.intro (fun _ => ?_) (fun c9 => absurd c9 (by decide))
  refine hX 60 [39] 27 _ _ _ _ _ _ ?_
  have e15 : up h 50 0 0 50 15 = (pm : Int) + 1 := by rw [up_ne (by decide)]; exact hp
  refine And.intro (show inR (up h 50 0 0 50 15 - 1) from ⟨by omega, by omega⟩) ?_
  exact loop 132 0 _ (by omega) (fun c c0 _ => by rw [up_cell c0, up_cell c0]) (fun q q0 q1 => by rw [up_ne q1, up_ne q0]) (by rw [up_ne (by decide), up_same]) (by rw [up_same, e15]; omega) (fun i hi => absurd hi (Nat.not_lt_zero _))
theorem m_undo_x (hp : h 50 15 = 0) : Ok 265 [vR 50] (LL M) h (thP M h 0 1) := by
  have fin : ∀ e h', h' = up (up h 50 0 0) 50 0 e → FrM h h' ∧ h' 50 0 = e := fun e h' q => by rw [q, up_up]; exact ⟨FrM_0, up_same⟩
  refine ok_body B_X9_undo rfl (fun X hX => ?_)
  refine hX 60 [27] 0 _ _ _ _ _ _ ?_
  refine And.intro (fun _ => ?_) (fun c10 => absurd (show (0 : Int) < up h 50 0 0 50 15 from c10) (by rw [up_ne (by decide)]; omega))
  refine Ok_rt (mayF (by decide) up_same) ?_
  refine And.intro (fun c9 => absurd rfl c9) (fun _ => ?_)
  exact ⟨rfl, rfl, fin _ _ rfl⟩
theorem m_save (ht : t < 2) : Ok 267 [vR 50, vI (t : Int)] (LL M) h (fun o Λ' h' => o = .inl none ∧ Λ' = LL M ∧ (∀ c, c ≠ 50 → c ≠ 59 → c ≠ 60 → h' c = h c) ∧ (∀ q, q ≠ 0 → h' 50 q = h 50 q) ∧ h' 50 0 = 0 ∧ (∀ q, q ≠ t → h' 60 q = h 60 q) ∧ h' 60 t = 1 ∧ (∀ i : Nat, i < 132 → h' 59 (132 * t + i) = h 57 i) ∧ ∀ q : Nat, (q < 132 * t ∨ 132 * t + 132 ≤ q) → h' 59 q = h 59 q) := by
  refine ok_body B_X9_save rfl (fun X hX => ?_)
  have loop : ∀ (f q : Nat) (h1 : HP), q + f = 132 → (∀ c, c ≠ 50 → c ≠ 59 → h1 c = h c) → (∀ q, q ≠ 0 → h1 50 q = h 50 q) → h1 50 0 = 0 → (∀ i : Nat, i < q → h1 59 (132 * t + i) = h 57 i) → (∀ q : Nat, (q < 132 * t ∨ 132 * t + 132 ≤ q) → h1 59 q = h 59 q) → X 20 [vR 50, vI (t : Int), vI (q : Int)] [] (LL M) h1 0 0 := by
    intro f
    induction f with
    | zero =>
      intro q h1 hq g1 g2 g3 g4 g5
      refine hX 20 [] 20 _ _ _ _ _ _ ?_
      refine And.intro (fun _ => ?_) (fun c24 => absurd c24 (by omega))
      refine And.intro ⟨⟨by omega, by omega⟩, ⟨by decide, by decide⟩⟩ ?_
      rw [show (t : Int).toNat = t from Int.toNat_natCast t]
      exact ⟨rfl, rfl, fun c c0 c1 c2 => by rw [up_cell c2]; exact g1 c c0 c1, fun q q0 => by rw [up_cell (by decide)]; exact g2 q q0, by rw [up_cell (by decide)]; exact g3, fun q q0 => by rw [up_ne q0, g1 60 (by decide) (by decide)], up_same, fun i hi => by rw [up_cell (by decide)]; exact g4 i (by omega), fun q q0 => by rw [up_cell (by decide)]; exact g5 q q0⟩
    | succ f ih =>
      intro q h1 hq g1 g2 g3 g4 g5
      refine hX 30 [20] 20 _ _ _ _ _ _ ?_
      refine And.intro (fun c24 => absurd c24 (by omega)) (fun c24 => ?_)
      refine And.intro ⟨by omega, by omega⟩ ?_
      refine And.intro ⟨by omega, by omega⟩ ?_
      refine And.intro ⟨by omega, by omega⟩ ?_
      refine And.intro ⟨by omega, by omega⟩ ?_
      refine And.intro ⟨by omega, by omega⟩ ?_
      rw [show (q : Int).toNat = q from Int.toNat_natCast q, show (132 * (t : Int) + (q : Int)).toNat = 132 * t + q by omega]
      refine ih (q + 1) _ (by omega) (fun c c0 c1 => by rw [up_cell c1]; exact g1 c c0 c1) (fun q q0 => by rw [up_cell (by decide)]; exact g2 q q0) (by rw [up_cell (by decide)]; exact g3) (fun i hi => ?_) (fun q q0 => by rw [up_ne (by omega)]; exact g5 q q0)
      by_cases z : i = q
      · subst z; rw [up_same, g1 57 (by decide) (by decide)]
      · rw [up_ne (by omega)]; exact g4 i (by omega)
  refine hX 60 [18] 0 _ _ _ _ _ _ ?_
  refine Ok_mono (fun o' Λ' h' hpost => ?_) (m_isSlot (M := M) (i := (t : Int)))
  obtain ⟨rfl, rfl, x9, rfl, hb⟩ := hpost
  rcases hb with ⟨-, rfl⟩ | ⟨hb, -⟩
  case inr => exact absurd ⟨by omega, by omega⟩ hb
  refine Ok_rt (mayT (by decide) up_same) ?_
  refine And.intro (fun _ => ?_) (fun c9 => absurd c9 (by decide))
  refine hX 60 [20] 18 _ _ _ _ _ _ ?_
  exact loop 132 0 _ (by omega) (fun c c0 _ => up_cell c0) (fun q q0 => up_ne q0) up_same (fun i hi => absurd hi (Nat.not_lt_zero _)) (fun q _ => by rw [up_cell (by decide)])
theorem m_save_x (hx : ¬ (0 ≤ i ∧ i ≤ 1)) : Ok 267 [vR 50, vI i] (LL M) h (tvP M h 1) := by
  have fin : ∀ e h', h' = up (up h 50 0 0) 50 0 e → FrM h h' ∧ h' 50 0 = e := fun e h' q => by rw [q, up_up]; exact ⟨FrM_0, up_same⟩
  refine ok_body B_X9_save rfl (fun X hX => ?_)
  refine hX 60 [18] 0 _ _ _ _ _ _ ?_
  refine Ok_mono (fun o' Λ' h' hpost => ?_) (m_isSlot (M := M) (i := i))
  obtain ⟨rfl, rfl, x9, rfl, hb⟩ := hpost
  rcases hb with ⟨hb, -⟩ | ⟨-, rfl⟩
  case inl => exact absurd hb hx
  refine Ok_rt (mayF (by decide) up_same) ?_
  refine And.intro (fun c9 => absurd rfl c9) (fun _ => ?_)
  exact ⟨rfl, rfl, fin _ _ rfl⟩
theorem m_restore (ht : t < 2) (hv : h 60 t = 1) : Ok 268 [vR 50, vI (t : Int)] (LL M) h (fun o Λ' h' => o = .inl none ∧ Λ' = LL M ∧ (∀ c, c ≠ 50 → c ≠ 57 → h' c = h c) ∧ (∀ q, q ≠ 0 → q ≠ 15 → h' 50 q = h 50 q) ∧ h' 50 0 = 0 ∧ h' 50 15 = 0 ∧ ∀ i : Nat, i < 132 → h' 57 i = h 59 (132 * t + i)) := by
  refine ok_body B_X9_restore rfl (fun X hX => ?_)
  have loop : ∀ (f q : Nat) (h1 : HP), q + f = 132 → (∀ c, c ≠ 50 → c ≠ 57 → h1 c = h c) → (∀ q, q ≠ 0 → h1 50 q = h 50 q) → h1 50 0 = 0 → (∀ i : Nat, i < q → h1 57 i = h 59 (132 * t + i)) → X 34 [vR 50, vI (t : Int), vI (q : Int)] [] (LL M) h1 0 0 := by
    intro f
    induction f with
    | zero =>
      intro q h1 hq g1 g2 g3 g4
      refine hX 20 [] 34 _ _ _ _ _ _ ?_
      refine And.intro (fun _ => ?_) (fun c38 => absurd c38 (by omega))
      exact ⟨rfl, rfl, fun c c0 c1 => by rw [up_cell c0]; exact g1 c c0 c1, fun q q0 q1 => by rw [up_ne q1]; exact g2 q q0, by rw [up_ne (by decide)]; exact g3, up_same, fun i hi => by rw [up_cell (by decide)]; exact g4 i (by omega)⟩
    | succ f ih =>
      intro q h1 hq g1 g2 g3 g4
      refine hX 30 [34] 34 _ _ _ _ _ _ ?_
      refine And.intro (fun c38 => absurd c38 (by omega)) (fun c38 => ?_)
      refine And.intro ⟨by omega, by omega⟩ ?_
      refine And.intro ⟨by omega, by omega⟩ ?_
      refine And.intro ⟨by omega, by omega⟩ ?_
      refine And.intro ⟨by omega, by omega⟩ ?_
      refine And.intro ⟨by omega, by omega⟩ ?_
      rw [show (q : Int).toNat = q from Int.toNat_natCast q, show (132 * (t : Int) + (q : Int)).toNat = 132 * t + q by omega]
      refine ih (q + 1) _ (by omega) (fun c c0 c1 => by rw [up_cell c1]; exact g1 c c0 c1) (fun q q0 => by rw [up_cell (by decide)]; exact g2 q q0) (by rw [up_cell (by decide)]; exact g3) (fun i hi => ?_)
      by_cases z : i = q
      · subst z; rw [up_same, g1 59 (by decide) (by decide)]
      · rw [up_ne z]; exact g4 i (by omega)
  refine hX 60 [32] 0 _ _ _ _ _ _ ?_
  refine Ok_mono (fun o' Λ' h' hpost => ?_) (m_isSlot (M := M) (i := (t : Int)))
  obtain ⟨rfl, rfl, x9, rfl, hb⟩ := hpost
  rcases hb with ⟨-, rfl⟩ | ⟨hb, -⟩
  case inr => exact absurd ⟨by omega, by omega⟩ hb
  refine Ok_rt (mayT (by decide) up_same) ?_
  refine And.intro (fun c9 => absurd c9 (by decide)) (fun _ => ?_)
  refine And.intro ⟨by omega, by omega⟩ ?_
  have e60 : up h 50 0 0 60 (t : Int).toNat = 1 := by rw [up_cell (by decide), Int.toNat_natCast]; exact hv
  rw [e60]
  refine Ok_rt (mayT (by decide) up_same) ?_
  refine And.intro (fun _ => ?_) (fun c9 => absurd c9 (by decide))
  refine hX 60 [34] 32 _ _ _ _ _ _ ?_
  exact loop 132 0 _ (by omega) (fun c c0 _ => up_cell c0) (fun q q0 => up_ne q0) up_same (fun i hi => absurd hi (Nat.not_lt_zero _))
theorem m_restore_x (hx : ¬ (0 ≤ i ∧ i ≤ 1)) : Ok 268 [vR 50, vI i] (LL M) h (tvP M h 1) := by
  have fin : ∀ e h', h' = up (up h 50 0 0) 50 0 e → FrM h h' ∧ h' 50 0 = e := fun e h' q => by rw [q, up_up]; exact ⟨FrM_0, up_same⟩
  refine ok_body B_X9_restore rfl (fun X hX => ?_)
  refine hX 60 [32] 0 _ _ _ _ _ _ ?_
  refine Ok_mono (fun o' Λ' h' hpost => ?_) (m_isSlot (M := M) (i := i))
  obtain ⟨rfl, rfl, x9, rfl, hb⟩ := hpost
  rcases hb with ⟨hb, -⟩ | ⟨-, rfl⟩
  case inl => exact absurd hb hx
  refine Ok_rt (mayF (by decide) up_same) ?_
  refine And.intro (fun _ => ?_) (fun c9 => absurd rfl c9)
  exact ⟨rfl, rfl, fin _ _ rfl⟩
theorem m_restore_n (ht : t < 2) (hv : h 60 t = 0) : Ok 268 [vR 50, vI (t : Int)] (LL M) h (tvP M h 2) := by
  have fin : ∀ e h', h' = up (up h 50 0 0) 50 0 e → FrM h h' ∧ h' 50 0 = e := fun e h' q => by rw [q, up_up]; exact ⟨FrM_0, up_same⟩
  refine ok_body B_X9_restore rfl (fun X hX => ?_)
  refine hX 60 [32] 0 _ _ _ _ _ _ ?_
  refine Ok_mono (fun o' Λ' h' hpost => ?_) (m_isSlot (M := M) (i := (t : Int)))
  obtain ⟨rfl, rfl, x9, rfl, hb⟩ := hpost
  rcases hb with ⟨-, rfl⟩ | ⟨hb, -⟩
  case inr => exact absurd ⟨by omega, by omega⟩ hb
  refine Ok_rt (mayT (by decide) up_same) ?_
  refine And.intro (fun c9 => absurd c9 (by decide)) (fun _ => ?_)
  refine And.intro ⟨by omega, by omega⟩ ?_
  have e60 : up h 50 0 0 60 (t : Int).toNat = 0 := by rw [up_cell (by decide), Int.toNat_natCast]; exact hv
  rw [e60]
  refine Ok_rt (mayF (by decide) up_same) ?_
  refine And.intro (fun c9 => absurd rfl c9) (fun _ => ?_)
  exact ⟨rfl, rfl, fin _ _ rfl⟩
theorem m_differences_x (hx : ¬ (0 ≤ i ∧ i ≤ 1)) : Ok 270 [vR 50, vI i] (LL M) h (thP M h 0 1) := by
  have fin : ∀ e h', h' = up (up h 50 0 0) 50 0 e → FrM h h' ∧ h' 50 0 = e := fun e h' q => by rw [q, up_up]; exact ⟨FrM_0, up_same⟩
  refine ok_body B_X9_differences rfl (fun X hX => ?_)
  refine hX 60 [33] 0 _ _ _ _ _ _ ?_
  refine Ok_mono (fun o' Λ' h' hpost => ?_) (m_isSlot (M := M) (i := i))
  obtain ⟨rfl, rfl, x9, rfl, hb⟩ := hpost
  rcases hb with ⟨hb, -⟩ | ⟨-, rfl⟩
  case inl => exact absurd hb hx
  refine Ok_rt (mayF (by decide) up_same) ?_
  refine And.intro (fun _ => ?_) (fun c9 => absurd rfl c9)
  exact ⟨rfl, rfl, fin _ _ rfl⟩
theorem m_differences_n (ht : t < 2) (hv : h 60 t = 0) : Ok 270 [vR 50, vI (t : Int)] (LL M) h (thP M h 0 2) := by
  have fin : ∀ e h', h' = up (up h 50 0 0) 50 0 e → FrM h h' ∧ h' 50 0 = e := fun e h' q => by rw [q, up_up]; exact ⟨FrM_0, up_same⟩
  refine ok_body B_X9_differences rfl (fun X hX => ?_)
  refine hX 60 [33] 0 _ _ _ _ _ _ ?_
  refine Ok_mono (fun o' Λ' h' hpost => ?_) (m_isSlot (M := M) (i := (t : Int)))
  obtain ⟨rfl, rfl, x9, rfl, hb⟩ := hpost
  rcases hb with ⟨-, rfl⟩ | ⟨hb, -⟩
  case inr => exact absurd ⟨by omega, by omega⟩ hb
  refine Ok_rt (mayT (by decide) up_same) ?_
  refine And.intro (fun c9 => absurd c9 (by decide)) (fun _ => ?_)
  refine And.intro ⟨by omega, by omega⟩ ?_
  have e60 : up h 50 0 0 60 (t : Int).toNat = 0 := by rw [up_cell (by decide), Int.toNat_natCast]; exact hv
  rw [e60]
  refine Ok_rt (mayF (by decide) up_same) ?_
  refine And.intro (fun c9 => absurd rfl c9) (fun _ => ?_)
  exact ⟨rfl, rfl, fin _ _ rfl⟩
end UND

/-! two knittings of a piece, row by row -/
theorem KnIs_row {h' : HP} {D : KD} {n : Nat} (hK : KOK D n) (hI : KnIs h' D n) {r : Nat} (hr : (r : Int) < tp D (md D n)) : h' 70 r = stR D (md D n) (r : Int) := by
  have msp := md_spec D n
  obtain ⟨k, k1, k2, k3⟩ := row_part (md D n) (r : Int) (by omega) hr
  have et : tp D (k + 1) = tp D k + kR D k := rfl
  have g := hI.2.2.2.2 k k1 ((r : Int) - tp D k) (by omega) (by omega)
  rw [show (tp D k + ((r : Int) - tp D k)).toNat = r by omega] at g
  rw [g, stR_at hK k2 k3 (md D n) k1 msp.1]
section DIF
variable {M : List CT} {h : HP} {s p : Int} {n ns t : Nat} {st : Nat → Int}
def FrO (h h' : HP) : Prop := (∀ c, c ≠ 50 → c ≠ 69 → c ≠ 70 → c ≠ 71 → c ≠ 76 → h' c = h c) ∧ ∀ q, q ≠ 39 → q ≠ 40 → q ≠ 41 → h' 50 q = h 50 q
theorem FrO_K {h h1 h2 : HP} (f : FrO h h1) (g : FrKn h1 h2) : FrO h h2 := ⟨fun c c0 c1 c2 c3 c4 => by rw [g.1 c c0 c2 c3]; exact f.1 c c0 c1 c2 c3 c4, fun q q0 q1 q2 => by rw [g.2 q q0 q1 q2]; exact f.2 q q0 q1 q2⟩
/-- the knitting of a piece by the state in 'by' -/
theorem knO (hC : CI h) (hM : Cpl h) (hs : isSz h s) (hp : isPc h p) (hS : StOK st) {h1 : HP} (f : FrO h h1) (hB : StC (h1 69) st) :
    Ok 232 [vR 50, vI s, vI p] (LL M) h1 (fun o Λ' h' => o = .inl none ∧ Λ' = LL M ∧ FrKn h1 h' ∧ KnIs h' (cDr (h 22) (h 23) (h 24) (h 26) st s p) (gN h p)) := by
  have l : ∀ x, x < 50 → h1 x = h x := fun x hx => f.1 x (by omega) (by omega) (by omega) (by omega) (by omega)
  have C1 : CI h1 := CI_fr hC (fun c a b => l c (by omega))
  have M1 : Cpl h1 := Cpl_fr hM (fun c a b => l c (by omega)) (fun c a b => f.1 c (by omega) (by omega) (by omega) (by omega) (by omega)) (fun j a b => f.2 j (by omega) (by omega) (by omega))
  have gn : rd (h1 25) 6 p = ((gN h p : Nat) : Int) := by rw [l 25 (by decide)]; unfold gN; have := (hC.1.2.2.2.2.2 p hp.1 hp.2).1; omega
  exact m_knits (M := M) (h := h1) M1 C1 (by unfold isSz; rw [l 21 (by decide)]; exact hs) (by unfold isPc; rw [l 21 (by decide)]; exact hp) hB hS (by rw [l 22 (by decide), l 23 (by decide), l 24 (by decide), l 26 (by decide)]) gn
theorem m_isOther (hC : CI h) (hM : Cpl h) (hs : isSz h s) (hp : isPc h p) (ht : t < 2) (hS : StOK st) (hB : StC (fun i => h 59 (132 * t + i)) st) :
    Ok 269 [vR 50, vI (t : Int), vI s, vI p] (LL M) h (fun o Λ' h' => Λ' = LL M ∧ FrO h h' ∧ ∃ x, o = .inl (some (vI x)) ∧ bI x (¬ likeK (gD h s p) (cDr (h 22) (h 23) (h 24) (h 26) st s p) (gN h p))) := by
  have kk := KOK_h hC hs hp
  have hs6 : 0 ≤ s ∧ s < 6 := ⟨hs.1, by have := hC.1.1; have := hs.2; omega⟩
  have kE : KOK (cDr (h 22) (h 23) (h 24) (h 26) st s p) (gN h p) := cD_ok hC.1 hS hs6 hp
  obtain ⟨E, hE⟩ : ∃ E, E = cDr (h 22) (h 23) (h 24) (h 26) st s p := ⟨_, rfl⟩
  obtain ⟨D, hD⟩ : ∃ D, D = gD h s p := ⟨_, rfl⟩
  obtain ⟨n, hn⟩ : ∃ n, n = gN h p := ⟨_, rfl⟩
  have tE := tp_bd2 kE (md E (gN h p)) (by rw [hE]; exact (md_spec _ _).1)
  have tD := rwN_bd hC hs hp
  have kO1 := fun h1 (f : FrO h h1) (b : StC (h1 69) st) => knO (M := M) hC hM hs hp hS f b
  have kO2 := fun h1 (f : FrO h h1) (b : StC (h1 69) (h 28)) => knO (M := M) hC hM hs hp hC.2 f b
  rw [← hE, ← hn] at kE
  rw [← hE, ← hn] at tE
  rw [← hE, ← hn] at kO1
  have kO2 : ∀ (h1 : HP), FrO h h1 → StC (h1 69) (h 28) → Ok 232 [vR 50, vI s, vI p] (LL M) h1 (fun o Λ' h' => o = .inl none ∧ Λ' = LL M ∧ FrKn h1 h' ∧ KnIs h' D n) := by
    intro h1 f b
    have z := kO2 h1 f b
    rw [hD, hn]; exact z
  have tD2 : 1 ≤ tp D (md D n) ∧ tp D (md D n) ≤ 26821 := by rw [hD, hn]; exact tD
  have kD : KOK D n := by rw [hD, hn]; exact kk.1
  have n10 : n ≤ 10 := by rw [hn]; exact kk.2.2
  have tE2 : 0 ≤ tp E (md E n) ∧ tp E (md E n) ≤ 26821 := by
    have := (md_spec E n).1
    refine ⟨tE.1, ?_⟩
    by_cases z : md E n = 0
    · rw [z]; show (0 : Int) ≤ _; decide
    · have := (tE.2 z).2; omega
  rw [← hD, ← hE, ← hn]
  clear kk tD tE
  refine ok_body B_X9_isOther rfl (fun X hX => ?_)
  -- the rows of the saved state are kept in 'other'
  have cmp : ∀ (f r : Nat) (h3 : HP), r + f = (tp D (md D n)).toNat → FrO h h3 → KnIs h3 D n → fl D n = fl E n → tp D (md D n) = tp E (md E n) → (∀ i : Nat, (i : Int) < tp E (md E n) → h3 76 i = stR E (md E n) (i : Int)) → (∀ i : Nat, i < r → stR D (md D n) (i : Int) = stR E (md E n) (i : Int)) →
      X 120 [vR 50, vI (t : Int), vI s, vI p, vI (tp E (md E n)), vI (fl E n), vI (r : Int)] [] (LL M) h3 0 0 := by
    intro f
    induction f with
    | zero =>
      intro r h3 hr f3 hI e1 e2 h76 heq
      have i39 := hI.2.1
      refine hX 20 [] 120 _ _ _ _ _ _ ?_
      refine And.intro (fun _ => ?_) (fun c126 => absurd c126 (by omega))
      refine And.intro ⟨by decide, by decide⟩ ⟨rfl, f3, 0, rfl, Or.inr ⟨fun z => z ⟨e1, e2, fun r' r0 r1 => ?_⟩, rfl⟩⟩
      have := heq r'.toNat (by omega)
      rw [show ((r'.toNat : Nat) : Int) = r' by omega] at this
      exact this
    | succ f ih =>
      intro r h3 hr f3 hI e1 e2 h76 heq
      have i39 := hI.2.1
      have a1 := KnIs_row kD hI (r := r) (by omega)
      have a2 := h76 r (by omega)
      refine hX 40 [120] 120 _ _ _ _ _ _ ?_
      refine And.intro (fun c126 => absurd c126 (by omega)) (fun c126 => ?_)
      refine And.intro ⟨by omega, by omega⟩ ?_
      refine And.intro ⟨by omega, by omega⟩ ?_
      rw [show (r : Int).toNat = r from Int.toNat_natCast r, a1, a2]
      refine And.intro (fun c143 => ?_) (fun c143 => ?_)
      · refine And.intro ⟨by omega, by omega⟩ ?_
        refine ih (r + 1) h3 (by omega) f3 hI e1 e2 h76 (fun i hi => ?_)
        by_cases z : i = r
        · rw [z]; exact c143
        · exact heq i (by omega)
      · exact And.intro ⟨by decide, by decide⟩ ⟨rfl, f3, 1, rfl, Or.inl ⟨fun z => c143 (z.2.2 (r : Int) (by omega) (by omega)), rfl⟩⟩
  have rest : ∀ (h2 : HP) (j6 : PV), FrO h h2 → (∀ i : Nat, (i : Int) < tp E (md E n) → h2 76 i = stR E (md E n) (i : Int)) → X 87 [vR 50, vI (t : Int), vI s, vI p, vI (tp E (md E n)), vI (fl E n), j6] [] (LL M) h2 0 0 := by
    intro h2 j6 f2 h76
    have eo : ∀ c, c ≠ 69 → byF 57 69 132 0 h2 c = h2 c := fun c c0 => byF_cell c0 _ _ _
    have f2b : FrO h (byF 57 69 132 0 h2) := ⟨fun c c0 c1 c2 c3 c4 => by rw [eo c c1]; exact f2.1 c c0 c1 c2 c3 c4, fun q q0 q1 q2 => by rw [eo 50 (by decide)]; exact f2.2 q q0 q1 q2⟩
    have b2 : StC (byF 57 69 132 0 h2 69) (h 28) := StC_by (fun q => by rw [byNow_rd, f2.1 57 (by decide) (by decide) (by decide) (by decide) (by decide)]) hM.2.2.2
    refine hX 40 [115, 120] 87 _ _ _ _ _ _ ?_
    refine Ok_rt m_byNow ?_
    refine Ok_mono (fun o' Λ' h3 hpost => ?_) (kO2 _ f2b b2)
    obtain ⟨rfl, rfl, g3, hI⟩ := hpost
    have f3 : FrO h h3 := FrO_K f2b g3
    have kb := KnIs_bd hI n10
    have i39 : h3 50 39 = tp D (md D n) := hI.2.1
    have differ : ¬ likeK D E n → X 115 [vR 50, vI (t : Int), vI s, vI p, vI (tp E (md E n)), vI (fl E n), j6] [] (LL M) h3 0 0 := by
      intro z
      refine hX 20 [] 115 _ _ _ _ _ _ ?_
      exact And.intro ⟨by decide, by decide⟩ ⟨rfl, f3, 1, rfl, Or.inl ⟨z, rfl⟩⟩
    refine And.intro (fun c103 => ?_) (fun c103 => ?_)
    · have c103 : h3 50 39 ≠ tp E (md E n) := c103
      exact differ (fun z => c103 (i39.trans z.2.1))
    · have c103 : h3 50 39 = tp E (md E n) := c103
      refine Ok_rt (m_failed kb.1 kb.2) ?_
      rw [fl_of hI.1 hI.2.2.1]
      refine And.intro (fun c112 => ?_) (fun c112 => ?_)
      · have c112 : fl D n = fl E n := c112
        show X 120 [_, _, _, _, _, _, vI ((0 : Nat) : Int)] _ _ _ _ _
        refine cmp (tp D (md D n)).toNat 0 h3 (by omega) f3 hI c112 (i39.symm.trans c103) (fun i hi => ?_) (fun i hi => absurd hi (Nat.not_lt_zero _))
        rw [g3.1 76 (by decide) (by decide) (by decide), eo 76 (by decide)]
        exact h76 i hi
      · have c112 : fl D n ≠ fl E n := c112
        exact differ (fun z => c112 z.1)
  have keep : ∀ (f r : Nat) (h2 : HP), r + f = (tp E (md E n)).toNat → FrO h h2 → KnIs h2 E n → (∀ i : Nat, i < r → h2 76 i = stR E (md E n) (i : Int)) → X 58 [vR 50, vI (t : Int), vI s, vI p, vI (tp E (md E n)), vI (fl E n), vI (r : Int)] [] (LL M) h2 0 0 := by
    intro f
    induction f with
    | zero =>
      intro r h2 hr f2 hI h76
      have i39 := hI.2.1
      refine hX 20 [87] 58 _ _ _ _ _ _ ?_
      refine And.intro (fun _ => ?_) (fun c64 => absurd c64 (by omega))
      exact rest h2 _ f2 (fun i hi => h76 i (by omega))
    | succ f ih =>
      intro r h2 hr f2 hI h76
      have i39 := hI.2.1
      have a1 := KnIs_row kE hI (r := r) (by omega)
      refine hX 40 [58] 58 _ _ _ _ _ _ ?_
      refine And.intro (fun c64 => absurd c64 (by omega)) (fun c64 => ?_)
      refine And.intro ⟨by omega, by omega⟩ ?_
      refine And.intro ⟨by omega, by omega⟩ ?_
      refine And.intro ⟨by omega, by omega⟩ ?_
      rw [show (r : Int).toNat = r from Int.toNat_natCast r, a1]
      refine ih (r + 1) _ (by omega) ⟨fun c c0 c1 c2 c3 c4 => by rw [up_cell c4]; exact f2.1 c c0 c1 c2 c3 c4, fun q q0 q1 q2 => by rw [up_cell (by decide)]; exact f2.2 q q0 q1 q2⟩ ?_ (fun i hi => ?_)
      · unfold KnIs at *
        rw [up_cell (show (50 : Nat) ≠ 76 by decide), up_cell (show (70 : Nat) ≠ 76 by decide), up_cell (show (71 : Nat) ≠ 76 by decide)]
        exact hI
      · by_cases z : i = r
        · subst z; rw [up_same]
        · rw [up_ne z]; exact h76 i (by omega)
  have lay : ∀ (f q : Nat) (h1 : HP) (j5 j6 : PV), q + f = 132 → (∀ c, c ≠ 69 → h1 c = h c) → (∀ i : Nat, i < q → h1 69 i = h 59 (132 * t + i)) → X 3 [vR 50, vI (t : Int), vI s, vI p, vI (q : Int), j5, j6] [] (LL M) h1 0 0 := by
    intro f
    induction f with
    | zero =>
      intro q h1 j5 j6 hq g1 g2
      have f1 : FrO h h1 := ⟨fun c c0 c1 _ _ _ => g1 c c1, fun q _ _ _ => by rw [g1 50 (by decide)]⟩
      have b1 : StC (h1 69) st := StC_by (fun q' => by
        unfold rd
        split
        · next z => exact g2 _ (by omega)
        · rfl) hB
      refine hX 40 [37] 3 _ _ _ _ _ _ ?_
      refine And.intro (fun _ => ?_) (fun c8 => absurd c8 (by omega))
      refine hX 40 [49, 55, 58] 37 _ _ _ _ _ _ ?_
      refine Ok_mono (fun o' Λ' h2 hpost => ?_) (kO1 h1 f1 b1)
      obtain ⟨rfl, rfl, g3, hI⟩ := hpost
      have kb := KnIs_bd hI n10
      have i39 : h2 50 39 = tp E (md E n) := hI.2.1
      show X 49 [_, _, _, _, vI (h2 50 39), _, _] _ _ _ _ _
      rw [i39]
      refine hX 40 [55, 58] 49 _ _ _ _ _ _ ?_
      refine Ok_rt (m_failed kb.1 kb.2) ?_
      rw [fl_of hI.1 hI.2.2.1]
      show X 55 [_, _, _, _, _, _, _] _ _ _ _ _
      refine hX 40 [58] 55 _ _ _ _ _ _ ?_
      exact keep (tp E (md E n)).toNat 0 h2 (by omega) (FrO_K f1 g3) hI (fun i hi => absurd hi (Nat.not_lt_zero _))
    | succ f ih =>
      intro q h1 j5 j6 hq g1 g2
      refine hX 40 [3] 3 _ _ _ _ _ _ ?_
      refine And.intro (fun c8 => absurd c8 (by omega)) (fun c8 => ?_)
      refine And.intro ⟨by omega, by omega⟩ ?_
      refine And.intro ⟨by omega, by omega⟩ ?_
      refine And.intro ⟨by omega, by omega⟩ ?_
      refine And.intro ⟨by omega, by omega⟩ ?_
      refine And.intro ⟨by omega, by omega⟩ ?_
      rw [show (q : Int).toNat = q from Int.toNat_natCast q, show (132 * (t : Int) + (q : Int)).toNat = 132 * t + q by omega]
      refine ih (q + 1) _ _ _ (by omega) (fun c c0 => by rw [up_cell c0]; exact g1 c c0) (fun i hi => ?_)
      by_cases z : i = q
      · subst z; rw [up_same, g1 59 (by decide)]
      · rw [up_ne z]; exact g2 i (by omega)
  refine hX 10 [3] 0 _ _ _ _ _ _ ?_
  exact lay 132 0 h _ _ (by omega) (fun _ _ => rfl) (fun i hi => absurd hi (Nat.not_lt_zero _))
/-- what differs from a saved state -/
def dfM (h : HP) (st : Nat → Int) (a b : Nat) : Prop := ¬ likeK (gD h a b) (cDr (h 22) (h 23) (h 24) (h 26) st a b) (gN h b)
theorem m_differences (hC : CI h) (hM : Cpl h) (ht : t < 2) (hv : h 60 t = 1) (hS : StOK st) (hB : StC (fun i => h 59 (132 * t + i)) st) (hn : rd (h 21) 4 3 = (n : Int)) (hns : rd (h 21) 4 0 = (ns : Int)) :
    Ok 270 [vR 50, vI (t : Int)] (LL M) h (fun o Λ' h' => Λ' = LL M ∧ FrM h h' ∧ h' 50 0 = 0 ∧ ∃ r, o = .inl (some (vI r)) ∧ cnO (dfM h st) n ns 0 0 r) := by
  have n6 : n ≤ 6 := by have := hC.1.2.2.2.1; omega
  have ns6 := hC.1.1
  refine ok_body B_X9_differences rfl (fun X hX => ?_)
  have fr : ∀ h1, FrM h h1 → (∀ s p, gD h1 s p = gD h s p) ∧ (∀ p, gN h1 p = gN h p) ∧ h1 21 = h 21 ∧ h1 22 = h 22 ∧ h1 23 = h 23 ∧ h1 24 = h 24 ∧ h1 26 = h 26 ∧ h1 59 = h 59 ∧ h1 50 1 = (ns : Int) ∧ h1 50 4 = (n : Int) := fun h1 f =>
    ⟨fun s p => gD_of (f.1 22 (by decide) (by decide)) (f.1 23 (by decide) (by decide)) (f.1 24 (by decide) (by decide)) (f.1 26 (by decide) (by decide)) (f.1 28 (by decide) (by decide)) s p, fun p => gN_of (f.1 25 (by decide) (by decide)) p, f.1 21 (by decide) (by decide), f.1 22 (by decide) (by decide), f.1 23 (by decide) (by decide), f.1 24 (by decide) (by decide), f.1 26 (by decide) (by decide), f.1 59 (by decide) (by decide),
      by rw [f.2 1 (by decide) (by decide) (by decide) (by decide) (by decide), hM.1.1]; exact hns, by rw [f.2 4 (by decide) (by decide) (by decide) (by decide) (by decide), hM.1.2.2.2]; exact hn⟩
  have outer : ∀ (f a : Nat) (v : Int) (h1 : HP) (j4 : PV), a + f = ns → 0 ≤ v → v ≤ 6 * (a : Int) → FrM h h1 → h1 50 0 = 0 → (∀ r, cnO (dfM h st) n f a v r → cnO (dfM h st) n ns 0 0 r) → X 37 [vR 50, vI (t : Int), vI v, vI (a : Int), j4] [] (LL M) h1 0 0 := by
    intro f
    induction f with
    | zero =>
      intro a v h1 j4 ha v0 v1 f1 e0 hgo
      obtain ⟨t1, t2, t3, t4, t5, t6, t7, t8, t9, t10⟩ := fr h1 f1
      refine hX 20 [] 37 _ _ _ _ _ _ ?_
      refine And.intro (fun _ => ?_) (fun c42 => absurd c42 (by omega))
      exact ⟨rfl, f1, e0, v, rfl, hgo v rfl⟩
    | succ f ih =>
      intro a v h1 j4 ha v0 v1 f1 e0 hgo
      have inner : ∀ (e b : Nat) (u : Int) (h2 : HP), b + e = n → v ≤ u → u ≤ v + (b : Int) → FrM h h2 → h2 50 0 = 0 → (∀ r, cnF (dfM h st a) e b u r → cnF (dfM h st a) n 0 v r) → X 48 [vR 50, vI (t : Int), vI u, vI (a : Int), vI (b : Int)] [] (LL M) h2 0 0 := by
        intro e
        induction e with
        | zero =>
          intro b u h2 hb u0 u1 f2 e02 hu
          obtain ⟨t1, t2, t3, t4, t5, t6, t7, t8, t9, t10⟩ := fr h2 f2
          refine hX 20 [37] 48 _ _ _ _ _ _ ?_
          refine And.intro (fun _ => ?_) (fun c54 => absurd c54 (by omega))
          refine And.intro ⟨by omega, by omega⟩ ?_
          refine ih (a + 1) u h2 _ (by omega) (by omega) (by omega) f2 e02 (fun r hr => hgo r ⟨u, hu u rfl, hr⟩)
        | succ e ihe =>
          intro b u h2 hb u0 u1 f2 e02 hu
          obtain ⟨t1, t2, t3, t4, t5, t6, t7, t8, t9, t10⟩ := fr h2 f2
          have iso := m_isOther (M := M) (h := h2) (s := (a : Int)) (p := (b : Int)) (t := t) (st := st) (CI_M hC f2) (Cpl_M hM f2) (by unfold isSz; rw [t3]; exact ⟨by omega, by omega⟩) (by unfold isPc; rw [t3]; exact ⟨by omega, by omega⟩) ht hS (by rw [t8]; exact hB)
          rw [t1, t2, t4, t5, t6, t7] at iso
          refine hX 40 [74] 48 _ _ _ _ _ _ ?_
          refine And.intro (fun c54 => absurd c54 (by omega)) (fun c54 => ?_)
          refine Ok_mono (fun o' Λ' h3 hpost => ?_) iso
          obtain ⟨rfl, f3, x9, rfl, hb9⟩ := hpost
          have f4 : FrM h h3 := FrM_tr f2 ⟨fun c c0 c1 => f3.1 c c0 (by omega) (by omega) (by omega) (by omega), fun q q0 q1 q2 q3 _ => f3.2 q q1 q2 q3⟩
          have e03 : h3 50 0 = 0 := by rw [f3.2 0 (by decide) (by decide) (by decide)]; exact e02
          have nxt : ∀ w, 0 ≤ w → w ≤ 1 → (∀ r, cnF (dfM h st a) e (b + 1) (u + w) r → cnF (dfM h st a) (e + 1) b u r) → X 74 [vR 50, vI (t : Int), vI u, vI (a : Int), vI (b : Int)] [vI w, vI u] (LL M) h3 0 0 := by
            intro w w0 w1 hw
            refine hX 40 [48, 76] 74 _ _ _ _ _ _ ?_
            refine And.intro ⟨by omega, by omega⟩ ?_
            show X 76 [_, _, _, _, _] _ _ _ _ _
            refine hX 40 [48] 76 _ _ _ _ _ _ ?_
            refine And.intro ⟨by omega, by omega⟩ ?_
            exact ihe (b + 1) (u + w) h3 (by omega) (by omega) (by omega) f4 e03 (fun r hr => hu r (hw r hr))
          rcases hb9 with ⟨y, rfl⟩ | ⟨y, rfl⟩
          · refine And.intro (fun c9 => absurd c9 (by decide)) (fun _ => ?_)
            exact nxt 1 (by decide) (by decide) (fun r hr => Or.inl ⟨y, hr⟩)
          · refine And.intro (fun _ => ?_) (fun c9 => absurd rfl c9)
            exact nxt 0 (by decide) (by decide) (fun r hr => Or.inr ⟨y, by rw [Int.add_zero] at hr; exact hr⟩)
      obtain ⟨t1, t2, t3, t4, t5, t6, t7, t8, t9, t10⟩ := fr h1 f1
      refine hX 20 [48] 37 _ _ _ _ _ _ ?_
      refine And.intro (fun c42 => absurd c42 (by omega)) (fun c42 => ?_)
      show X 48 [_, _, _, _, vI ((0 : Nat) : Int)] _ _ _ _ _
      exact inner n 0 v h1 (by omega) (by omega) (by omega) f1 e0 (fun r hr => hr)
  refine hX 60 [33] 0 _ _ _ _ _ _ ?_
  refine Ok_mono (fun o' Λ' h' hpost => ?_) (m_isSlot (M := M) (i := (t : Int)))
  obtain ⟨rfl, rfl, x9, rfl, hb⟩ := hpost
  rcases hb with ⟨-, rfl⟩ | ⟨hb, -⟩
  case inr => exact absurd ⟨by omega, by omega⟩ hb
  refine Ok_rt (mayT (by decide) up_same) ?_
  refine And.intro (fun c9 => absurd c9 (by decide)) (fun _ => ?_)
  refine And.intro ⟨by omega, by omega⟩ ?_
  have e60 : up h 50 0 0 60 (t : Int).toNat = 1 := by rw [up_cell (by decide), Int.toNat_natCast]; exact hv
  rw [e60]
  refine Ok_rt (mayT (by decide) up_same) ?_
  refine And.intro (fun _ => ?_) (fun c9 => absurd c9 (by decide))
  refine hX 60 [35, 37] 33 _ _ _ _ _ _ ?_
  show X 35 [_, _, _, _, _] _ _ _ _ _
  refine hX 60 [37] 35 _ _ _ _ _ _ ?_
  show X 37 [_, _, _, vI ((0 : Nat) : Int), _] _ _ _ _ _
  exact outer ns 0 0 _ _ (by omega) (by omega) (by omega) FrM_0 up_same (fun r hr => hr)
end DIF
