/-! ===== the model's cells; what it shares with the class; its small methods =====
 50 KnitGraderModel (fields: 0 thrown, 1 sizes, 2 measures, 3 charts, 4 pieces, 15 pastMany, 17 typed, 18 ended, 19 next, 20 begin, 21 sort, 22 number, 23 errorCode, 24 errorAt, 25 .. 28 newSizes .. newPieces, 39 rows, 40 made, 41 why, 46 wants),
 51 chartRows, 52 takes, 53 makes, 54 parts, 55 part, 56 name, 57 now, 58 past, 59 slot, 60 isSaved, 61 text, 62 .. 68 newChartRows, newTakes, newMakes, newParts, newPart, told, newName, 69 by, 70 stitch, 71 start, 72 needs, 73 left, 74 deal, 75 want, 76 other -/
def LM (M : List CT) : List CT := .inl (8, [0, 0, 0, 0, 0, 51, 52, 53, 54, 55, 56, 57, 58, 59, 60, 0, 61, 0, 0, 0, 0, 0, 0, 0, 0, 0, 0, 0, 0, 62, 63, 64, 65, 66, 67, 68, 69, 70, 71, 0, 0, 0, 72, 73, 74, 75, 0, 76]) :: .inr (0, 4) :: .inr (0, 32) :: .inr (0, 32) :: .inr (0, 6) :: .inr (0, 480) :: .inr (0, 192) :: .inr (0, 132) :: .inr (0, 1056) :: .inr (0, 264) :: .inr (3, 2) :: .inr (0, 1500) :: .inr (0, 4) :: .inr (0, 32) :: .inr (0, 32) :: .inr (0, 6) :: .inr (0, 480) :: .inr (0, 132) :: .inr (0, 192) :: .inr (0, 132) :: .inr (0, 27000) :: .inr (0, 11) :: .inr (1, 24) :: .inr (1, 10) :: .inr (0, 6) :: .inr (0, 6) :: .inr (0, 27000) :: M
def LL (M : List CT) : List CT := LC (LM M)
/-- a state of the model, told as one of the class -/
def StC (ms cs : Nat → Int) : Prop :=
  (rd ms 132 0 = rd cs 132 0 ∧ rd ms 132 1 = rd cs 132 1 ∧ rd ms 132 2 = rd cs 132 2 ∧ rd ms 132 3 = rd cs 132 3) ∧ (∀ m s, 0 ≤ m → m < 8 → 0 ≤ s → s < 6 → rd ms 132 (4 + 6 * m + s) = rd cs 132 (24 + m * 6 + s)) ∧
  (∀ p k, 0 ≤ p → p < 6 → 0 ≤ k → k < 10 → rd ms 132 (52 + 10 * p + k) = rd cs 132 (72 + p * 10 + k)) ∧ (∀ l, 0 ≤ l → l < rd cs 132 3 → rd ms 132 (112 + 2 * l) = rd cs 132 (4 + l) ∧ rd ms 132 (112 + 2 * l + 1) = rd cs 132 (14 + l))
/-- a part of the model, as one of the class -/
def PtC (mf fc : Nat → Int) (p k : Int) : Prop :=
  (rd mf 480 (8 * (10 * p + k) + 0) = cF fc p k 0 ∧ rd mf 480 (8 * (10 * p + k) + 1) = cF fc p k 1 ∧ rd mf 480 (8 * (10 * p + k) + 2) = cF fc p k 2 ∧ rd mf 480 (8 * (10 * p + k) + 3) = cF fc p k 4) ∧
  rd mf 480 (8 * (10 * p + k) + 4) = cF fc p k 5 ∧ rd mf 480 (8 * (10 * p + k) + 5) = cF fc p k 6 ∧ rd mf 480 (8 * (10 * p + k) + 6) = cF fc p k 7 ∧ rd mf 480 (8 * (10 * p + k) + 7) = cF fc p k 8
/-- the model's tables, as the class's -/
def Cpl (h : HP) : Prop :=
  (h 50 1 = rd (h 21) 4 0 ∧ h 50 2 = rd (h 21) 4 1 ∧ h 50 3 = rd (h 21) 4 2 ∧ h 50 4 = rd (h 21) 4 3) ∧
  (∀ c, 0 ≤ c → c < rd (h 21) 4 2 → rd (h 51) 4 c = rd (h 22) 4 c ∧ ∀ r, 0 ≤ r → r < rd (h 22) 4 c → rd (h 52) 32 (8 * c + r) = rd (h 23) 32 (c * 8 + r) ∧ rd (h 53) 32 (8 * c + r) = rd (h 24) 32 (c * 8 + r)) ∧
  (∀ p, 0 ≤ p → p < rd (h 21) 4 3 → rd (h 54) 6 p = rd (h 25) 6 p ∧ ∀ k, 0 ≤ k → k < rd (h 25) 6 p → PtC (h 55) (h 26) p k) ∧ StC (h 57) (h 28)
theorem rd_in {f : Nat → Int} {len : Nat} {i : Int} (h0 : 0 ≤ i) (h1 : i < (len : Int)) : rd f len i = f i.toNat := if_pos ⟨h0, h1⟩
section MODEL
variable {Λ M : List CT} {h : HP} {i j k m s p c x : Int}
theorem isIn_t (hz : j ≤ i ∧ i ≤ k) : Ok 175 [vL i, vL j, vL k] Λ h (rt (some (vI 1)) Λ h) := by
  refine ok_body B_X9_isIn rfl (fun X hX => ?_)
  refine hX 20 [] 0 _ _ _ _ _ _ ?_
  refine And.intro (fun c3 => absurd c3 (by omega)) (fun c3 => ?_)
  refine And.intro (fun c10 => absurd c10 (by omega)) (fun c10 => ?_)
  exact And.intro ⟨by decide, by decide⟩ (rt_mk rfl rfl)
theorem isIn_f (hz : ¬ (j ≤ i ∧ i ≤ k)) : Ok 175 [vL i, vL j, vL k] Λ h (rt (some (vI 0)) Λ h) := by
  refine ok_body B_X9_isIn rfl (fun X hX => ?_)
  refine hX 20 [] 0 _ _ _ _ _ _ ?_
  refine And.intro (fun c3 => ?_) (fun c3 => ?_)
  · exact And.intro ⟨by decide, by decide⟩ (rt_mk rfl rfl)
  · refine And.intro (fun c10 => ?_) (fun c10 => absurd ⟨c3, c10⟩ hz)
    exact And.intro ⟨by decide, by decide⟩ (rt_mk rfl rfl)
theorem mayT (hx : x ≠ 0) (ht : h 50 0 = 0) : Ok 176 [vR 50, vI x, vI i] (LL M) h (rt (some (vI 1)) (LL M) h) := by
  refine ok_body B_X9_may rfl (fun X hX => ?_)
  refine hX 30 [] 0 _ _ _ _ _ _ ?_
  refine And.intro (fun c1 => ?_) (fun c1 => absurd c1 hx)
  refine And.intro (fun c20 => absurd ht c20) (fun c20 => ?_)
  exact And.intro ⟨by decide, by decide⟩ (rt_mk rfl rfl)
theorem mayF (hi : i ≠ 0) (ht : h 50 0 = 0) : Ok 176 [vR 50, vI 0, vI i] (LL M) h (rt (some (vI 0)) (LL M) (up h 50 0 i)) := by
  refine ok_body B_X9_may rfl (fun X hX => ?_)
  refine hX 30 [] 0 _ _ _ _ _ _ ?_
  refine And.intro (fun c1 => absurd rfl c1) (fun c1 => ?_)
  refine And.intro (fun c8 => absurd ht c8) (fun c8 => ?_)
  refine And.intro (fun c20 => ?_) (fun c20 => ?_)
  · exact And.intro ⟨by decide, by decide⟩ (rt_mk rfl rfl)
  · have c20 : up h 50 0 i 50 0 = 0 := c20
    rw [up_same] at c20
    exact absurd c20 hi
def bI (x : Int) (P : Prop) : Prop := (P ∧ x = 1) ∨ (¬ P ∧ x = 0)
theorem m_isSize (hC : CI h) (hM : Cpl h) : Ok 213 [vR 50, vI i] (LL M) h (fun o Λ' h' => Λ' = LL M ∧ h' = h ∧ ∃ x, o = .inl (some (vI x)) ∧ bI x (isSz h i)) := by
  obtain ⟨⟨m1, m2, m3, m4⟩, -⟩ := hM
  obtain ⟨b0, b1, b2, b3, -, -⟩ := hC.1
  refine ok_body B_X9_isSize rfl (fun X hX => ?_)
  refine hX 20 [] 0 _ _ _ _ _ _ ?_
  refine And.intro (show inR (h 50 1 - 1) from ⟨by omega, by omega⟩) ?_
  by_cases z : isSz h i
  · refine Ok_rt (isIn_t (j := 0) (k := h 50 1 - 1) ⟨z.1, by have := z.2; omega⟩) ?_
    exact And.intro (by decide) ⟨rfl, rfl, _, rfl, Or.inl ⟨z, rfl⟩⟩
  · refine Ok_rt (isIn_f (j := 0) (k := h 50 1 - 1) (fun y => z ⟨y.1, by have := y.2; omega⟩)) ?_
    exact And.intro (by decide) ⟨rfl, rfl, _, rfl, Or.inr ⟨z, rfl⟩⟩
theorem m_isMeasure (hC : CI h) (hM : Cpl h) : Ok 214 [vR 50, vI i] (LL M) h (fun o Λ' h' => Λ' = LL M ∧ h' = h ∧ ∃ x, o = .inl (some (vI x)) ∧ bI x (isMs h i)) := by
  obtain ⟨⟨m1, m2, m3, m4⟩, -⟩ := hM
  obtain ⟨b0, b1, b2, b3, -, -⟩ := hC.1
  refine ok_body B_X9_isMeasure rfl (fun X hX => ?_)
  refine hX 20 [] 0 _ _ _ _ _ _ ?_
  refine And.intro (show inR (h 50 2 - 1) from ⟨by omega, by omega⟩) ?_
  by_cases z : isMs h i
  · refine Ok_rt (isIn_t (j := 0) (k := h 50 2 - 1) ⟨z.1, by have := z.2; omega⟩) ?_
    exact And.intro (by decide) ⟨rfl, rfl, _, rfl, Or.inl ⟨z, rfl⟩⟩
  · refine Ok_rt (isIn_f (j := 0) (k := h 50 2 - 1) (fun y => z ⟨y.1, by have := y.2; omega⟩)) ?_
    exact And.intro (by decide) ⟨rfl, rfl, _, rfl, Or.inr ⟨z, rfl⟩⟩
theorem m_isPiece (hC : CI h) (hM : Cpl h) : Ok 215 [vR 50, vI i] (LL M) h (fun o Λ' h' => Λ' = LL M ∧ h' = h ∧ ∃ x, o = .inl (some (vI x)) ∧ bI x (isPc h i)) := by
  obtain ⟨⟨m1, m2, m3, m4⟩, -⟩ := hM
  obtain ⟨b0, b1, b2, b3, -, -⟩ := hC.1
  refine ok_body B_X9_isPiece rfl (fun X hX => ?_)
  refine hX 20 [] 0 _ _ _ _ _ _ ?_
  refine And.intro (show inR (h 50 4 - 1) from ⟨by omega, by omega⟩) ?_
  by_cases z : isPc h i
  · refine Ok_rt (isIn_t (j := 0) (k := h 50 4 - 1) ⟨z.1, by have := z.2; omega⟩) ?_
    exact And.intro (by decide) ⟨rfl, rfl, _, rfl, Or.inl ⟨z, rfl⟩⟩
  · refine Ok_rt (isIn_f (j := 0) (k := h 50 4 - 1) (fun y => z ⟨y.1, by have := y.2; omega⟩)) ?_
    exact And.intro (by decide) ⟨rfl, rfl, _, rfl, Or.inr ⟨z, rfl⟩⟩
end MODEL
