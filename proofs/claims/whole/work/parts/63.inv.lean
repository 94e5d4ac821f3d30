/-! ===== what holds between two calls ===== -/
def stRow (f : Nat → Int) (k : Nat) : Nat → Int := fun i => f (132 * k + i)
def pastR (h : HP) (j : Nat) : Nat := ((h 1 11 - h 1 10 + (j : Int)) % 8).toNat
def PastC (h : HP) : Prop := h 50 15 = h 1 10 ∧ ∀ j : Nat, (j : Int) < h 1 10 → StC (stRow (h 58) j) (stRow (h 47) (pastR h j)) ∧ StOK (stRow (h 47) (pastR h j))
def SlotC (h : HP) : Prop := ∀ t : Nat, t < 2 → (h 60 t = 0 ∨ h 60 t = 1) ∧ (isSv h t ↔ h 60 t = 1) ∧ (h 60 t = 1 → StC (stRow (h 59) t) (stRow (h 49) t) ∧ StOK (stRow (h 49) t))
def TextC (h : HP) : Prop := (h 50 17 = h 2 1 ∧ 0 ≤ h 2 1 ∧ h 2 1 ≤ 1500) ∧ ∀ i : Nat, (i : Int) < h 2 1 → h 61 i = iandI (h 3 i) 255
def FaultC (h : HP) : Prop := h 50 23 = h 1 13 ∧ h 50 24 = h 1 14
def NameC (h : HP) : Prop := ∀ i q : Nat, i < 4 → (q : Int) < rd (h 21) 4 i → nmOK (h 56) (fsI i + q) (rd (h 20) 32 ((i : Int) * 8 + q))
def INV (h : HP) : Prop := (CI h ∧ Cpl h ∧ undoOK h) ∧ PastC h ∧ SlotC h ∧ TextC h ∧ FaultC h ∧ NameC h
/-- the cells that it speaks of -/
def inI (c : Nat) : Prop := c = 1 ∨ c = 2 ∨ c = 3 ∨ (20 ≤ c ∧ c ≤ 28) ∨ c = 47 ∨ c = 49 ∨ (51 ≤ c ∧ c ≤ 61)
def inF (q : Nat) : Prop := (1 ≤ q ∧ q ≤ 4) ∨ q = 15 ∨ q = 17 ∨ q = 23 ∨ q = 24
theorem INV_fr {h h' : HP} (H : INV h) (hc : ∀ c, inI c → h' c = h c) (hq : ∀ q, inF q → h' 50 q = h 50 q) : INV h' := by
  obtain ⟨⟨a, b, c⟩, d, e, f, g, k⟩ := H
  have c1 := hc 1 (by unfold inI; omega)
  have c2 := hc 2 (by unfold inI; omega)
  have c3 := hc 3 (by unfold inI; omega)
  have cs : ∀ c, 20 ≤ c → c ≤ 28 → h' c = h c := fun c x y => hc c (by unfold inI; omega)
  have cm : ∀ c, 51 ≤ c → c ≤ 61 → h' c = h c := fun c x y => hc c (by unfold inI; omega)
  have c47 := hc 47 (by unfold inI; omega)
  have c49 := hc 49 (by unfold inI; omega)
  refine ⟨⟨CI_fr a (fun c x y => cs c (by omega) y), Cpl_fr b (fun c x y => cs c (by omega) y) (fun c x y => cm c x (by omega)) (fun j x y => hq j (Or.inl ⟨x, y⟩)), ?_⟩, ?_, ?_, ?_, ?_, ?_⟩
  · unfold undoOK at *; rw [c1]; exact c
  · unfold PastC pastR at *; rw [c1, c47, cm 58 (by decide) (by decide), hq 15 (by unfold inF; omega)]; exact d
  · unfold SlotC isSv at *; rw [c1, c49, cm 59 (by decide) (by decide), cm 60 (by decide) (by decide)]; exact e
  · unfold TextC at *; rw [c2, c3, cm 61 (by decide) (by decide), hq 17 (by unfold inF; omega)]; exact f
  · unfold FaultC at *; rw [c1, hq 23 (by unfold inF; omega), hq 24 (by unfold inF; omega)]; exact g
  · unfold NameC at *; rw [cs 20 (by decide) (by decide), cs 21 (by decide) (by decide), cm 56 (by decide) (by decide)]; exact k
theorem INV_M {h h' : HP} (H : INV h) (f : FrM h h') : INV h' := INV_fr H (fun c x => by
  unfold inI at x
  exact f.1 c (by omega) (by omega)) (fun q x => by
  unfold inF at x
  exact f.2 q (by omega) (by omega) (by omega) (by omega) (by omega))
theorem INV_Q {h h' : HP} (H : INV h) (f : FrQ h h') : INV h' := INV_fr H (fun c x => by
  unfold inI at x
  exact f c (by omega)) (fun q x => by rw [f 50 (by omega)])
theorem INV_D {h h' : HP} (H : INV h) (f : FrD h h') : INV h' := INV_fr H (fun c x => by
  unfold inI at x
  exact f c (by omega)) (fun q x => by rw [f 50 (by omega)])
theorem StC_cg {f g cs cs' : Nat → Int} (e : ∀ j, rd f 132 j = rd g 132 j) (e' : ∀ j, rd cs 132 j = rd cs' 132 j) (H : StC g cs') : StC f cs := by
  unfold StC at *
  simp only [e, e']
  exact H
theorem StOK_cg {f g : Nat → Int} (e : ∀ j, rd f 132 j = rd g 132 j) (H : StOK g) : StOK f := by
  unfold StOK at *
  simp only [e]
  exact H
theorem rd_cg {f g : Nat → Int} (e : ∀ i, i < 132 → f i = g i) (j : Int) : rd f 132 j = rd g 132 j := by
  unfold rd
  split
  · next z => exact e _ (by omega)
  · rfl
/-- what rememberForUndo leaves -/
theorem remH_spec {h : HP} (hu : undoOK h) : (∀ c, c ≠ 1 → c ≠ 47 → remH h c = h c) ∧ (∀ q, q ≠ 10 → q ≠ 11 → remH h 1 q = h 1 q) ∧ remH h 1 11 = (h 1 11 + 1) % 8 ∧ remH h 1 10 = (if h 1 10 < 8 then h 1 10 + 1 else h 1 10) ∧
    ∀ r i : Nat, r < 8 → i < 132 → remH h 47 (132 * r + i) = if (r : Int) = h 1 11 then h 28 i else h 47 (132 * r + i) := by
  obtain ⟨u1, u2, u3⟩ := hu
  have em : (h 1 11 + 1).tmod 8 = (h 1 11 + 1) % 8 := Int.tmod_eq_emod_of_nonneg (by omega)
  have B47 : ∀ r i : Nat, r < 8 → i < 132 → remB h 47 (132 * r + i) = if (r : Int) = h 1 11 then h 28 i else h 47 (132 * r + i) := by
    intro r i hr hi
    unfold remB
    rw [up_cell (by decide)]
    unfold cpA
    rw [upA_same]
    by_cases z : (r : Int) = h 1 11
    · rw [if_pos ⟨by omega, by omega, by omega⟩, if_pos z, rdA_in (by omega) (by omega)]
      rw [show (0 + (((132 * r + i : Nat) : Int) - h 1 11 * 132)).toNat = i by omega]
    · rw [if_neg (by omega), if_neg z]
  have B1 : ∀ q, q ≠ 11 → remB h 1 q = h 1 q := fun q hq => by unfold remB; rw [up_ne hq, cpA_cell (by decide)]
  have B11 : remB h 1 11 = (h 1 11 + 1) % 8 := by unfold remB; rw [up_same, em]
  have Bc : ∀ c, c ≠ 1 → c ≠ 47 → remB h c = h c := fun c c1 c2 => by unfold remB; rw [up_cell c1, cpA_cell c2]
  unfold remH
  by_cases z : h 1 10 < 8
  · rw [if_pos z]
    refine ⟨fun c c1 c2 => by rw [up_cell c1]; exact Bc c c1 c2, fun q q1 q2 => by rw [up_ne q1]; exact B1 q q2, by rw [up_ne (by decide)]; exact B11, by rw [up_same, if_pos z], fun r i hr hi => by rw [up_cell (by decide)]; exact B47 r i hr hi⟩
  · rw [if_neg z]
    exact ⟨Bc, fun q q1 q2 => B1 q q2, B11, by rw [if_neg z]; exact B1 10 (by decide), B47⟩
/-- a change: the class's, then the model's -/
theorem INV_chg {h h1 h2 hk : HP} {pm : Nat} (H : INV h) (hpm : h 50 15 = (pm : Int)) (g1 : ∀ c, c ≠ 28 → (c < 31 ∨ 45 < c) → h1 c = remH h c) (S1 : StOK (h1 28)) (K : KpP (up h1 50 0 0) hk pm)
    (g2 : ∀ c, c ≠ 50 → c ≠ 57 → (c < 69 ∨ 76 < c) → h2 c = hk c) (g3 : ∀ q, q ≠ 39 → q ≠ 40 → q ≠ 41 → q ≠ 46 → h2 50 q = hk 50 q) (S2 : StC (h2 57) (h1 28)) : INV h2 := by
  obtain ⟨⟨a, b, c⟩, d, e, f, g, k⟩ := H
  obtain ⟨r1, r2, r3, r4, r5⟩ := remH_spec c
  obtain ⟨k1, k2, k3⟩ := K
  have r50 : ∀ q, remH h 50 q = h 50 q := fun q => by rw [r1 50 (by decide) (by decide)]
  have A : ∀ c, c ≠ 1 → c ≠ 28 → c ≠ 47 → c ≠ 50 → c ≠ 57 → c ≠ 58 → (c < 31 ∨ 45 < c) → (c < 69 ∨ 76 < c) → h2 c = h c := fun c c1 c2 c3 c4 c5 c6 c7 c8 => by
    rw [g2 c c4 c5 c8, k1 c c4 c6, up_cell c4, g1 c c2 c7, r1 c c1 c3]
  have A1 : h2 1 = remH h 1 := by rw [g2 1 (by decide) (by decide) (by decide), k1 1 (by decide) (by decide), up_cell (by decide), g1 1 (by decide) (by decide)]
  have A47 : h2 47 = remH h 47 := by rw [g2 47 (by decide) (by decide) (by decide), k1 47 (by decide) (by decide), up_cell (by decide), g1 47 (by decide) (by decide)]
  have A28 : h2 28 = h1 28 := by rw [g2 28 (by decide) (by decide) (by decide), k1 28 (by decide) (by decide), up_cell (by decide)]
  have A50 : ∀ q, q ≠ 0 → q ≠ 15 → q ≠ 39 → q ≠ 40 → q ≠ 41 → q ≠ 46 → h2 50 q = h 50 q := fun q q0 q1 q2 q3 q4 q5 => by
    rw [g3 q q2 q3 q4 q5, k2 q q1, up_ne q0, g1 50 (by decide) (by decide), r50]
  have A58 : h2 58 = hk 58 := g2 58 (by decide) (by decide) (by decide)
  have A15 : h2 50 15 = hk 50 15 := g3 15 (by decide) (by decide) (by decide) (by decide)
  have cc := c
  unfold undoOK at cc
  obtain ⟨u1, u2, u3⟩ := cc
  have p15 := d.1
  have C2 : CI h2 := CI_of a (A 21 (by decide) (by decide) (by decide) (by decide) (by decide) (by decide) (by decide) (by decide)) (A 22 (by decide) (by decide) (by decide) (by decide) (by decide) (by decide) (by decide) (by decide)) (A 23 (by decide) (by decide) (by decide) (by decide) (by decide) (by decide) (by decide) (by decide)) (A 24 (by decide) (by decide) (by decide) (by decide) (by decide) (by decide) (by decide) (by decide)) (A 25 (by decide) (by decide) (by decide) (by decide) (by decide) (by decide) (by decide) (by decide)) (A 26 (by decide) (by decide) (by decide) (by decide) (by decide) (by decide) (by decide) (by decide)) (by rw [A28]; exact S1)
  have T2 : TbC h2 := TbC_fr (TbC_of a b) (fun c x y => A c (by omega) (by omega) (by omega) (by omega) (by omega) (by omega) (by omega) (by omega)) (fun c x y => A c (by omega) (by omega) (by omega) (by omega) (by omega) (by omega) (by omega) (by omega)) (fun j x y => A50 j (by omega) (by omega) (by omega) (by omega) (by omega) (by omega))
  refine ⟨⟨C2, Cpl_T T2 (by rw [A28]; exact S2), ?_⟩, ?_, ?_, ?_, ?_, ?_⟩
  · unfold undoOK
    rw [A1, r3, r4]
    split <;> omega
  · have h2c : stRow (h2 58) = stRow (hk 58) := by rw [A58]
    have now : ∀ i : Nat, up h1 50 0 0 57 i = h 57 i := fun i => by rw [up_cell (by decide), g1 57 (by decide) (by decide), r1 57 (by decide) (by decide)]
    have o58 : ∀ i : Nat, up h1 50 0 0 58 i = h 58 i := fun i => by rw [up_cell (by decide), g1 58 (by decide) (by decide), r1 58 (by decide) (by decide)]
    refine ⟨by rw [A15, A1, r4]; rcases k3 with y | y; rw [y.2.1, if_pos (by omega)]; omega; rw [y.2.1, if_neg (by omega)]; omega, fun j hj => ?_⟩
    rw [A1, r4] at hj
    have pr : pastR h2 j = ((remH h 1 11 - remH h 1 10 + (j : Int)) % 8).toNat := by unfold pastR; rw [A1]
    rw [r3, r4] at pr
    -- the state kept last, and those before it
    have newest : ∀ (hjn : (j : Int) + 1 = (if h 1 10 < 8 then h 1 10 + 1 else h 1 10)), (∀ i : Nat, i < 132 → hk 58 (132 * j + i) = h 57 i) → StC (stRow (h2 58) j) (stRow (h2 47) (pastR h2 j)) ∧ StOK (stRow (h2 47) (pastR h2 j)) := by
      intro hjn hrow
      have et : (pastR h2 j : Int) = h 1 11 := by rw [pr]; split at hjn <;> omega
      have row : ∀ i : Nat, i < 132 → stRow (h2 47) (pastR h2 j) i = h 28 i := fun i hi => by
        show h2 47 (132 * pastR h2 j + i) = _
        rw [A47, r5 _ i (by omega) hi, if_pos et]
      exact ⟨StC_cg (rd_cg (fun i hi => by show h2 58 (132 * j + i) = _; rw [A58]; exact hrow i hi)) (rd_cg row) b.2.2.2, StOK_cg (rd_cg row) a.2⟩
    have elder : ∀ j' : Nat, (j' : Int) < h 1 10 → pastR h2 j = pastR h j' → ((pastR h j' : Nat) : Int) ≠ h 1 11 → (∀ i : Nat, i < 132 → hk 58 (132 * j + i) = h 58 (132 * j' + i)) → StC (stRow (h2 58) j) (stRow (h2 47) (pastR h2 j)) ∧ StOK (stRow (h2 47) (pastR h2 j)) := by
      intro j' hj' hpr hne hrow
      have lt : pastR h j' < 8 := by unfold pastR; omega
      have row : ∀ i : Nat, i < 132 → stRow (h2 47) (pastR h2 j) i = stRow (h 47) (pastR h j') i := fun i hi => by
        show h2 47 (132 * pastR h2 j + i) = h 47 (132 * pastR h j' + i)
        rw [A47, hpr, r5 _ i lt hi, if_neg hne]
      have o := d.2 j' hj'
      exact ⟨StC_cg (rd_cg (fun i hi => by show h2 58 (132 * j + i) = h 58 (132 * j' + i); rw [A58]; exact hrow i hi)) (rd_cg row) o.1, StOK_cg (rd_cg row) o.2⟩
    rcases k3 with ⟨y1, y2, y3, y4⟩ | ⟨y1, y2, y3, y4⟩
    · rw [if_pos (by omega)] at hj pr
      by_cases z : j = pm
      · refine newest (by rw [if_pos (by omega)]; omega) (fun i hi => ?_)
        rw [z, y4 i hi]; exact now i
      · refine elder j (by omega) (by rw [pr]; unfold pastR; congr 1; omega) (by unfold pastR; omega) (fun i hi => ?_)
        rw [y3 _ (by omega)]; exact o58 _
    · rw [if_neg (by omega)] at hj pr
      by_cases z : j = 7
      · refine newest (by rw [if_neg (by omega)]; omega) (fun i hi => ?_)
        rw [z, y4 i hi]; exact now i
      · refine elder (j + 1) (by omega) (by rw [pr]; unfold pastR; congr 1; omega) (by unfold pastR; omega) (fun i hi => ?_)
        rw [y3 _ (by omega), o58, show 132 * j + i + 132 = 132 * (j + 1) + i by omega]
  · unfold SlotC isSv at *
    rw [A1, r2 12 (by decide) (by decide), A 49 (by decide) (by decide) (by decide) (by decide) (by decide) (by decide) (by decide) (by decide), A 59 (by decide) (by decide) (by decide) (by decide) (by decide) (by decide) (by decide) (by decide), A 60 (by decide) (by decide) (by decide) (by decide) (by decide) (by decide) (by decide) (by decide)]
    exact e
  · unfold TextC at *
    rw [A50 17 (by decide) (by decide) (by decide) (by decide) (by decide) (by decide), A 2 (by decide) (by decide) (by decide) (by decide) (by decide) (by decide) (by decide) (by decide), A 3 (by decide) (by decide) (by decide) (by decide) (by decide) (by decide) (by decide) (by decide), A 61 (by decide) (by decide) (by decide) (by decide) (by decide) (by decide) (by decide) (by decide)]
    exact f
  · unfold FaultC at *
    rw [A50 23 (by decide) (by decide) (by decide) (by decide) (by decide) (by decide), A50 24 (by decide) (by decide) (by decide) (by decide) (by decide) (by decide), A1, r2 13 (by decide) (by decide), r2 14 (by decide) (by decide)]
    exact g
  · unfold NameC at *
    rw [A 20 (by decide) (by decide) (by decide) (by decide) (by decide) (by decide) (by decide) (by decide), A 21 (by decide) (by decide) (by decide) (by decide) (by decide) (by decide) (by decide) (by decide), A 56 (by decide) (by decide) (by decide) (by decide) (by decide) (by decide) (by decide) (by decide)]
    exact k
