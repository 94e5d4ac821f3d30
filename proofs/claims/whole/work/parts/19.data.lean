/-! ===== what a pattern and a state hold, by their rows of numbers; a piece in a size as functions of the part ===== -/
def rd (f : Nat → Int) (len : Nat) (i : Int) : Int := if 0 ≤ i ∧ i < (len : Int) then f i.toNat else 0
theorem rd_A (h : HP) (a len : Nat) (i : Int) : rdA h a len i = rd (h a) len i := rfl
/-- a fact of a part -/
def cF (fc : Nat → Int) (p k w : Int) : Int := rd fc 540 ((p * 10 + k) * 9 + w)
def ChOK (cr tk mk : Nat → Int) (c : Int) : Prop :=
  (1 ≤ rd cr 4 c ∧ rd cr 4 c ≤ 8) ∧ (∀ r, 0 ≤ r → r < rd cr 4 c → (0 ≤ rd tk 32 (c * 8 + r) ∧ rd tk 32 (c * 8 + r) ≤ 36) ∧ 1 ≤ rd mk 32 (c * 8 + r) ∧ rd mk 32 (c * 8 + r) ≤ 12) ∧ rd mk 32 (c * 8 + (rd cr 4 c - 1)) = rd tk 32 (c * 8 + 0)
def PtOK (tot fc : Nat → Int) (p k : Int) : Prop :=
  (0 ≤ cF fc p k 0 ∧ cF fc p k 0 ≤ 2) ∧ (cF fc p k 0 = 0 ↔ k = 0) ∧ (0 ≤ cF fc p k 1 ∧ cF fc p k 1 ≤ 3) ∧ (cF fc p k 0 = 1 → cF fc p k 2 = -1 ∧ cF fc p k 4 = 0 ∧ cF fc p k 5 = 0) ∧
  (cF fc p k 0 ≠ 1 → (0 ≤ cF fc p k 2 ∧ cF fc p k 2 < rd tot 4 1) ∧ (1 ≤ cF fc p k 4 ∧ cF fc p k 4 ≤ 30) ∧ 0 ≤ cF fc p k 5 ∧ cF fc p k 5 < cF fc p k 4) ∧
  (cF fc p k 0 = 0 → cF fc p k 6 = -1) ∧ (cF fc p k 0 ≠ 0 → 0 ≤ cF fc p k 6 ∧ cF fc p k 6 < rd tot 4 1) ∧ (cF fc p k 0 = 2 → 1 ≤ cF fc p k 7 ∧ cF fc p k 7 ≤ 4) ∧ (cF fc p k 0 ≠ 2 → cF fc p k 7 = 0) ∧
  (cF fc p k 8 = -1 ∨ (cF fc p k 0 = 1 ∧ 0 ≤ cF fc p k 8 ∧ cF fc p k 8 < rd tot 4 2))
def PatOK (tot cr tk mk pc fc : Nat → Int) : Prop :=
  (1 ≤ rd tot 4 0 ∧ rd tot 4 0 ≤ 6) ∧ (0 ≤ rd tot 4 1 ∧ rd tot 4 1 ≤ 8) ∧ (0 ≤ rd tot 4 2 ∧ rd tot 4 2 ≤ 4) ∧ (0 ≤ rd tot 4 3 ∧ rd tot 4 3 ≤ 6) ∧
  (∀ c, 0 ≤ c → c < rd tot 4 2 → ChOK cr tk mk c) ∧ (∀ p, 0 ≤ p → p < rd tot 4 3 → (1 ≤ rd pc 6 p ∧ rd pc 6 p ≤ 10) ∧ ∀ k, 0 ≤ k → k < rd pc 6 p → PtOK tot fc p k)
def StOK (st : Nat → Int) : Prop :=
  (5 ≤ rd st 132 0 ∧ rd st 132 0 ≤ 99) ∧ (5 ≤ rd st 132 1 ∧ rd st 132 1 ≤ 99) ∧ (1 ≤ rd st 132 2 ∧ rd st 132 2 ≤ 99) ∧ (0 ≤ rd st 132 3 ∧ rd st 132 3 ≤ 10) ∧ (∀ i, 4 ≤ i → i < 14 → 0 ≤ rd st 132 i ∧ rd st 132 i ≤ 3) ∧
  (∀ i, 14 ≤ i → i < 24 → 0 ≤ rd st 132 i ∧ rd st 132 i ≤ 9999) ∧ (∀ i, 24 ≤ i → i < 72 → 0 ≤ rd st 132 i ∧ rd st 132 i ≤ 3000) ∧ (∀ i, 72 ≤ i → i < 132 → -999 ≤ rd st 132 i ∧ rd st 132 i ≤ 999)
def ab (x : Int) : Int := if 0 ≤ x then x else -x
def rnd (v g : Int) : Int := (v * g + 50).tdiv 100
theorem mul_bd {a b A B : Int} (a0 : 0 ≤ a) (a1 : a ≤ A) (b0 : 0 ≤ b) (b1 : b ≤ B) : 0 ≤ a * b ∧ a * b ≤ A * B := ⟨Int.mul_nonneg a0 b0, Int.mul_le_mul a1 b1 b0 (by omega)⟩
theorem rnd_bd {v g : Int} (v0 : 0 ≤ v) (v1 : v ≤ 4000) (g0 : 0 ≤ g) (g1 : g ≤ 99) : 0 ≤ v * g ∧ v * g ≤ 396000 ∧ 0 ≤ rnd v g ∧ rnd v g ≤ 3960 := by
  have h := mul_bd v0 v1 g0 g1
  unfold rnd
  rw [Int.tdiv_eq_ediv_of_nonneg (by omega)]
  omega
theorem rnd_bd3 {v g : Int} (v0 : 0 ≤ v) (v1 : v ≤ 3000) (g0 : 0 ≤ g) (g1 : g ≤ 99) : 0 ≤ rnd v g ∧ rnd v g ≤ 2970 := by
  have h := mul_bd v0 v1 g0 g1
  unfold rnd
  rw [Int.tdiv_eq_ediv_of_nonneg (by omega)]
  omega
theorem near_bd {w m r : Int} (hw : 0 ≤ w) (hm : 1 ≤ m) (hr : 0 ≤ r) (hr2 : r < m) : w - m < nearF w m r ∧ nearF w m r ≤ w + m ∧ nearF w m r % m = r ∧ (nearF w m r < 1 → 1 ≤ nearF w m r + m) := by
  have h0 := Int.emod_nonneg (w - r) (show m ≠ 0 by omega)
  have h1 := Int.emod_lt_of_pos (w - r) (show 0 < m by omega)
  have e0 : (w - (w - r) % m) % m = r := by
    have : w - (w - r) % m = r + m * ((w - r) / m) := by have := Int.mul_ediv_add_emod (w - r) m; omega
    rw [this, Int.add_mul_emod_self_left, Int.emod_eq_of_lt hr hr2]
  have e1 : (w - (w - r) % m + m) % m = r := by rw [Int.add_emod_right]; exact e0
  unfold nearF
  split
  · exact ⟨by omega, by omega, e0, by omega⟩
  · exact ⟨by omega, by omega, e1, by omega⟩
/-- a piece in a size: kind, color, rows, stitches of the width, chart, per, width and rows of the chart, what its rows make -/
abbrev KD : Type := (Int → Int) × (Int → Int) × (Int → Int) × (Int → Int) × (Int → Int) × (Int → Int) × (Int → Int) × (Int → Int) × (Int → Int → Int)
def kK (D : KD) : Int → Int := D.1
def kC (D : KD) : Int → Int := D.2.1
def kR (D : KD) : Int → Int := D.2.2.1
def kG (D : KD) : Int → Int := D.2.2.2.1
def kH (D : KD) : Int → Int := D.2.2.2.2.1
def kP (D : KD) : Int → Int := D.2.2.2.2.2.1
def kW (D : KD) : Int → Int := D.2.2.2.2.2.2.1
def kN (D : KD) : Int → Int := D.2.2.2.2.2.2.2.1
def kM (D : KD) : Int → Int → Int := D.2.2.2.2.2.2.2.2
/-- stitches ahead of a part, rows ahead of it, why it can't be knitted -/
def hv (D : KD) : Nat → Int
  | 0 => 0
  | k + 1 => if kK D k = 1 then hv D k else kG D k
def tp (D : KD) : Nat → Int
  | 0 => 0
  | k + 1 => tp D k + kR D k
def whyV (kd ch per W R st gl : Int) : Int :=
  if ch ≠ -1 then (if W < 1 ∨ st.tmod W ≠ 0 then 3 else 0)
  else if kd ≠ 2 ∨ per < 1 then 0
  else if (ab (gl - st)).tmod per ≠ 0 then 1
  else if R < (ab (gl - st)).tdiv per then 2 else 0
def why (D : KD) (k : Nat) : Int := whyV (kK D k) (kH D k) (kP D k) (kW D k) (kR D k) (hv D k) (hv D (k + 1))
def mdF (D : KD) : Nat → Nat → Nat
  | 0, k => k
  | m + 1, k => if why D k = 0 then mdF D m (k + 1) else k
/-- the parts that are knitted -/
def md (D : KD) (n : Nat) : Nat := mdF D n 0
def fl (D : KD) (n : Nat) : Int := if md D n < n then 10 * (md D n : Int) + why D (md D n) else 0
theorem mdF_eq (D : KD) : ∀ (m k e : Nat), k ≤ e → e ≤ k + m → (∀ j, k ≤ j → j < e → why D j = 0) → (e = k + m ∨ why D e ≠ 0) → mdF D m k = e
  | 0, k, e, h1, h2, _, _ => by unfold mdF; omega
  | m + 1, k, e, h1, h2, h3, h4 => by
    unfold mdF
    by_cases z : k = e
    · subst z
      rcases h4 with h4 | h4
      · omega
      · rw [if_neg h4]
    · rw [if_pos (h3 k (Nat.le_refl _) (by omega))]
      exact mdF_eq D m (k + 1) e (by omega) (by omega) (fun j a b => h3 j (by omega) b) (by rcases h4 with h4 | h4; left; omega; right; exact h4)
theorem md_eq {D : KD} {n e : Nat} (h2 : e ≤ n) (h3 : ∀ j, j < e → why D j = 0) (h4 : e = n ∨ why D e ≠ 0) : md D n = e := mdF_eq D n 0 e (by omega) (by omega) (fun j _ => h3 j) (by rcases h4 with h4 | h4; left; omega; right; exact h4)
theorem mdF_spec (D : KD) : ∀ (m k : Nat), k ≤ mdF D m k ∧ mdF D m k ≤ k + m ∧ (∀ j, k ≤ j → j < mdF D m k → why D j = 0) ∧ (mdF D m k = k + m ∨ why D (mdF D m k) ≠ 0)
  | 0, k => by unfold mdF; exact ⟨Nat.le_refl _, Nat.le_refl _, fun j a b => by omega, Or.inl rfl⟩
  | m + 1, k => by
    have ih := mdF_spec D m (k + 1)
    unfold mdF
    split
    · next z =>
      refine ⟨by omega, by omega, fun j a b => ?_, by rcases ih.2.2.2 with q | q; left; omega; right; exact q⟩
      by_cases w : j = k
      · rw [w]; exact z
      · exact ih.2.2.1 j (by omega) b
    · next z => exact ⟨Nat.le_refl _, by omega, fun j a b => by omega, Or.inr z⟩
theorem md_spec (D : KD) (n : Nat) : md D n ≤ n ∧ (∀ j, j < md D n → why D j = 0) ∧ (md D n = n ∨ why D (md D n) ≠ 0) := by
  have h := mdF_spec D n 0
  exact ⟨by have := h.2.1; unfold md; omega, fun j hj => h.2.2.1 j (Nat.zero_le _) hj, by rcases h.2.2.2 with q | q; left; unfold md; omega; right; exact q⟩
/-- what holds of a piece's parts, up to n -/
def KOK (D : KD) (n : Nat) : Prop := ∀ k : Nat, k < n →
  (kK D k = 0 ∨ kK D k = 1 ∨ kK D k = 2) ∧ (kK D k = 0 ↔ k = 0) ∧ (0 ≤ kC D k ∧ kC D k ≤ 3) ∧ (0 ≤ kR D k ∧ kR D k ≤ 2980) ∧ (kK D k = 0 → kR D k = 1) ∧ (kK D k ≠ 1 → 1 ≤ kG D k ∧ kG D k ≤ 4100) ∧
  (kH D k = -1 ∨ (kK D k = 1 ∧ (0 ≤ kH D k ∧ kH D k ≤ 3) ∧ (1 ≤ kW D k ∧ kW D k ≤ 36) ∧ (1 ≤ kN D k ∧ kN D k ≤ 8) ∧ kR D k % kN D k = 0 ∧ (∀ i, 0 ≤ i → i < kN D k → 1 ≤ kM D k i ∧ kM D k i ≤ 12) ∧ kM D k (kN D k - 1) = kW D k)) ∧
  (kK D k = 2 → 1 ≤ kP D k ∧ kP D k ≤ 4) ∧ (kK D k ≠ 2 → kP D k = 0)
theorem hv_bd {D : KD} {n : Nat} (h : KOK D n) : ∀ k : Nat, k ≤ n → 0 ≤ hv D k ∧ hv D k ≤ 4100 ∧ (k ≠ 0 → 1 ≤ hv D k)
  | 0, _ => by unfold hv; omega
  | k + 1, hk => by
    have ih := hv_bd h k (by omega)
    have hh := h k (by omega)
    unfold hv
    split
    · next z => refine ⟨ih.1, ih.2.1, fun _ => ih.2.2 (fun q => ?_)⟩; have := hh.2.1.mpr q; omega
    · next z => have := hh.2.2.2.2.2.1 z; omega
theorem tp_bd {D : KD} {n : Nat} (h : KOK D n) : ∀ k : Nat, k ≤ n → 0 ≤ tp D k ∧ tp D k ≤ 2980 * k
  | 0, _ => by unfold tp; omega
  | k + 1, hk => by
    have ih := tp_bd h k (by omega)
    have hh := (h k (by omega)).2.2.2.1
    unfold tp
    omega
/-- the class's numbers, by the rows of the pattern (22 rows of a chart, 23 taken, 24 made, 26 facts) and of a state -/
def cVal (st : Nat → Int) (m s : Int) : Int := rd st 132 (24 + m * 6 + s)
def cRw (cr fc st : Nat → Int) (s p k : Int) : Int :=
  if cF fc p k 0 = 0 then 1
  else if cF fc p k 8 = -1 then rnd (cVal st (cF fc p k 6) s) (rd st 132 1)
  else nearF (rnd (cVal st (cF fc p k 6) s) (rd st 132 1)) (rd cr 4 (cF fc p k 8)) 0
def cNr (fc st : Nat → Int) (s p k : Int) : Int := nearF (rnd (max (cVal st (cF fc p k 2) s + rd st 132 (72 + p * 10 + k)) 0) (rd st 132 0)) (cF fc p k 4) (cF fc p k 5)
def cGl (fc st : Nat → Int) (s p k : Int) : Int := if cNr fc st s p k < 1 then cNr fc st s p k + cF fc p k 4 else cNr fc st s p k
def cDr (cr tk mk fc st : Nat → Int) (s p : Int) : KD :=
  (fun k => cF fc p k 0, fun k => cF fc p k 1, cRw cr fc st s p, cGl fc st s p, fun k => cF fc p k 8, fun k => cF fc p k 7, fun k => rd tk 32 (cF fc p k 8 * 8 + 0), fun k => rd cr 4 (cF fc p k 8), fun k i => rd mk 32 (cF fc p k 8 * 8 + i))
theorem cD_ok {tot cr tk mk pc fc st : Nat → Int} {s p : Int} (hP : PatOK tot cr tk mk pc fc) (hS : StOK st) (hs : 0 ≤ s ∧ s < 6) (hp : 0 ≤ p ∧ p < rd tot 4 3) : KOK (cDr cr tk mk fc st s p) (rd pc 6 p).toNat := by
  obtain ⟨p1, p2, p3, p4, p5, p6⟩ := hP
  obtain ⟨q1, q2, q3, q4, q5, q6, q7, q8⟩ := hS
  have pp := p6 p hp.1 hp.2
  intro k hk
  obtain ⟨z1, z2, z3, z4, z5, z6, z7, z8, z9, z10⟩ := pp.2 k (by omega) (by omega)
  have hcw : ∀ c, 0 ≤ c → c < rd tot 4 2 → 1 ≤ rd tk 32 (c * 8 + 0) ∧ rd tk 32 (c * 8 + 0) ≤ 12 := by
    intro c c0 c1
    obtain ⟨y1, y2, y3⟩ := p5 c c0 c1
    have := y2 (rd cr 4 c - 1) (by omega) (by omega)
    omega
  have hval : ∀ m, 0 ≤ m → m < rd tot 4 1 → 0 ≤ cVal st m s ∧ cVal st m s ≤ 3000 := fun m a b => q7 _ (by omega) (by omega)
  refine ⟨?_, ?_, z3, ?_, ?_, ?_, ?_, ?_, ?_⟩
  · show cF fc p k 0 = 0 ∨ cF fc p k 0 = 1 ∨ cF fc p k 0 = 2
    omega
  · show cF fc p k 0 = 0 ↔ k = 0
    omega
  · show 0 ≤ cRw cr fc st s p k ∧ cRw cr fc st s p k ≤ 2980
    unfold cRw
    split
    · omega
    · next y =>
      have w := z7 y
      have v := hval _ w.1 w.2
      have r := rnd_bd3 v.1 v.2 (show 0 ≤ rd st 132 1 by omega) (by omega)
      split
      · omega
      · next x =>
        have c := (p5 (cF fc p k 8) (by omega) (by omega)).1
        have nb := near_bd r.1 c.1 (Int.le_refl 0) (by omega)
        have n2 : 0 ≤ nearF (rnd (cVal st (cF fc p k 6) s) (rd st 132 1)) (rd cr 4 (cF fc p k 8)) 0 := by
          have e0 := Int.emod_nonneg (rnd (cVal st (cF fc p k 6) s) (rd st 132 1) - 0) (show rd cr 4 (cF fc p k 8) ≠ 0 by omega)
          have e1 : (rnd (cVal st (cF fc p k 6) s) (rd st 132 1) - 0) % rd cr 4 (cF fc p k 8) ≤ rnd (cVal st (cF fc p k 6) s) (rd st 132 1) - 0 := by
            have := Int.mul_ediv_add_emod (rnd (cVal st (cF fc p k 6) s) (rd st 132 1) - 0) (rd cr 4 (cF fc p k 8))
            have w2 := Int.mul_nonneg (show 0 ≤ rd cr 4 (cF fc p k 8) by omega) (Int.ediv_nonneg (show 0 ≤ rnd (cVal st (cF fc p k 6) s) (rd st 132 1) - 0 by omega) (show 0 ≤ rd cr 4 (cF fc p k 8) by omega))
            omega
          unfold nearF
          split <;> omega
        omega
  · show cF fc p k 0 = 0 → cRw cr fc st s p k = 1
    intro y; unfold cRw; rw [if_pos y]
  · show cF fc p k 0 ≠ 1 → 1 ≤ cGl fc st s p k ∧ cGl fc st s p k ≤ 4100
    intro y
    obtain ⟨w1, w2, w3⟩ := z5 y
    have v := hval _ w1.1 w1.2
    have e := q8 (72 + p * 10 + k) (by omega) (by omega)
    have r := (rnd_bd (v := max (cVal st (cF fc p k 2) s + rd st 132 (72 + p * 10 + k)) 0) (by omega) (by omega) (show 0 ≤ rd st 132 0 by omega) (by omega)).2.2
    have nb := near_bd r.1 w2.1 w3.1 w3.2
    unfold cGl
    have e1 : cNr fc st s p k = nearF (rnd (max (cVal st (cF fc p k 2) s + rd st 132 (72 + p * 10 + k)) 0) (rd st 132 0)) (cF fc p k 4) (cF fc p k 5) := rfl
    split <;> omega
  · show cF fc p k 8 = -1 ∨ (cF fc p k 0 = 1 ∧ (0 ≤ cF fc p k 8 ∧ cF fc p k 8 ≤ 3) ∧ (1 ≤ rd tk 32 (cF fc p k 8 * 8 + 0) ∧ rd tk 32 (cF fc p k 8 * 8 + 0) ≤ 36) ∧ (1 ≤ rd cr 4 (cF fc p k 8) ∧ rd cr 4 (cF fc p k 8) ≤ 8) ∧ cRw cr fc st s p k % rd cr 4 (cF fc p k 8) = 0 ∧ (∀ i, 0 ≤ i → i < rd cr 4 (cF fc p k 8) → 1 ≤ rd mk 32 (cF fc p k 8 * 8 + i) ∧ rd mk 32 (cF fc p k 8 * 8 + i) ≤ 12) ∧ rd mk 32 (cF fc p k 8 * 8 + (rd cr 4 (cF fc p k 8) - 1)) = rd tk 32 (cF fc p k 8 * 8 + 0))
    rcases z10 with z | ⟨y1, y2, y3⟩
    · exact Or.inl z
    · right
      have c := p5 (cF fc p k 8) y2 y3
      have cw := hcw _ y2 y3
      refine ⟨y1, ⟨y2, by omega⟩, ⟨cw.1, by omega⟩, c.1, ?_, fun i a b => (c.2.1 i a b).2, c.2.2⟩
      unfold cRw
      rw [if_neg (by omega), if_neg (by omega)]
      have w := z7 (by omega)
      have v := hval _ w.1 w.2
      have c1 := c.1.1
      exact (near_bd (rnd_bd3 v.1 v.2 (show 0 ≤ rd st 132 1 by omega) (by omega)).1 c.1.1 (Int.le_refl 0) (by omega)).2.2.1
  · exact z8
  · exact z9
