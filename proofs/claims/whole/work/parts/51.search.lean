/-! ===== the model's search for a dealing: what it finds, and that it is the class's ===== -/
def ldF (q : Nat → Int) (d : Nat → Nat) (n k : Nat) : Int := sumN (fun i => if d i = k then q i else 0) n
def nwF (d : Nat → Nat) (n k : Nat) : Int := if anyB (fun j => d j == k) n = true then 0 else 1
def ctF (d : Nat → Nat) (n : Nat) : Int := sumN (fun i => nwF d i (d i)) n
/-- the first n pieces that want the color have lots that may be -/
def Vp (okL : Nat → Prop) (room : Nat → Int) (q : Nat → Int) (L : Nat) (most : Int) (d : Nat → Nat) (n : Nat) : Prop :=
  (∀ i, i < n → d i < L ∧ okL (d i)) ∧ (∀ i, i < n → ldF q d n (d i) ≤ room (d i)) ∧ ctF d n ≤ most
/-- no full dealing is ahead of the first n lots -/
def LexLow (V : (Nat → Nat) → Prop) (d : Nat → Nat) (n : Nat) : Prop := ∀ i, i < n → ∀ e, V e → (∀ j, j < i → e j = d j) → d i ≤ e i
theorem nwF_bd (d : Nat → Nat) (n k : Nat) : 0 ≤ nwF d n k ∧ nwF d n k ≤ 1 := by unfold nwF; split <;> omega
theorem ctF_bd (d : Nat → Nat) : ∀ n : Nat, 0 ≤ ctF d n ∧ ctF d n ≤ (n : Int)
  | 0 => ⟨Int.le_refl _, Int.le_refl _⟩
  | n + 1 => by
    have ih := ctF_bd d n
    have b := nwF_bd d n (d n)
    show 0 ≤ ctF d n + nwF d n (d n) ∧ ctF d n + nwF d n (d n) ≤ ((n + 1 : Nat) : Int)
    omega
theorem nwF_congr {d e : Nat → Nat} {n k : Nat} (h : ∀ j, j < n → d j = e j) : nwF d n k = nwF e n k := by
  unfold nwF
  rw [anyB_congr (g := fun j => e j == k) (fun j hj => by show (d j == k) = true ↔ (e j == k) = true; rw [h j hj])]
theorem ctF_congr {d e : Nat → Nat} {n : Nat} (h : ∀ j, j < n → d j = e j) : ctF d n = ctF e n :=
  sumN_congr (fun i hi => by show nwF d i (d i) = nwF e i (e i); rw [h i hi, nwF_congr (fun j hj => h j (by omega))])
theorem ldF_congr {q : Nat → Int} {d e : Nat → Nat} {n k : Nat} (h : ∀ j, j < n → d j = e j) : ldF q d n k = ldF q e n k :=
  sumN_congr (fun i hi => by show (if d i = k then q i else 0) = (if e i = k then q i else 0); rw [h i hi])
theorem ldF_mono {q : Nat → Int} {d : Nat → Nat} {k : Nat} (hq : ∀ i, 0 ≤ q i) : ∀ m n : Nat, ldF q d n k ≤ ldF q d (n + m) k
  | 0, n => Int.le_refl _
  | m + 1, n => by
    have ih := ldF_mono (k := k) (d := d) hq m n
    show ldF q d n k ≤ ldF q d (n + m) k + (if d (n + m) = k then q (n + m) else 0)
    have := hq (n + m)
    split <;> omega
theorem ctF_mono (d : Nat → Nat) : ∀ m n : Nat, ctF d n ≤ ctF d (n + m)
  | 0, n => Int.le_refl _
  | m + 1, n => by
    have ih := ctF_mono d m n
    have b := nwF_bd d (n + m) (d (n + m))
    show ctF d n ≤ ctF d (n + m) + nwF d (n + m) (d (n + m))
    omega
section VP
variable {okL : Nat → Prop} {room q : Nat → Int} {L : Nat} {most : Int}
theorem Vp_less {d : Nat → Nat} {n m : Nat} (hq : ∀ i, 0 ≤ q i) (h : Vp okL room q L most d (n + m)) : Vp okL room q L most d n :=
  ⟨fun i hi => h.1 i (by omega), fun i hi => Int.le_trans (ldF_mono hq m n) (h.2.1 i (by omega)), Int.le_trans (ctF_mono d m n) h.2.2⟩
theorem Vp_congr {d e : Nat → Nat} {n : Nat} (h : ∀ j, j < n → d j = e j) (H : Vp okL room q L most d n) : Vp okL room q L most e n :=
  ⟨fun i hi => by rw [← h i hi]; exact H.1 i hi, fun i hi => by rw [← h i hi, ← ldF_congr h]; exact H.2.1 i hi, by rw [← ctF_congr h]; exact H.2.2⟩
/-- the lot k may be the next one -/
def cand (okL : Nat → Prop) (room q : Nat → Int) (L : Nat) (most : Int) (d : Nat → Nat) (n k : Nat) : Prop := k < L ∧ okL k ∧ ldF q d n k + q n ≤ room k ∧ ctF d n + nwF d n k ≤ most
theorem cand_of {d e : Nat → Nat} {n : Nat} (H : Vp okL room q L most e (n + 1)) (h : ∀ j, j < n → e j = d j) : cand okL room q L most d n (e n) := by
  obtain ⟨a, b, c⟩ := H
  have l : ldF q e (n + 1) (e n) = ldF q d n (e n) + q n := by
    show ldF q e n (e n) + (if e n = e n then q n else 0) = _
    rw [if_pos rfl, ldF_congr h]
  have t : ctF e (n + 1) = ctF d n + nwF d n (e n) := by
    show ctF e n + nwF e n (e n) = _
    rw [ctF_congr h, nwF_congr h]
  exact ⟨(a n (by omega)).1, (a n (by omega)).2, by rw [← l]; exact b n (by omega), by rw [← t]; exact c⟩
def setD (d : Nat → Nat) (n k : Nat) : Nat → Nat := fun i => if i = n then k else d i
theorem setD_lt {d : Nat → Nat} {n k j : Nat} (h : j < n) : setD d n k j = d j := if_neg (by omega)
theorem setD_at {d : Nat → Nat} {n k : Nat} : setD d n k n = k := if_pos rfl
theorem ld_set {d : Nat → Nat} {n k j : Nat} : ldF q (setD d n k) (n + 1) j = ldF q d n j + (if k = j then q n else 0) := by
  show ldF q (setD d n k) n j + (if setD d n k n = j then q n else 0) = _
  rw [setD_at, ldF_congr (fun i hi => setD_lt hi)]
theorem ct_set {d : Nat → Nat} {n k : Nat} : ctF (setD d n k) (n + 1) = ctF d n + nwF d n k := by
  show ctF (setD d n k) n + nwF (setD d n k) n (setD d n k n) = _
  rw [setD_at, ctF_congr (fun i hi => setD_lt hi), nwF_congr (fun i hi => setD_lt hi)]
theorem Vp_next {d : Nat → Nat} {n k : Nat} (H : Vp okL room q L most d n) (hc : cand okL room q L most d n k) : Vp okL room q L most (setD d n k) (n + 1) := by
  obtain ⟨a, b, c⟩ := H
  obtain ⟨c1, c2, c3, c4⟩ := hc
  refine ⟨fun i hi => ?_, fun i hi => ?_, by rw [ct_set]; exact c4⟩
  · by_cases z : i = n
    · subst z; rw [setD_at]; exact ⟨c1, c2⟩
    · rw [setD_lt (by omega)]; exact a i (by omega)
  · by_cases z : i = n
    · subst z; rw [setD_at, ld_set, if_pos rfl]; exact c3
    · rw [setD_lt (by omega), ld_set]
      by_cases y : k = d i
      · rw [if_pos y, ← y]; exact c3
      · rw [if_neg y]; have := b i (by omega); omega
end VP
/-! the pieces that want a color, by number -/
def wi (w : Nat → Int) : Nat → Nat
  | 0 => 0
  | p + 1 => if w p = 0 then wi w p else wi w p + 1
def wp (w : Nat → Int) : Nat → Nat → Nat
  | 0, _ => 0
  | p + 1, i => if w p ≠ 0 ∧ wi w p = i then p else wp w p i
theorem wi_mono (w : Nat → Int) : ∀ m p : Nat, wi w p ≤ wi w (p + m)
  | 0, p => Nat.le_refl _
  | m + 1, p => by
    have := wi_mono w m p
    show wi w p ≤ (if w (p + m) = 0 then wi w (p + m) else wi w (p + m) + 1)
    split <;> omega
theorem wi_lt {w : Nat → Int} {p r : Nat} (h : p < r) (hp : w p ≠ 0) : wi w p < wi w r := by
  have a := wi_mono w (r - (p + 1)) (p + 1)
  rw [show p + 1 + (r - (p + 1)) = r by omega] at a
  have e : wi w (p + 1) = wi w p + 1 := if_neg hp
  omega
theorem wi_le (w : Nat → Int) : ∀ p, wi w p ≤ p
  | 0 => Nat.le_refl _
  | p + 1 => by
    have := wi_le w p
    show (if w p = 0 then wi w p else wi w p + 1) ≤ p + 1
    split <;> omega
theorem wp_wi {w : Nat → Int} {p : Nat} (hp : w p ≠ 0) : ∀ n, p < n → wp w n (wi w p) = p
  | 0, h => absurd h (Nat.not_lt_zero _)
  | n + 1, h => by
    unfold wp
    by_cases z : p = n
    · subst z; rw [if_pos ⟨hp, rfl⟩]
    · rw [if_neg (fun y => by have := wi_lt (w := w) (show p < n by omega) hp; omega)]
      exact wp_wi hp n (by omega)
theorem wp_at {w : Nat → Int} : ∀ (n i : Nat), i < wi w n → wp w n i < n ∧ w (wp w n i) ≠ 0 ∧ wi w (wp w n i) = i
  | 0, i, h => absurd h (Nat.not_lt_zero _)
  | n + 1, i, h => by
    unfold wp
    by_cases z : w n ≠ 0 ∧ wi w n = i
    · rw [if_pos z]; exact ⟨by omega, z.1, z.2⟩
    · rw [if_neg z]
      have h2 : i < wi w n := by
        unfold wi at h
        by_cases y : w n = 0
        · rw [if_pos y] at h; exact h
        · rw [if_neg y] at h
          have : wi w n ≠ i := fun x => z ⟨y, x⟩
          omega
      have ih := wp_at n i h2
      exact ⟨by omega, ih.2⟩
theorem wi_sum {w : Nat → Int} {n : Nat} (g : Nat → Int) : ∀ p, p ≤ n → sumN (fun i => g (wp w n i)) (wi w p) = sumN (fun r => if w r = 0 then 0 else g r) p
  | 0, _ => rfl
  | p + 1, h => by
    have ih := wi_sum (w := w) (n := n) g p (by omega)
    by_cases z : w p = 0
    · have e : wi w (p + 1) = wi w p := if_pos z
      rw [e, ih]
      show _ = _ + (if w p = 0 then 0 else g p)
      rw [if_pos z]; omega
    · have e : wi w (p + 1) = wi w p + 1 := if_neg z
      rw [e]
      show sumN (fun i => g (wp w n i)) (wi w p) + g (wp w n (wi w p)) = _ + (if w p = 0 then 0 else g p)
      rw [ih, wp_wi z n (by omega), if_neg z]
theorem NM_mk (w : Nat → Int) : ∀ t, NM w t = mkS (fun p => decide (0 < w p)) t
  | 0 => rfl
  | t + 1 => by
    unfold NM mkS
    rw [NM_mk w t]
    by_cases z : 0 < w t
    · rw [if_pos z, if_pos (by simpa using z), Nat.add_comm]
    · rw [if_neg z, if_neg (by simpa using z)]
theorem NM_bit {w : Nat → Int} {t p : Nat} : (NM w t).testBit p = true ↔ p < t ∧ 0 < w p := by
  rw [NM_mk, mkS_bit]
  exact ⟨fun h => ⟨h.1, by simpa using h.2⟩, fun h => ⟨h.1, by simpa using h.2⟩⟩
theorem sum_one {L x : Nat} (c : Int) (h : x < L) : sumN (fun k => if k = x then c else 0) L = c := by
  have key : ∀ m, sumN (fun k => if k = x then c else 0) m = if x < m then c else 0 := by
    intro m
    induction m with
    | zero => rw [if_neg (Nat.not_lt_zero _)]; rfl
    | succ m ih =>
      show sumN (fun k => if k = x then c else 0) m + (if m = x then c else 0) = _
      rw [ih]
      by_cases z : m = x
      · rw [if_pos z, if_neg (by omega), if_pos (by omega)]; omega
      · by_cases y : x < m
        · rw [if_neg z, if_pos y, if_pos (by omega)]; omega
        · rw [if_neg z, if_neg y, if_neg (by omega)]; omega
  rw [key, if_pos h]
theorem ct_eq (d : Nat → Nat) (L : Nat) : ∀ m, (∀ i, i < m → d i < L) → ctF d m = sumN (fun k => if anyB (fun j => d j == k) m = true then 1 else 0) L
  | 0, _ => by
    rw [sumN_congr (g := fun _ => 0) (fun k _ => if_neg (by unfold anyB; decide)), sumN_const]
    show (0 : Int) = _
    omega
  | m + 1, h => by
    have ih := ct_eq d L m (fun i hi => h i (by omega))
    show ctF d m + nwF d m (d m) = _
    rw [ih, ← sum_one (nwF d m (d m)) (h m (by omega)), ← sumN_add]
    refine sumN_congr (fun k _ => ?_)
    show (if anyB (fun j => d j == k) m = true then (1 : Int) else 0) + (if k = d m then nwF d m (d m) else 0) = (if (anyB (fun j => d j == k) m || d m == k) = true then 1 else 0)
    by_cases y : k = d m
    · subst y
      unfold nwF
      cases hA : anyB (fun j => d j == d m) m <;> simp
    · rw [if_neg y]
      have e : (d m == k) = false := by simp; omega
      rw [e, Bool.or_false, Int.add_zero]
/-! the search against the costs -/
section MAIN
variable {st : Nat → Int} {col : Int} {w : Nat → Int} {n L : Nat}
def okC (st : Nat → Int) (col : Int) (k : Nat) : Prop := rd st 132 (4 + (k : Int)) = col
def rmC (st : Nat → Int) (k : Nat) : Int := 1000 * rd st 132 (14 + (k : Int))
/-- a full dealing of at most so many lots -/
def Vd (st : Nat → Int) (col : Int) (w : Nat → Int) (n L : Nat) (most : Int) (d : Nat → Nat) : Prop := Vp (okC st col) (rmC st) (fun i => w (wp w n i)) L most d (wi w n)
theorem load_eq (hw : ∀ p, p < n → 0 ≤ w p) {d a : Nat → Nat} (h : ∀ p, p < n → w p ≠ 0 → a p = d (wi w p)) (k : Nat) :
    ldF (fun i => w (wp w n i)) d (wi w n) k = sumN (fun p => if (NM w n).testBit p = true ∧ a p = k then w p else 0) n := by
  unfold ldF
  have e := wi_sum (w := w) (n := n) (fun p => if d (wi w p) = k then w p else 0) n (Nat.le_refl _)
  rw [sumN_congr (f := fun i => if d i = k then w (wp w n i) else 0) (g := fun i => if d (wi w (wp w n i)) = k then w (wp w n i) else 0) (m := wi w n) (fun i hi => by
    show (if d i = k then w (wp w n i) else 0) = (if d (wi w (wp w n i)) = k then w (wp w n i) else 0)
    rw [(wp_at n i hi).2.2])]
  rw [e]
  refine sumN_congr (fun p hp => ?_)
  show (if w p = 0 then 0 else if d (wi w p) = k then w p else 0) = (if (NM w n).testBit p = true ∧ a p = k then w p else 0)
  by_cases z : w p = 0
  · rw [if_pos z, if_neg (fun y => by have := (NM_bit.mp y.1).2; omega)]
  · have p0 := hw p hp
    rw [if_neg z, ← h p hp z]
    by_cases y : a p = k
    · rw [if_pos y, if_pos ⟨NM_bit.mpr ⟨hp, by omega⟩, y⟩]
    · rw [if_neg y, if_neg (fun x => y x.2)]
theorem used_eq (hw : ∀ p, p < n → 0 ≤ w p) {d a : Nat → Nat} (h : ∀ p, p < n → w p ≠ 0 → a p = d (wi w p)) (hL : ∀ i, i < wi w n → d i < L) :
    ctF d (wi w n) = usd n (NM w n) a L := by
  rw [ct_eq d L (wi w n) hL]
  unfold usd
  refine sumN_congr (fun k _ => ?_)
  show (if anyB (fun j => d j == k) (wi w n) = true then (1 : Int) else 0) = (if anyB (fun p => (NM w n).testBit p && a p == k) n = true then 1 else 0)
  have key : anyB (fun j => d j == k) (wi w n) = true ↔ anyB (fun p => (NM w n).testBit p && a p == k) n = true := by
    rw [anyB_iff, anyB_iff]
    constructor
    · rintro ⟨i, hi, e⟩
      have x := wp_at n i hi
      have p0 := hw _ x.1
      refine ⟨wp w n i, x.1, ?_⟩
      rw [Bool.and_eq_true]
      refine ⟨NM_bit.mpr ⟨x.1, by have := x.2.1; omega⟩, ?_⟩
      have e2 : d i = k := by simpa using e
      have := h _ x.1 x.2.1
      rw [x.2.2] at this
      simp [this, e2]
    · rintro ⟨p, hp, e⟩
      rw [Bool.and_eq_true] at e
      have p0 := (NM_bit.mp e.1).2
      refine ⟨wi w p, wi_lt hp (by omega), ?_⟩
      have e2 : a p = k := by simpa using e.2
      have := h p hp (by omega)
      simp [← this, e2]
  by_cases z : anyB (fun j => d j == k) (wi w n) = true
  · rw [if_pos z, if_pos (key.mp z)]
  · rw [if_neg z, if_neg (fun y => z (key.mpr y))]
theorem VA_of (hw : ∀ p, p < n → 0 ≤ w p) {most : Int} {d : Nat → Nat} (H : Vd st col w n L most d) : VA st col w n L (NM w n) (fun p => d (wi w p)) := by
  obtain ⟨h1, h2, h3⟩ := H
  refine ⟨fun p hp => ?_, fun k hk => ?_⟩
  · have b := NM_bit.mp hp
    exact h1 (wi w p) (wi_lt b.1 (by omega))
  · obtain ⟨p, hp, e⟩ := hk
    have b := NM_bit.mp hp
    have l := h2 (wi w p) (wi_lt b.1 (by omega))
    have e2 : d (wi w p) = k := e
    rw [e2, load_eq hw (a := fun p => d (wi w p)) (fun p _ _ => rfl)] at l
    exact l
theorem Vd_of (hw : ∀ p, p < n → 0 ≤ w p) {most : Int} {a : Nat → Nat} (H : VA st col w n L (NM w n) a) (hm : usd n (NM w n) a L ≤ most) : Vd st col w n L most (fun i => a (wp w n i)) := by
  obtain ⟨h1, h2⟩ := H
  have bit : ∀ i, i < wi w n → (NM w n).testBit (wp w n i) = true := fun i hi => by
    have x := wp_at n i hi
    have p0 := hw _ x.1
    exact NM_bit.mpr ⟨x.1, by have := x.2.1; omega⟩
  have ha : ∀ p, p < n → w p ≠ 0 → a p = (fun i => a (wp w n i)) (wi w p) := fun p hp z => by show a p = a (wp w n (wi w p)); rw [wp_wi z n hp]
  refine ⟨fun i hi => h1 _ (bit i hi), fun i hi => ?_, ?_⟩
  · rw [load_eq hw ha]
    exact h2 _ ⟨wp w n i, bit i hi, rfl⟩
  · rw [used_eq hw ha (L := L) (fun i hi => (h1 _ (bit i hi)).1)]
    exact hm
theorem pw_6 : pw 0 = 1048576 ∧ pw 1 = 65536 ∧ pw 2 = 4096 ∧ pw 3 = 256 ∧ pw 4 = 16 ∧ pw 5 = 1 := by decide
/-- the lots of the pieces, none for those that want none -/
def xD (n s : Nat) (a : Nat → Nat) (p : Nat) : Int := if p < n ∧ s.testBit p = true then (a p : Int) else 0
theorem plc_x {s : Nat} {a : Nat → Nat} (hn : n ≤ 6) : plc n s a = 1048576 * xD n s a 0 + 65536 * xD n s a 1 + 4096 * xD n s a 2 + 256 * xD n s a 3 + 16 * xD n s a 4 + xD n s a 5 := by
  have e1 : plc n s a = sumN (fun p => xD n s a p * pw p) n := sumN_congr (fun p hp => by
    show (if s.testBit p = true then (a p : Int) * pw p else 0) = xD n s a p * pw p
    unfold xD
    by_cases z : s.testBit p = true
    · rw [if_pos z, if_pos ⟨hp, z⟩]
    · rw [if_neg z, if_neg (fun y => z y.2), Int.zero_mul])
  have e2 : sumN (fun p => xD n s a p * pw p) (n + (6 - n)) = sumN (fun p => xD n s a p * pw p) n := by
    rw [sumN_app, sumN_congr (f := fun j => xD n s a (n + j) * pw (n + j)) (g := fun _ => 0) (fun j _ => by
      show xD n s a (n + j) * pw (n + j) = 0
      unfold xD
      rw [if_neg (fun y => by omega), Int.zero_mul]), sumN_const]
    omega
  rw [show n + (6 - n) = 6 by omega] at e2
  obtain ⟨a0, a1, a2, a3, a4, a5⟩ := pw_6
  rw [e1, ← e2]
  show 0 + xD n s a 0 * pw 0 + xD n s a 1 * pw 1 + xD n s a 2 * pw 2 + xD n s a 3 * pw 3 + xD n s a 4 * pw 4 + xD n s a 5 * pw 5 = _
  rw [a0, a1, a2, a3, a4, a5]
  omega
theorem xD_bd {s : Nat} {a : Nat → Nat} (h : ∀ p, s.testBit p = true → a p < L) (hL : L ≤ 10) (p : Nat) : 0 ≤ xD n s a p ∧ xD n s a p ≤ 9 := by
  unfold xD
  split
  · next z => have := h p z.2; omega
  · omega
theorem lex_le {x y : Nat → Int} (hx : ∀ p, 0 ≤ x p ∧ x p ≤ 9) (hy : ∀ p, 0 ≤ y p ∧ y p ≤ 9) (h : ∀ p, (∀ r, r < p → x r = y r) → x p ≤ y p) :
    1048576 * x 0 + 65536 * x 1 + 4096 * x 2 + 256 * x 3 + 16 * x 4 + x 5 ≤ 1048576 * y 0 + 65536 * y 1 + 4096 * y 2 + 256 * y 3 + 16 * y 4 + y 5 := by
  have b0 := hx 0; have b1 := hx 1; have b2 := hx 2; have b3 := hx 3; have b4 := hx 4; have b5 := hx 5
  have c0 := hy 0; have c1 := hy 1; have c2 := hy 2; have c3 := hy 3; have c4 := hy 4; have c5 := hy 5
  have h0 := h 0 (fun r hr => absurd hr (Nat.not_lt_zero _))
  by_cases e0 : x 0 = y 0
  · have h1 := h 1 (fun r hr => by rw [show r = 0 by omega]; exact e0)
    by_cases e1 : x 1 = y 1
    · have h2 := h 2 (fun r hr => by
        by_cases z : r = 0
        · rw [z]; exact e0
        · rw [show r = 1 by omega]; exact e1)
      by_cases e2 : x 2 = y 2
      · have h3 := h 3 (fun r hr => by
          by_cases z : r = 0
          · rw [z]; exact e0
          · by_cases z1 : r = 1
            · rw [z1]; exact e1
            · rw [show r = 2 by omega]; exact e2)
        by_cases e3 : x 3 = y 3
        · have h4 := h 4 (fun r hr => by
            by_cases z : r = 0
            · rw [z]; exact e0
            · by_cases z1 : r = 1
              · rw [z1]; exact e1
              · by_cases z2 : r = 2
                · rw [z2]; exact e2
                · rw [show r = 3 by omega]; exact e3)
          by_cases e4 : x 4 = y 4
          · have h5 := h 5 (fun r hr => by
              by_cases z : r = 0
              · rw [z]; exact e0
              · by_cases z1 : r = 1
                · rw [z1]; exact e1
                · by_cases z2 : r = 2
                  · rw [z2]; exact e2
                  · by_cases z3 : r = 3
                    · rw [z3]; exact e3
                    · rw [show r = 4 by omega]; exact e4)
            omega
          · omega
        · omega
      · omega
    · omega
  · omega
theorem xD_digit {C D : Int} {x : Nat → Int} (hx : ∀ p, 0 ≤ x p ∧ x p ≤ 9) (hC : 0 ≤ C) (hD : D = 16777216 * C + (1048576 * x 0 + 65536 * x 1 + 4096 * x 2 + 256 * x 3 + 16 * x 4 + x 5)) :
    D / 16777216 = C ∧ ∀ p, p < 6 → D / 16 ^ (5 - p) % 16 = x p := by
  have b0 := hx 0; have b1 := hx 1; have b2 := hx 2; have b3 := hx 3; have b4 := hx 4; have b5 := hx 5
  subst hD
  refine ⟨by omega, fun p hp => ?_⟩
  match p, hp with
  | 0, _ => show _ / 1048576 % 16 = _; omega
  | 1, _ => show _ / 65536 % 16 = _; omega
  | 2, _ => show _ / 4096 % 16 = _; omega
  | 3, _ => show _ / 256 % 16 = _; omega
  | 4, _ => show _ / 16 % 16 = _; omega
  | 5, _ => show _ / 1 % 16 = _; omega
  | p + 6, h => exact absurd h (by omega)
/-- the class's least cost is that of what the search finds -/
theorem deal_eq (hn : n ≤ 6) (hL : L ≤ 10) (hw : ∀ p, p < n → 0 ≤ w p) {most : Int} {d : Nat → Nat} (hm0 : 0 ≤ most) (H : Vd st col w n L most d) (hlex : LexLow (Vd st col w n L most) d (wi w n)) (hmin : ∀ m', 0 ≤ m' → m' < most → ∀ e, ¬ Vd st col w n L m' e) :
    CL st col (SN w n) (SN pw n) (NM w n) L (NM w n) ≠ NOD ∧ CL st col (SN w n) (SN pw n) (NM w n) L (NM w n) / 16777216 = most ∧ ∀ p, p < n → 0 < w p → CL st col (SN w n) (SN pw n) (NM w n) L (NM w n) / 16 ^ (5 - p) % 16 = (d (wi w p) : Int) := by
  have hnd := NM_lt w n
  have subr : sub (NM w n) (NM w n) = true := sub_of (fun _ h => h)
  have hV := VA_of hw H
  have le := CL_le hn hnd (fun p => d (wi w p)) L hL (NM w n) (Nat.le_refl _) subr hV
  obtain ⟨a, hA, hca⟩ := CL_at (w := w) (st := st) (col := col) hn hnd L hL (NM w n) (Nat.le_refl _) subr le.1
  generalize hCL : CL st col (SN w n) (SN pw n) (NM w n) L (NM w n) = D at *
  have ud := used_eq (L := L) hw (d := d) (a := fun p => d (wi w p)) (fun p _ _ => rfl) (fun i hi => (H.1 i hi).1)
  have cd := H.2.2
  have c0 := (ctF_bd d (wi w n)).1
  have hme : usd n (NM w n) (fun p => d (wi w p)) L = most := by
    by_cases z : usd n (NM w n) (fun p => d (wi w p)) L = most
    · exact z
    · exact absurd (show Vd st col w n L (usd n (NM w n) (fun p => d (wi w p)) L) d from ⟨H.1, H.2.1, by rw [ud]; exact Int.le_refl _⟩) (hmin _ (by omega) (by omega) d)
  have va := Vd_of hw hA (most := usd n (NM w n) a L) (Int.le_refl _)
  have ua0 : 0 ≤ usd n (NM w n) a L := by
    have e := used_eq (L := L) hw (d := fun i => a (wp w n i)) (a := a) (fun p hp z => by show a p = a (wp w n (wi w p)); rw [wp_wi z n hp]) (fun i hi => (va.1 i hi).1)
    rw [← e]; exact (ctF_bd _ _).1
  have hma : most ≤ usd n (NM w n) a L := by
    by_cases z : most ≤ usd n (NM w n) a L
    · exact z
    · exact absurd va (hmin _ ua0 (by omega) _)
  have xd := xD_bd (n := n) (a := fun p => d (wi w p)) (fun p hp => (hV.1 p hp).1) hL
  have xa := xD_bd (n := n) (a := a) (fun p hp => (hA.1 p hp).1) hL
  have pd := plc_x (s := NM w n) (a := fun p => d (wi w p)) hn
  have pa := plc_x (s := NM w n) (a := a) hn
  have d0 := xd 0; have d1 := xd 1; have d2 := xd 2; have d3 := xd 3; have d4 := xd 4; have d5 := xd 5
  have a0 := xa 0; have a1 := xa 1; have a2 := xa 2; have a3 := xa 3; have a4 := xa 4; have a5 := xa 5
  have l2 := le.2
  unfold cst at l2 hca
  rw [hme] at l2
  have hue : usd n (NM w n) a L = most := by omega
  have va2 : Vd st col w n L most (fun i => a (wp w n i)) := by rw [← hue]; exact va
  have lx := lex_le xd xa (fun p hp => by
    by_cases z : p < n ∧ (NM w n).testBit p = true
    · have bp := NM_bit.mp z.2
      have g := hlex (wi w p) (wi_lt z.1 (by omega)) _ va2 (fun j hj => by
        have hjn : j < wi w n := Nat.lt_trans hj (wi_lt z.1 (by omega))
        have x := wp_at n j hjn
        have r1 : wp w n j < p := by
          by_cases y : wp w n j < p
          · exact y
          · have := wi_mono w (wp w n j - p) p
            rw [show p + (wp w n j - p) = wp w n j by omega, x.2.2] at this
            omega
        have e := hp _ r1
        have b := hw _ x.1
        have bj : (NM w n).testBit (wp w n j) = true := NM_bit.mpr ⟨x.1, by have := x.2.1; omega⟩
        unfold xD at e
        rw [if_pos ⟨x.1, bj⟩, if_pos ⟨x.1, bj⟩] at e
        have e : ((d (wi w (wp w n j)) : Nat) : Int) = (a (wp w n j) : Nat) := e
        rw [x.2.2] at e
        show a (wp w n j) = d j
        omega)
      have g : d (wi w p) ≤ a (wp w n (wi w p)) := g
      rw [wp_wi (by omega) n z.1] at g
      unfold xD
      rw [if_pos z, if_pos z]
      show ((d (wi w p) : Nat) : Int) ≤ (a p : Nat)
      omega
    · unfold xD
      rw [if_neg z, if_neg z]
      exact Int.le_refl _)
  have hD : D = 16777216 * most + (1048576 * xD n (NM w n) (fun p => d (wi w p)) 0 + 65536 * xD n (NM w n) (fun p => d (wi w p)) 1 + 4096 * xD n (NM w n) (fun p => d (wi w p)) 2 + 256 * xD n (NM w n) (fun p => d (wi w p)) 3 + 16 * xD n (NM w n) (fun p => d (wi w p)) 4 + xD n (NM w n) (fun p => d (wi w p)) 5) := by omega
  have dg := xD_digit xd hm0 hD
  refine ⟨le.1, dg.1, fun p hp hpw => ?_⟩
  rw [dg.2 p (by omega)]
  unfold xD
  rw [if_pos ⟨hp, NM_bit.mpr ⟨hp, hpw⟩⟩]
theorem deal_none (hn : n ≤ 6) (hL : L ≤ 10) (hw : ∀ p, p < n → 0 ≤ w p) (h : ∀ e, ¬ Vd st col w n L 6 e) : CL st col (SN w n) (SN pw n) (NM w n) L (NM w n) = NOD := by
  have hnd := NM_lt w n
  have subr : sub (NM w n) (NM w n) = true := sub_of (fun _ h => h)
  by_cases z : CL st col (SN w n) (SN pw n) (NM w n) L (NM w n) = NOD
  · exact z
  · obtain ⟨a, hA, -⟩ := CL_at (w := w) (st := st) (col := col) hn hnd L hL (NM w n) (Nat.le_refl _) subr z
    have va := Vd_of hw hA (most := usd n (NM w n) a L) (Int.le_refl _)
    have e := used_eq (L := L) hw (d := fun i => a (wp w n i)) (a := a) (fun p hp z => by show a p = a (wp w n (wi w p)); rw [wp_wi z n hp]) (fun i hi => (va.1 i hi).1)
    have b := (ctF_bd (fun i => a (wp w n i)) (wi w n)).2
    have c := wi_le w n
    exact absurd (Vd_of hw hA (most := 6) (by omega)) (h _)
end MAIN
