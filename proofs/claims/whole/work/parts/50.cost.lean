/-! ===== the class's costs of dealings: a dealing for each, and none cheaper ===== -/
def anyB (f : Nat → Bool) : Nat → Bool
  | 0 => false
  | m + 1 => anyB f m || f m
theorem anyB_iff {f : Nat → Bool} : ∀ {m : Nat}, anyB f m = true ↔ ∃ p, p < m ∧ f p = true
  | 0 => ⟨fun h => (by cases h), fun ⟨p, h, _⟩ => absurd h (Nat.not_lt_zero _)⟩
  | m + 1 => by
    unfold anyB
    rw [Bool.or_eq_true, anyB_iff]
    constructor
    · rintro (⟨p, h1, h2⟩ | h)
      · exact ⟨p, by omega, h2⟩
      · exact ⟨m, by omega, h⟩
    · rintro ⟨p, h1, h2⟩
      by_cases z : p = m
      · right; rw [← z]; exact h2
      · left; exact ⟨p, by omega, h2⟩
theorem anyB_congr {f g : Nat → Bool} {m : Nat} (h : ∀ p, p < m → (f p = true ↔ g p = true)) : anyB f m = anyB g m := by
  have key : anyB f m = true ↔ anyB g m = true := by
    rw [anyB_iff, anyB_iff]
    exact ⟨fun ⟨p, a, b⟩ => ⟨p, a, (h p a).mp b⟩, fun ⟨p, a, b⟩ => ⟨p, a, (h p a).mpr b⟩⟩
  cases h1 : anyB f m <;> cases h2 : anyB g m
  · rfl
  · rw [h1, h2] at key; exact absurd (key.mpr rfl) (by decide)
  · rw [h1, h2] at key; exact absurd (key.mp rfl) (by decide)
  · rfl
def mkS (P : Nat → Bool) : Nat → Nat
  | 0 => 0
  | t + 1 => if P t = true then 2 ^ t + mkS P t else mkS P t
theorem mkS_lt (P : Nat → Bool) : ∀ t, mkS P t < 2 ^ t
  | 0 => by unfold mkS; decide
  | t + 1 => by
    have ih := mkS_lt P t
    have e : 2 ^ (t + 1) = 2 ^ t + 2 ^ t := by rw [Nat.pow_succ]; omega
    unfold mkS
    split <;> omega
theorem mkS_bit (P : Nat → Bool) : ∀ t p, (mkS P t).testBit p = true ↔ p < t ∧ P p = true
  | 0, p => by unfold mkS; rw [Nat.zero_testBit]; exact ⟨fun h => (by cases h), fun h => absurd h.1 (Nat.not_lt_zero _)⟩
  | t + 1, p => by
    have ih := mkS_bit P t p
    have lt := mkS_lt P t
    have hb : t < p → (mkS P (t + 1)).testBit p = false := fun z => Nat.testBit_lt_two_pow (Nat.lt_of_lt_of_le (mkS_lt P (t + 1)) (Nat.pow_le_pow_right (by decide) (by omega)))
    by_cases z : t < p
    · rw [hb z]
      exact ⟨fun h => (by cases h), fun h => absurd h.1 (by omega)⟩
    · unfold mkS
      by_cases y : P t = true
      · rw [if_pos y]
        by_cases e : p = t
        · subst e
          rw [Nat.testBit_two_pow_add_eq, Nat.testBit_lt_two_pow lt]
          exact ⟨fun _ => ⟨by omega, y⟩, fun _ => rfl⟩
        · rw [Nat.testBit_two_pow_add_gt (by omega), ih]
          exact ⟨fun h => ⟨by omega, h.2⟩, fun h => ⟨by omega, h.2⟩⟩
      · rw [if_neg y, ih]
        constructor
        · exact fun h => ⟨by omega, h.2⟩
        · intro h
          refine ⟨?_, h.2⟩
          by_cases e : p = t
          · rw [e] at h; exact absurd h.2 y
          · omega
theorem SN_bits (w : Nat → Int) : ∀ t s, s < 2 ^ t → SN w t s = sumN (fun p => if s.testBit p = true then w p else 0) t
  | 0, _, _ => rfl
  | t + 1, s, h => by
    unfold SN sumN
    by_cases z : s < 2 ^ t
    · rw [if_pos z, SN_bits w t s z, Nat.testBit_lt_two_pow z, if_neg (by decide)]; omega
    · have e : 2 ^ (t + 1) = 2 ^ t + 2 ^ t := by rw [Nat.pow_succ]; omega
      rw [if_neg z, SN_bits w t (s - 2 ^ t) (by omega)]
      have es : s = 2 ^ t + (s - 2 ^ t) := by omega
      have eb : s.testBit t = true := by rw [es, Nat.testBit_two_pow_add_eq, Nat.testBit_lt_two_pow (by omega)]; rfl
      rw [eb, if_pos rfl]
      rw [sumN_congr (f := fun p => if (s - 2 ^ t).testBit p = true then w p else 0) (g := fun p => if s.testBit p = true then w p else 0) (fun p hp => by
        show (if (s - 2 ^ t).testBit p = true then w p else 0) = (if s.testBit p = true then w p else 0)
        conv => rhs; rw [es, Nat.testBit_two_pow_add_gt hp])]
theorem sub_bits {t s p : Nat} (h : sub t s = true) (hp : t.testBit p = true) : s.testBit p = true := by
  unfold sub at h
  have e : t &&& s = t := by simpa using h
  rw [← e, Nat.testBit_and, Bool.and_eq_true] at hp
  exact hp.2
theorem sub_of {t s : Nat} (h : ∀ p, t.testBit p = true → s.testBit p = true) : sub t s = true := by
  unfold sub
  have e : t &&& s = t := Nat.eq_of_testBit_eq (fun p => by
    rw [Nat.testBit_and]
    cases z : t.testBit p
    · rfl
    · rw [h p z]; rfl)
  simpa using e
theorem min_bits0 : ∀ s, s < 64 → ∀ t, t < 64 → sub t s = true → ∀ p, p < 6 → (s - t).testBit p = (s.testBit p && !(t.testBit p)) := by decide +kernel
theorem min_bits {s t p : Nat} (hs : s < 64) (h : sub t s = true) : (s - t).testBit p = true ↔ s.testBit p = true ∧ ¬ t.testBit p = true := by
  have ht : t < 64 := Nat.lt_of_le_of_lt (sub_le h) hs
  by_cases hp : p < 6
  · rw [min_bits0 s hs t ht h p hp, Bool.and_eq_true]
    cases t.testBit p <;> simp
  · have f : ∀ x, x < 64 → x.testBit p = false := fun x hx => Nat.testBit_lt_two_pow (Nat.lt_of_lt_of_le hx (Nat.pow_le_pow_right (show 0 < 2 by decide) (show 6 ≤ p by omega)))
    rw [f _ (by omega), f s hs]
    simp
/-- a dealing of the lots below l to the pieces of a set -/
def VA (st : Nat → Int) (col : Int) (w : Nat → Int) (n l s : Nat) (a : Nat → Nat) : Prop := (∀ p, s.testBit p = true → a p < l ∧ rd st 132 (4 + (a p : Int)) = col) ∧
  ∀ k : Nat, (∃ p, s.testBit p = true ∧ a p = k) → sumN (fun p => if s.testBit p = true ∧ a p = k then w p else 0) n ≤ 1000 * rd st 132 (14 + (k : Int))
def usd (n s : Nat) (a : Nat → Nat) (l : Nat) : Int := sumN (fun k => if anyB (fun p => s.testBit p && a p == k) n = true then 1 else 0) l
def plc (n s : Nat) (a : Nat → Nat) : Int := sumN (fun p => if s.testBit p = true then (a p : Int) * pw p else 0) n
def cst (n s : Nat) (a : Nat → Nat) (l : Nat) : Int := 16777216 * usd n s a l + plc n s a
theorem cWf_le (c sn sp : Nat → Int) (lot room : Int) (s : Nat) : ∀ (m t : Nat) (a : Int), cWf c sn sp lot room s m t a ≤ a
  | 0, _, a => Int.le_refl _
  | m + 1, t, a => by
    unfold cWf
    refine Int.le_trans (cWf_le c sn sp lot room s m (t + 1) _) ?_
    split <;> omega
theorem cWf_le2 (c sn sp : Nat → Int) (lot room : Int) (s : Nat) {q : Nat} (hc : sub q s = true ∧ sn q ≤ room ∧ c (s - q) ≠ NOD) : ∀ (m t : Nat) (a : Int), t ≤ q → q < t + m → cWf c sn sp lot room s m t a ≤ c (s - q) + 16777216 + lot * sp q
  | 0, t, a, h1, h2 => by omega
  | m + 1, t, a, h1, h2 => by
    unfold cWf
    by_cases z : t = q
    · subst z
      rw [if_pos hc]
      refine Int.le_trans (cWf_le c sn sp lot room s m (t + 1) _) ?_
      omega
    · exact cWf_le2 c sn sp lot room s hc m (t + 1) _ (by omega) (by omega)
theorem cWf_at (c sn sp : Nat → Int) (lot room : Int) (s : Nat) : ∀ (m t : Nat) (a : Int), cWf c sn sp lot room s m t a = a ∨ ∃ q, t ≤ q ∧ q < t + m ∧ (sub q s = true ∧ sn q ≤ room ∧ c (s - q) ≠ NOD) ∧ cWf c sn sp lot room s m t a = c (s - q) + 16777216 + lot * sp q
  | 0, _, a => Or.inl rfl
  | m + 1, t, a => by
    unfold cWf
    by_cases z : sub t s = true ∧ sn t ≤ room ∧ c (s - t) ≠ NOD
    · rw [if_pos z]
      rcases cWf_at c sn sp lot room s m (t + 1) (min a (c (s - t) + 16777216 + lot * sp t)) with y | ⟨q, q1, q2, q3, q4⟩
      · rw [y]
        by_cases x : a ≤ c (s - t) + 16777216 + lot * sp t
        · left; omega
        · right; exact ⟨t, by omega, by omega, z, by omega⟩
      · right; exact ⟨q, by omega, by omega, q3, q4⟩
    · rw [if_neg z]
      rcases cWf_at c sn sp lot room s m (t + 1) a with y | ⟨q, q1, q2, q3, q4⟩
      · exact Or.inl y
      · right; exact ⟨q, by omega, by omega, q3, q4⟩
theorem bit_lt {s n p : Nat} (hs : s < 2 ^ n) (h : s.testBit p = true) : p < n := by
  by_cases z : p < n
  · exact z
  · rw [Nat.testBit_lt_two_pow (Nat.lt_of_lt_of_le hs (Nat.pow_le_pow_right (by decide) (by omega)))] at h; cases h
theorem no_bits {s : Nat} (h : ∀ p, ¬ s.testBit p = true) : s = 0 := Nat.eq_of_testBit_eq (fun p => by rw [Nat.zero_testBit]; cases z : s.testBit p; rfl; exact absurd z (h p))
theorem usd_none {n s l : Nat} {a : Nat → Nat} (h : ∀ p, s.testBit p = true → a p ≠ l) : usd n s a (l + 1) = usd n s a l := by
  unfold usd
  show _ + (if anyB (fun p => s.testBit p && a p == l) n = true then (1 : Int) else 0) = _
  rw [if_neg (fun z => by
    obtain ⟨p, _, hp⟩ := anyB_iff.mp z
    rw [Bool.and_eq_true] at hp
    exact h p hp.1 (by simpa using hp.2))]
  omega
theorem usd_0 {n l : Nat} {a : Nat → Nat} : usd n 0 a l = 0 := by
  unfold usd
  rw [sumN_congr (g := fun _ => 0) (fun k _ => if_neg (fun z => by
    obtain ⟨p, _, hp⟩ := anyB_iff.mp z
    rw [Bool.and_eq_true, Nat.zero_testBit] at hp
    cases hp.1)), sumN_const]
  omega
theorem plc_0 {n : Nat} {a : Nat → Nat} : plc n 0 a = 0 := by
  unfold plc
  rw [sumN_congr (g := fun _ => 0) (fun k _ => if_neg (fun z => by rw [Nat.zero_testBit] at z; cases z)), sumN_const]
  omega
/-- one lot more, for the pieces of t -/
theorem cst_add {n s t l : Nat} {a : Nat → Nat} (hs : s < 64) (hn : s < 2 ^ n) (h : sub t s = true) (h1 : 1 ≤ t) (ha : ∀ p, s.testBit p = true → (t.testBit p = true ↔ a p = l)) :
    cst n s a (l + 1) = cst n (s - t) a l + 16777216 + (l : Int) * SN pw n t := by
  have ht : t < 2 ^ n := Nat.lt_of_le_of_lt (sub_le h) hn
  obtain ⟨p0, hp0⟩ : ∃ p, t.testBit p = true := by
    by_cases z : ∃ p, t.testBit p = true
    · exact z
    · have := no_bits (fun p hp => z ⟨p, hp⟩); omega
  have u1 : usd n s a (l + 1) = usd n (s - t) a l + 1 := by
    unfold usd
    show sumN _ l + (if anyB (fun p => s.testBit p && a p == l) n = true then (1 : Int) else 0) = _
    rw [if_pos (anyB_iff.mpr ⟨p0, bit_lt ht hp0, by rw [Bool.and_eq_true]; exact ⟨sub_bits h hp0, by simpa using (ha p0 (sub_bits h hp0)).mp hp0⟩⟩)]
    rw [sumN_congr (g := fun k => if anyB (fun p => (s - t).testBit p && a p == k) n = true then 1 else 0) (fun k hk => by
      show (if anyB (fun p => s.testBit p && a p == k) n = true then (1 : Int) else 0) = _
      rw [anyB_congr (g := fun p => (s - t).testBit p && a p == k) (fun p _ => by
        show (s.testBit p && a p == k) = true ↔ ((s - t).testBit p && a p == k) = true
        rw [Bool.and_eq_true, Bool.and_eq_true, min_bits hs h]
        constructor
        · rintro ⟨x, y⟩
          have y2 : a p = k := by simpa using y
          exact ⟨⟨x, fun z => by have := (ha p x).mp z; omega⟩, y⟩
        · rintro ⟨⟨x, _⟩, y⟩
          exact ⟨x, y⟩)])]
  have p1 : plc n s a = plc n (s - t) a + (l : Int) * SN pw n t := by
    unfold plc
    rw [SN_bits pw n t ht, ← sumN_mul, ← sumN_add]
    refine sumN_congr (fun p _ => ?_)
    show (if s.testBit p = true then (a p : Int) * pw p else 0) = (if (s - t).testBit p = true then (a p : Int) * pw p else 0) + (l : Int) * (if t.testBit p = true then pw p else 0)
    by_cases x : s.testBit p = true
    · by_cases y : t.testBit p = true
      · rw [if_pos x, if_neg (fun z => ((min_bits hs h).mp z).2 y), if_pos y, (ha p x).mp y]; omega
      · rw [if_pos x, if_pos ((min_bits hs h).mpr ⟨x, y⟩), if_neg y, Int.mul_zero]; omega
    · rw [if_neg x, if_neg (fun z => x ((min_bits hs h).mp z).1), if_neg (fun z => x (sub_bits h z)), Int.mul_zero]; omega
  unfold cst
  rw [u1, p1]
  omega
theorem sp_bd {n : Nat} (hn6 : n ≤ 6) : ∀ q, q < 64 → 0 ≤ SN pw n q ∧ SN pw n q ≤ 1118481 := by
  have : ∀ k, k ≤ 6 → ∀ q, q < 64 → 0 ≤ SN pw k q ∧ SN pw k q ≤ 1118481 := by decide +kernel
  intro q hq; exact this n hn6 q hq
section COST
variable {st : Nat → Int} {col : Int} {w : Nat → Int} {n nd : Nat}
theorem CL_b (hn : n ≤ 6) (hnd : nd < 2 ^ n) {l : Nat} (hl : l ≤ 10) {q : Nat} (hq : q < 64) (hne : CL st col (SN w n) (SN pw n) nd l q ≠ NOD) : CL st col (SN w n) (SN pw n) nd l q ≤ 270000000 := by
  have h64 : nd < 64 := Nat.lt_of_lt_of_le hnd (two_pow_le6 hn)
  rcases CL_bd (st := st) (col := col) (sn := SN w n) (sp := SN pw n) (nd := nd) (sp_bd hn) h64 l hl q hq with y | y
  · exact absurd y hne
  · omega
theorem CL_le (hn : n ≤ 6) (hnd : nd < 2 ^ n) (a : Nat → Nat) : ∀ (l : Nat), l ≤ 10 → ∀ s, s ≤ nd → sub s nd = true → VA st col w n l s a → CL st col (SN w n) (SN pw n) nd l s ≠ NOD ∧ CL st col (SN w n) (SN pw n) nd l s ≤ cst n s a l
  | 0, _, s, _, _, hV => by
    have e : s = 0 := no_bits (fun p hp => Nat.not_lt_zero _ (hV.1 p hp).1)
    subst e
    unfold CL
    rw [if_pos rfl]
    unfold cst
    rw [usd_0, plc_0]
    exact ⟨by unfold NOD; decide, by omega⟩
  | l + 1, hl, s, hs, hsub, hV => by
    have h64 : nd < 64 := Nat.lt_of_lt_of_le hnd (two_pow_le6 hn)
    have ih := fun s (h1 : s ≤ nd) (h2 : sub s nd = true) (h3 : VA st col w n l s a) => CL_le hn hnd a l (by omega) s h1 h2 h3
    have stay : (∀ p, s.testBit p = true → a p ≠ l) → CL st col (SN w n) (SN pw n) nd l s ≠ NOD ∧ CL st col (SN w n) (SN pw n) nd l s ≤ cst n s a (l + 1) := by
      intro hne
      have r := ih s hs hsub ⟨fun p hp => ⟨by have := (hV.1 p hp).1; have := hne p hp; omega, (hV.1 p hp).2⟩, hV.2⟩
      have e : cst n s a (l + 1) = cst n s a l := by unfold cst; rw [usd_none hne]
      rw [e]; exact r
    by_cases hc : rd st 132 (4 + (l : Int)) = col
    · have eC : CL st col (SN w n) (SN pw n) nd (l + 1) = oL (CL st col (SN w n) (SN pw n) nd l) (SN w n) (SN pw n) l (1000 * rd st 132 (14 + (l : Int))) nd := by rw [CL, if_pos hc]
      rw [eC]
      unfold oL
      by_cases h0 : 1 ≤ s
      · rw [if_pos ⟨h0, hs, hsub⟩]
        unfold cW
        have ok : ∀ x : Int, x ≤ 300000000 → x ≠ NOD := fun x hx => by unfold NOD; omega
        by_cases he : ∃ p, s.testBit p = true ∧ a p = l
        · obtain ⟨p0, hp0, hp1⟩ := he
          obtain ⟨t, ht⟩ : ∃ t, t = mkS (fun p => s.testBit p && a p == l) n := ⟨_, rfl⟩
          have sn : s < 2 ^ n := by omega
          have tb : ∀ p, t.testBit p = true ↔ s.testBit p = true ∧ a p = l := by
            intro p
            rw [ht, mkS_bit]
            constructor
            · rintro ⟨x, y⟩
              rw [Bool.and_eq_true] at y
              exact ⟨y.1, by simpa using y.2⟩
            · rintro ⟨x, y⟩
              exact ⟨bit_lt sn x, by rw [Bool.and_eq_true]; exact ⟨x, by simpa using y⟩⟩
          have tsub : sub t s = true := sub_of (fun p hp => ((tb p).mp hp).1)
          have tle := sub_le tsub
          have t1 : 1 ≤ t := by
            by_cases z : t = 0
            · have := (tb p0).mpr ⟨hp0, hp1⟩
              rw [z, Nat.zero_testBit] at this; cases this
            · omega
          have load : SN w n t ≤ 1000 * rd st 132 (14 + (l : Int)) := by
            rw [SN_bits w n t (by omega)]
            have := hV.2 l ⟨p0, hp0, hp1⟩
            rw [sumN_congr (g := fun p => if t.testBit p = true then w p else 0) (fun p _ => by
              show (if s.testBit p = true ∧ a p = l then w p else 0) = (if t.testBit p = true then w p else 0)
              by_cases x : t.testBit p = true
              · rw [if_pos x, if_pos ((tb p).mp x)]
              · rw [if_neg x, if_neg (fun y => x ((tb p).mpr y))])] at this
            exact this
          have mb : ∀ p, (s - t).testBit p = true ↔ s.testBit p = true ∧ ¬ a p = l := fun p => by
            rw [min_bits (by omega) tsub, tb]
            exact ⟨fun z => ⟨z.1, fun y => z.2 ⟨z.1, y⟩⟩, fun z => ⟨z.1, fun y => z.2 y.2⟩⟩
          have r := ih (s - t) (by omega) (sub_of (fun p hp => sub_bits hsub ((mb p).mp hp).1)) ⟨fun p hp => by
              have q := (mb p).mp hp
              have v := hV.1 p q.1
              exact ⟨by omega, v.2⟩, fun k hk => by
              obtain ⟨p, hp, ep⟩ := hk
              have q := (mb p).mp hp
              have v := hV.2 k ⟨p, q.1, ep⟩
              rw [sumN_congr (g := fun p => if s.testBit p = true ∧ a p = k then w p else 0) (fun p' _ => by
                show (if (s - t).testBit p' = true ∧ a p' = k then w p' else 0) = (if s.testBit p' = true ∧ a p' = k then w p' else 0)
                by_cases x : s.testBit p' = true ∧ a p' = k
                · rw [if_pos x, if_pos ⟨(mb p').mpr ⟨x.1, by omega⟩, x.2⟩]
                · rw [if_neg x, if_neg (fun y => x ⟨((mb p').mp y.1).1, y.2⟩)])]
              exact v⟩
          have le := cWf_le2 (CL st col (SN w n) (SN pw n) nd l) (SN w n) (SN pw n) l (1000 * rd st 132 (14 + (l : Int))) s (q := t) ⟨tsub, load, r.1⟩ s 1 (CL st col (SN w n) (SN pw n) nd l s) t1 (by omega)
          have b := CL_b (l := l) hn hnd (by omega) (show s - t < 64 by omega) r.1
          have sp := sp_bd hn t (by omega)
          have mm := mul_bd (a := (l : Int)) (b := SN pw n t) (A := 9) (B := 1118481) (by omega) (by omega) sp.1 sp.2
          have ca := cst_add (a := a) (l := l) (show s < 64 by omega) sn tsub t1 (fun p hp => by rw [tb]; exact ⟨fun z => z.2, fun z => ⟨hp, z⟩⟩)
          exact ⟨ok _ (by omega), by omega⟩
        · have r := stay (fun p hp e => he ⟨p, hp, e⟩)
          have le := cWf_le (CL st col (SN w n) (SN pw n) nd l) (SN w n) (SN pw n) l (1000 * rd st 132 (14 + (l : Int))) s s 1 (CL st col (SN w n) (SN pw n) nd l s)
          have b := CL_b (l := l) hn hnd (by omega) (show s < 64 by omega) r.1
          exact ⟨ok _ (by omega), by omega⟩
      · rw [if_neg (fun z => h0 z.1)]
        exact stay (fun p hp => by
          have e : s = 0 := by omega
          rw [e, Nat.zero_testBit] at hp; cases hp)
    · have eC : CL st col (SN w n) (SN pw n) nd (l + 1) = CL st col (SN w n) (SN pw n) nd l := by rw [CL, if_neg hc]
      rw [eC]
      exact stay (fun p hp e => hc (by rw [← e]; exact (hV.1 p hp).2))
theorem CL_at0 {s : Nat} (hne : CL st col (SN w n) (SN pw n) nd 0 s ≠ NOD) : ∃ a, VA st col w n 0 s a ∧ cst n s a 0 = CL st col (SN w n) (SN pw n) nd 0 s := by
  have e : s = 0 := by
    by_cases z : s = 0
    · exact z
    · exact absurd (show CL st col (SN w n) (SN pw n) nd 0 s = NOD from if_neg z) hne
  subst e
  have nb : ∀ p, ¬ (0 : Nat).testBit p = true := fun p hp => by rw [Nat.zero_testBit] at hp; exact absurd hp (by decide)
  have e0 : CL st col (SN w n) (SN pw n) nd 0 0 = 0 := by unfold CL; exact if_pos rfl
  refine ⟨fun _ => 0, ⟨fun p hp => absurd hp (nb p), fun k hk => ?_⟩, ?_⟩
  · obtain ⟨p, hp, -⟩ := hk
    exact absurd hp (nb p)
  · rw [e0]
    unfold cst
    rw [usd_0, plc_0]
    omega
theorem CL_at (hn : n ≤ 6) (hnd : nd < 2 ^ n) : ∀ (l : Nat), l ≤ 10 → ∀ s, s ≤ nd → sub s nd = true → CL st col (SN w n) (SN pw n) nd l s ≠ NOD → ∃ a, VA st col w n l s a ∧ cst n s a l = CL st col (SN w n) (SN pw n) nd l s := by
  intro l
  induction l with
  | zero => intro _ s _ _ hne; exact CL_at0 hne
  | succ l ih0 =>
    intro hl s hs hsub hne
    have h64 : nd < 64 := Nat.lt_of_lt_of_le hnd (two_pow_le6 hn)
    have ih := fun s (h1 : s ≤ nd) (h2 : sub s nd = true) (h3 : CL st col (SN w n) (SN pw n) nd l s ≠ NOD) => ih0 (by omega) s h1 h2 h3
    have stay : CL st col (SN w n) (SN pw n) nd l s ≠ NOD → ∃ a, VA st col w n (l + 1) s a ∧ cst n s a (l + 1) = CL st col (SN w n) (SN pw n) nd l s := by
      intro h
      obtain ⟨a, hV, hc⟩ := ih s hs hsub h
      refine ⟨a, ⟨fun p hp => ⟨by have := (hV.1 p hp).1; omega, (hV.1 p hp).2⟩, hV.2⟩, ?_⟩
      rw [← hc]
      unfold cst
      rw [usd_none (fun p hp => by have := (hV.1 p hp).1; omega)]
    by_cases hc : rd st 132 (4 + (l : Int)) = col
    · have eC : CL st col (SN w n) (SN pw n) nd (l + 1) = oL (CL st col (SN w n) (SN pw n) nd l) (SN w n) (SN pw n) l (1000 * rd st 132 (14 + (l : Int))) nd := by rw [CL, if_pos hc]
      rw [eC] at hne ⊢
      unfold oL at hne ⊢
      by_cases h0 : 1 ≤ s ∧ s ≤ nd ∧ sub s nd = true
      · rw [if_pos h0] at hne ⊢
        unfold cW at hne ⊢
        rcases cWf_at (CL st col (SN w n) (SN pw n) nd l) (SN w n) (SN pw n) l (1000 * rd st 132 (14 + (l : Int))) s s 1 (CL st col (SN w n) (SN pw n) nd l s) with y | ⟨t, t1, t2, ⟨tsub, load, t4⟩, t5⟩
        · rw [y] at hne ⊢
          exact stay hne
        · rw [t5]
          have tle := sub_le tsub
          have sn : s < 2 ^ n := by omega
          have mb : ∀ p, (s - t).testBit p = true ↔ s.testBit p = true ∧ ¬ t.testBit p = true := fun p => min_bits (by omega) tsub
          obtain ⟨a0, hV, hca⟩ := ih (s - t) (by omega) (sub_of (fun p hp => sub_bits hsub ((mb p).mp hp).1)) t4
          obtain ⟨a, ha⟩ : ∃ a : Nat → Nat, a = fun p => if t.testBit p = true then l else a0 p := ⟨_, rfl⟩
          have a1 : ∀ p, t.testBit p = true → a p = l := fun p hp => by rw [ha]; exact if_pos hp
          have a2 : ∀ p, ¬ t.testBit p = true → a p = a0 p := fun p hp => by rw [ha]; exact if_neg hp
          have a3 : ∀ p, s.testBit p = true → (t.testBit p = true ↔ a p = l) := by
            intro p hp
            by_cases z : t.testBit p = true
            · exact ⟨fun _ => a1 p z, fun _ => z⟩
            · have := (hV.1 p ((mb p).mpr ⟨hp, z⟩)).1
              have e := a2 p z
              exact ⟨fun y => absurd y z, fun y => by omega⟩
          refine ⟨a, ⟨fun p hp => ?_, fun k hk => ?_⟩, ?_⟩
          · by_cases z : t.testBit p = true
            · rw [a1 p z]; exact ⟨by omega, hc⟩
            · rw [a2 p z]
              have v := hV.1 p ((mb p).mpr ⟨hp, z⟩)
              exact ⟨by omega, v.2⟩
          · by_cases ek : k = l
            · subst ek
              rw [sumN_congr (g := fun p => if t.testBit p = true then w p else 0) (fun p _ => by
                show (if s.testBit p = true ∧ a p = k then w p else 0) = (if t.testBit p = true then w p else 0)
                by_cases x : t.testBit p = true
                · rw [if_pos x, if_pos ⟨sub_bits tsub x, a1 p x⟩]
                · rw [if_neg x, if_neg (fun y => x ((a3 p y.1).mpr y.2))]), ← SN_bits w n t (by omega)]
              exact load
            · obtain ⟨p, hp, ep⟩ := hk
              have nt : ∀ p, s.testBit p = true → a p = k → ¬ t.testBit p = true := fun p hp e z => ek (by rw [← e, a1 p z])
              have v := hV.2 k ⟨p, (mb p).mpr ⟨hp, nt p hp ep⟩, by rw [← a2 p (nt p hp ep)]; exact ep⟩
              rw [sumN_congr (g := fun p => if (s - t).testBit p = true ∧ a0 p = k then w p else 0) (fun p' _ => by
                show (if s.testBit p' = true ∧ a p' = k then w p' else 0) = (if (s - t).testBit p' = true ∧ a0 p' = k then w p' else 0)
                by_cases x : s.testBit p' = true ∧ a p' = k
                · have z := nt p' x.1 x.2
                  rw [if_pos x, if_pos ⟨(mb p').mpr ⟨x.1, z⟩, by rw [← a2 p' z]; exact x.2⟩]
                · rw [if_neg x, if_neg (fun y => x ⟨((mb p').mp y.1).1, by rw [a2 p' ((mb p').mp y.1).2]; exact y.2⟩)])]
              exact v
          · rw [cst_add (a := a) (l := l) (show s < 64 by omega) sn tsub t1 a3]
            have e : cst n (s - t) a l = cst n (s - t) a0 l := by
              unfold cst usd plc
              rw [sumN_congr (g := fun k => if anyB (fun p => (s - t).testBit p && a0 p == k) n = true then 1 else 0) (fun k _ => by
                show (if anyB (fun p => (s - t).testBit p && a p == k) n = true then (1 : Int) else 0) = _
                rw [anyB_congr (g := fun p => (s - t).testBit p && a0 p == k) (fun p _ => by
                  show ((s - t).testBit p && a p == k) = true ↔ ((s - t).testBit p && a0 p == k) = true
                  rw [Bool.and_eq_true, Bool.and_eq_true]
                  constructor
                  · rintro ⟨x, y⟩; exact ⟨x, by rw [← a2 p ((mb p).mp x).2]; exact y⟩
                  · rintro ⟨x, y⟩; exact ⟨x, by rw [a2 p ((mb p).mp x).2]; exact y⟩)]),
                sumN_congr (f := fun p => if (s - t).testBit p = true then (a p : Int) * pw p else 0) (g := fun p => if (s - t).testBit p = true then (a0 p : Int) * pw p else 0) (fun p _ => by
                  show (if (s - t).testBit p = true then (a p : Int) * pw p else 0) = (if (s - t).testBit p = true then (a0 p : Int) * pw p else 0)
                  by_cases x : (s - t).testBit p = true
                  · rw [if_pos x, if_pos x, a2 p ((mb p).mp x).2]
                  · rw [if_neg x, if_neg x])]
            rw [e, hca]
      · rw [if_neg h0] at hne ⊢
        exact stay hne
    · have eC : CL st col (SN w n) (SN pw n) nd (l + 1) = CL st col (SN w n) (SN pw n) nd l := by rw [CL, if_neg hc]
      rw [eC] at hne ⊢
      exact stay hne
end COST
